/-! mathematics: bits and rows (the family bt out of kit/laws/BITS.to-paste) -/
def bt (x : Int32) (i : Nat) : Bool := x.toBitVec.getLsbD i
theorem b_ext {x y : Int32} (h : ∀ i, i < 32 → bt x i = bt y i) : x = y := Int32.toBitVec_inj.mp (BitVec.eq_of_getLsbD_eq (fun i hi => h i hi))
theorem b_or (x y : Int32) (i : Nat) : bt (x ||| y) i = (bt x i || bt y i) := by unfold bt; rw [Int32.toBitVec_or, BitVec.getLsbD_or]
theorem b_and (x y : Int32) (i : Nat) : bt (x &&& y) i = (bt x i && bt y i) := by unfold bt; rw [Int32.toBitVec_and, BitVec.getLsbD_and]
theorem b_xor (x y : Int32) (i : Nat) : bt (x ^^^ y) i = (bt x i ^^ bt y i) := by unfold bt; rw [Int32.toBitVec_xor, BitVec.getLsbD_xor]
theorem b_big {x : Int32} {i : Nat} (h : 32 ≤ i) : bt x i = false := BitVec.getLsbD_of_ge _ _ h
theorem b_255 (i : Nat) : bt 255 i = decide (i < 8) := by
  rcases Nat.lt_or_ge i 32 with h | h
  · exact (by decide +kernel : ∀ i, i < 32 → bt 255 i = decide (i < 8)) i h
  · rw [b_big h, decide_eq_false (by omega)]
theorem b_65535 (i : Nat) : bt 65535 i = decide (i < 16) := by
  rcases Nat.lt_or_ge i 32 with h | h
  · exact (by decide +kernel : ∀ i, i < 32 → bt 65535 i = decide (i < 16)) i h
  · rw [b_big h, decide_eq_false (by omega)]
theorem b_m1 : ∀ i, i < 32 → bt (-1) i = true := by decide +kernel
theorem b_0 (i : Nat) : bt 0 i = false := BitVec.getLsbD_zero
theorem s_l : ∀ n, n < 32 → ((nI n &&& 31).toBitVec.smod 32).toNat = n := by decide +kernel
theorem s_u : ∀ n, n < 32 → (((nI n).toUInt32 &&& Int32.toUInt32 31).toBitVec % 32).toNat = n := by decide +kernel
theorem b_shl (n : Nat) (hn : n < 32) (x : Int32) {i : Nat} (hi : i < 32) : bt (x <<< (nI n &&& 31)) i = (decide (n ≤ i) && bt x (i - n)) := by
  unfold bt
  rw [Int32.toBitVec_shiftLeft]
  show (x.toBitVec <<< ((nI n &&& 31).toBitVec.smod 32).toNat).getLsbD i = _
  rw [s_l n hn, BitVec.getLsbD_shiftLeft]
  rcases Nat.lt_or_ge i n with h | h
  · simp [h, Nat.not_le.mpr h]
  · simp [hi, h, Nat.not_lt.mpr h]
theorem b_ushr (n : Nat) (hn : n < 32) (x : Int32) (i : Nat) : bt ((x.toUInt32 >>> ((nI n).toUInt32 &&& Int32.toUInt32 31)).toInt32) i = bt x (n + i) := by
  show (x.toUInt32 >>> ((nI n).toUInt32 &&& Int32.toUInt32 31)).toBitVec.getLsbD i = x.toUInt32.toBitVec.getLsbD (n + i)
  rw [UInt32.toBitVec_shiftRight]
  show (x.toUInt32.toBitVec >>> (((nI n).toUInt32 &&& Int32.toUInt32 31).toBitVec % 32).toNat).getLsbD i = _
  rw [s_u n hn, BitVec.getLsbD_ushiftRight]
theorem b_sshr (n : Nat) (hn : n < 32) (x : Int32) {i : Nat} (hi : i < 32) : bt (x >>> (nI n &&& 31)) i = if n + i < 32 then bt x (n + i) else bt x 31 := by
  unfold bt
  rw [Int32.toBitVec_shiftRight]
  show (x.toBitVec.sshiftRight ((nI n &&& 31).toBitVec.smod 32).toNat).getLsbD i = _
  rw [s_l n hn, BitVec.getLsbD_sshiftRight, BitVec.msb_eq_getLsbD_last]
  simp [hi]
theorem b_shl8 (x : Int32) {i : Nat} (hi : i < 32) : bt (x <<< ((8 : Int32) &&& 31)) i = (decide (8 ≤ i) && bt x (i - 8)) := b_shl 8 (by omega) x hi
theorem b_shl16 (x : Int32) {i : Nat} (hi : i < 32) : bt (x <<< ((16 : Int32) &&& 31)) i = (decide (16 ≤ i) && bt x (i - 16)) := b_shl 16 (by omega) x hi
theorem b_shl24 (x : Int32) {i : Nat} (hi : i < 32) : bt (x <<< ((24 : Int32) &&& 31)) i = (decide (24 ≤ i) && bt x (i - 24)) := b_shl 24 (by omega) x hi
theorem b_sshr8 (x : Int32) {i : Nat} (hi : i < 32) : bt (x >>> ((8 : Int32) &&& 31)) i = if 8 + i < 32 then bt x (8 + i) else bt x 31 := b_sshr 8 (by omega) x hi

theorem b_one {i k : Nat} (hi : i < 32) (hk : k < 32) : bt ((1 : Int32) <<< (nI i &&& 31)) k = decide (k = i) := by
  rw [b_shl i hi 1 hk]
  have h1 : ∀ m, m < 32 → bt 1 m = decide (m = 0) := by decide +kernel
  rw [h1 (k - i) (by omega)]
  by_cases h : k = i
  · subst h; simp
  · by_cases h2 : i ≤ k
    · have : ¬ k - i = 0 := by omega
      simp [h, this]
    · simp [h, h2]
theorem b_low (x : Int32) : x &&& 1 = if bt x 0 then 1 else 0 := by
  apply b_ext
  intro i hi
  rw [b_and]
  have h1 : ∀ m, m < 32 → bt 1 m = decide (m = 0) := by decide +kernel
  rw [h1 i hi]
  by_cases h : i = 0
  · subst h
    cases bt x 0 <;> decide
  · have e : decide (i = 0) = false := decide_eq_false h
    rw [e, Bool.and_false]
    cases bt x 0
    · exact (b_0 i).symm
    · show false = bt 1 i
      rw [h1 i hi, e]
theorem b_shr1 {i : Nat} (hi : i < 32) (x : Int32) : (x >>> (nI i &&& 31)) &&& 1 = if bt x i then 1 else 0 := by
  have h := b_sshr i hi x (i := 0) (by omega)
  rw [if_pos (by omega), Nat.add_zero] at h
  rw [b_low, h]
theorem h7_eq {i : Nat} (hi : i < 32) (x : Int32) : f7_has x (nI i) = if bt x i then 1 else 0 := by
  unfold f7_has
  rw [b_shr1 hi]
  cases bt x i <;> decide
theorem nn_lt {i : Nat} (hi : i < 2 ^ 31) : ¬ nI i < 0 := nI_pos hi
theorem h6_eq {i : Nat} (hi : i < 31) (x : Int32) : f6_has x (nI i) = if bt x i then 1 else 0 := by
  unfold f6_has
  rw [if_neg (nI_pos (by omega)), if_neg (show ¬ (31 : Int32) ≤ nI i from nI_ge (b := 31) hi (by decide)), b_shr1 (by omega)]
  cases bt x i <;> decide
theorem bit_eq {i : Nat} (hi : i < 31) : f6_bit (nI i) = (1 : Int32) <<< (nI i &&& 31) := by
  unfold f6_bit
  rw [if_neg (nI_pos (by omega)), if_neg (show ¬ (31 : Int32) ≤ nI i from nI_ge (b := 31) hi (by decide))]
theorem b_bit {i k : Nat} (hi : i < 31) (hk : k < 32) : bt (f6_bit (nI i)) k = decide (k = i) := by
  rw [bit_eq hi, b_one (by omega) hk]
theorem bit_none : f6_bit (-9) = 0 := by decide
theorem b_all : ∀ n, n < 9 → ∀ k, k < 32 → bt (f6_all (nI n)) k = decide (k < n) := by decide +kernel
theorem b_not (x : Int32) {k : Nat} (hk : k < 32) : bt (x ^^^ (-1)) k = !bt x k := by
  rw [b_xor, b_m1 k hk, Bool.xor_true]
theorem rd_ok {f : Nat → Int32} {n i : Nat} (hi : i < n) (hn : n < 2 ^ 31) : zrd f n (nI i) = some (f i) := by
  unfold zrd
  rw [nI_clamp (by omega), if_neg]
  rintro (h | h)
  · exact nI_pos (by omega) h
  · omega
theorem wr_ok {f : Nat → Int32} {n i : Nat} {v : Int32} (hi : i < n) (hn : n < 2 ^ 31) : zwr f n (nI i) v = some (upd f i v) := by
  unfold zwr
  rw [nI_clamp (by omega), if_neg]
  rintro (h | h)
  · exact nI_pos (by omega) h
  · omega
theorem cell_ok {f : Nat → Int32} {n i : Nat} (hi : i < n) (hn : n < 2 ^ 31) : f6_cell n f (nI i) = f i := by
  unfold f6_cell
  rw [if_neg (nI_pos (by omega)), if_neg (nI_ge hi hn), nI_clamp (by omega)]
theorem put_ok {f : Nat → Int32} {n i : Nat} {v : Int32} (hi : i < n) (hn : n < 2 ^ 31) : f6_put n f (nI i) v = upd f i v := by
  unfold f6_put
  rw [if_neg (nI_pos (by omega)), if_neg (nI_ge hi hn), nI_clamp (by omega)]
theorem up_s {f : Nat → Int32} {k : Nat} {v : Int32} : upd f k v k = v := if_pos rfl
theorem up_n {f : Nat → Int32} {k j : Nat} {v : Int32} (h : j ≠ k) : upd f k v j = f j := if_neg h
theorem vu_s {α : Type} {f : Nat → α} {k : Nat} {v : α} : va_up f k v k = v := if_pos rfl
theorem vu_n {α : Type} {f : Nat → α} {k j : Nat} {v : α} (h : j ≠ k) : va_up f k v j = f j := if_neg h
theorem ob {α β : Type} (a : α) (k : α → Option β) : (some a).bind k = k a := rfl
theorem li (n : Nat) : (OfNat.ofNat n : Int32) = nI n := rfl

/-! mathematics: the net of both, and the joints beside a joint -/
def NetR (N : Mo) (S : MS) (nJ nP nW : Nat) (d : Nat → Nat → Nat) : Prop :=
  (nJ ≤ 6 ∧ nP ≤ 8 ∧ nW ≤ 4) ∧
  (N.1 2 = nI nJ ∧ N.1 3 = nI nP ∧ N.1 4 = nI nW) ∧ (S.1 0 = nI nJ ∧ S.1 1 = nI nP ∧ S.1 2 = nI nW) ∧
  (S.1 3 = N.1 0 ∧ S.1 4 = N.1 1) ∧
  (∀ j, j < nJ → N.2 6 j = nI (d 6 j) ∧ S.2.1 5 j = nI (d 6 j) ∧ d 6 j ≤ 9) ∧
  (∀ j, j < nJ → S.2.1 6 j = if bt (N.1 5) j then 1 else 0) ∧ (∀ j, nJ ≤ j → bt (N.1 5) j = false) ∧
  (∀ p, p < nP → N.2 7 p = nI (d 7 p) ∧ N.2 8 p = nI (d 8 p) ∧ S.2.1 7 (2 * p) = nI (d 7 p) ∧ S.2.1 7 (2 * p + 1) = nI (d 8 p) ∧ d 7 p < nJ ∧ d 8 p < nJ ∧ d 7 p ≠ d 8 p) ∧
  (∀ w, w < nW → N.2 10 w = nI (d 10 w) ∧ S.2.1 9 w = nI (d 10 w) ∧ d 10 w ≤ 9 ∧ N.2 11 w = nI (d 11 w) ∧ S.2.1 8 w = nI (d 11 w) ∧ d 11 w < 4 ∧ N.2 12 w = nI (d 12 w) ∧ S.2.1 10 w = nI (d 12 w) ∧ d 12 w < nJ)
theorem i19 (p k : Nat) : 19 * nI p + nI k = nI (19 * p + k) := by
  rw [show (19 : Int32) = nI 19 from rfl, pk_mul, nI_add]
theorem i19b (p k w : Nat) : 19 * nI p + nI k + nI w = nI (19 * p + k + w) := by rw [i19, nI_add]
theorem i2 (p : Nat) : 2 * nI p = nI (2 * p) := by rw [show (2 : Int32) = nI 2 from rfl, pk_mul]
theorem or0 (x : Int32) : x ||| 0 = x := by
  apply b_ext
  intro i hi
  rw [b_or, b_0, Bool.or_false]
theorem eq_nI {a b : Nat} (ha : a < 2 ^ 31) (hb : b < 2 ^ 31) : (nI a = nI b) = (a = b) := propext (nI_eq ha hb)
theorem joined_l {N : Mo} {S : MS} {nJ nP nW : Nat} {d : Nat → Nat → Nat} (hN : NetR N S nJ nP nW d) {pl j : Nat} {op : Int32} (hpl : pl < 2) (hj : j < nJ) (ho : S.2.1 11 (19 * pl + 16) = op) : ∀ (n i : Nat) (acc : Int32), i ≤ nP → nP < i + n → (∀ k, nJ ≤ k → k < 32 → bt acc k = false) → ∃ v, f3_beside_l5 (nI j) op N n acc (nI i) = some v ∧ f7_joinedOn_l5 (nI pl) (nI j) S n acc (nI i) = some v ∧ ∀ k, nJ ≤ k → k < 32 → bt v k = false := by
  obtain ⟨⟨h1, h2, h3⟩, ⟨a1, a2, a3⟩, ⟨b1, b2, b3⟩, -, hlv, -, -, hpi, -⟩ := hN
  intro n
  induction n with
  | zero => intro i acc hi hn; omega
  | succ n ih =>
    intro i acc hi hn hacc
    rw [f3_beside_l5, f7_joinedOn_l5, a2, b2]
    by_cases hlt : i < nP
    · obtain ⟨p1, p2, p3, p4, p5, p6, p7⟩ := hpi i hlt
      rw [if_neg (nI_ge hlt (by omega)), if_neg (nI_ge hlt (by omega))]
      rw [show 19 * nI pl + 16 = nI (19 * pl + 16) from i19 pl 16, rd_ok (by omega) (by decide), ob, ho, h6_eq (by omega), h7_eq (by omega), nI_1]
      cases hb : bt op i
      · exact ih (i + 1) acc (by omega) (by omega) hacc
      · have e1 : ¬ ((if (true : Bool) = true then (1 : Int32) else 0) = 0) := by decide
        rw [if_neg e1, if_neg e1]
        simp only [bd, f3_beside_j62]
        rw [cell_ok (by omega) (by decide), cell_ok (by omega) (by decide), i2, rd_ok (by omega) (by decide), ob, show nI (2 * i) + 1 = nI (2 * i + 1) from nI_1 _, rd_ok (by omega) (by decide), p1, p2, p3, p4, ob, ob]
        have hor : ∀ m, m < nJ → (∀ k, nJ ≤ k → k < 32 → bt (acc ||| ((1 : Int32) <<< (nI m &&& 31))) k = false) := by
          intro m hm k hk hk2
          rw [b_or, hacc k hk hk2, b_one (by omega) hk2, decide_eq_false (by omega)]; rfl
        rw [nI_1]
        by_cases c0 : d 7 i = j
        · have c1 : nI (d 7 i) = nI j := by rw [c0]
          have c2 : ¬ nI (d 8 i) = nI j := fun h => p7 (c0.trans ((nI_eq (by omega) (by omega)).mp h).symm)
          rw [if_pos c1, if_pos c1, if_neg c2, bit_eq (by omega), ob]
          exact ih (i + 1) _ (by omega) (by omega) (hor _ p6)
        · have c1 : ¬ nI (d 7 i) = nI j := fun h => c0 ((nI_eq (by omega) (by omega)).mp h)
          rw [if_neg c1, if_neg c1]
          by_cases c2 : nI (d 8 i) = nI j
          · rw [if_pos c2, if_pos c2, ob, bit_eq (by omega), ob]
            exact ih (i + 1) _ (by omega) (by omega) (hor _ p5)
          · rw [if_neg c2, if_neg c2, ob, or0]
            exact ih (i + 1) acc (by omega) (by omega) hacc
    · have e : i = nP := by omega
      subst e
      rw [if_pos (nI_le (Nat.le_refl _) (by omega)), if_pos (nI_le (Nat.le_refl _) (by omega))]
      exact ⟨acc, rfl, rfl, hacc⟩
theorem joined_eq {N : Mo} {S : MS} {nJ nP nW : Nat} {d : Nat → Nat → Nat} (hN : NetR N S nJ nP nW d) {pl j : Nat} {op : Int32} (hpl : pl < 2) (hj : j < nJ) (ho : S.2.1 11 (19 * pl + 16) = op) : ∃ v, f3_beside N (nI j) op = some v ∧ f7_joinedOn S (nI pl) (nI j) = some v ∧ ∀ k, nJ ≤ k → k < 32 → bt v k = false := by
  unfold f3_beside f7_joinedOn
  exact joined_l hN hpl hj ho FU 0 0 (Nat.zero_le _) (by have := hN.1.2.1; show nP < 0 + 100; omega) (fun k _ _ => b_0 k)
/-- the joints under a tide, in one go and one by one -/
theorem under_l {N : Mo} {S : MS} {nJ nP nW : Nat} {d : Nat → Nat → Nat} (hN : NetR N S nJ nP nW d) (tide : Int32) : ∀ (n i : Nat) (acc : Int32), i ≤ nJ → nJ < i + n → ∃ v, f3_under_l4 tide N n acc (nI i) = some v ∧ ∀ k, k < 32 → bt v k = (bt acc k || (decide (i ≤ k) && decide (k < nJ) && decide (nI (d 6 k) < tide))) := by
  obtain ⟨⟨h1, h2, h3⟩, ⟨a1, a2, a3⟩, -, -, hlv, -⟩ := hN
  intro n
  induction n with
  | zero => intro i acc hi hn; omega
  | succ n ih =>
    intro i acc hi hn
    rw [f3_under_l4, a1]
    by_cases hlt : i < nJ
    · rw [if_neg (nI_ge hlt (by omega)), cell_ok (by omega) (by decide), (hlv i hlt).1, nI_1]
      have hstep : ∀ k, (decide (i ≤ k) && decide (k < nJ) && decide (nI (d 6 k) < tide)) = ((decide (k = i) && decide (nI (d 6 i) < tide)) || (decide (i + 1 ≤ k) && decide (k < nJ) && decide (nI (d 6 k) < tide))) := by
        intro k
        by_cases hk : k = i
        · subst hk
          simp [hlt]
        · by_cases hk2 : i ≤ k
          · have : i + 1 ≤ k := by omega
            simp [hk, hk2, this]
          · have : ¬ i + 1 ≤ k := by omega
            simp [hk, hk2, this]
      by_cases c1 : tide ≤ nI (d 6 i)
      · rw [if_pos c1]
        obtain ⟨v, hv, hb⟩ := ih (i + 1) acc (by omega) (by omega)
        refine ⟨v, hv, fun k hk => ?_⟩
        have c2 : ¬ nI (d 6 i) < tide := fun h => by
          rw [Int32.lt_iff_toInt_lt] at h
          rw [Int32.le_iff_toInt_le] at c1
          omega
        rw [hb k hk, hstep k, decide_eq_false c2, Bool.and_false, Bool.false_or]
      · rw [if_neg c1]
        simp only [bd]
        obtain ⟨v, hv, hb⟩ := ih (i + 1) (acc ||| f6_bit (nI i)) (by omega) (by omega)
        refine ⟨v, hv, fun k hk => ?_⟩
        have c2 : nI (d 6 i) < tide := by
          rw [Int32.lt_iff_toInt_lt]
          rw [Int32.le_iff_toInt_le] at c1
          omega
        rw [hb k hk, hstep k, b_or, b_bit (by omega) hk, decide_eq_true c2, Bool.and_true, Bool.or_assoc]
    · have e : i = nJ := by omega
      subst e
      rw [if_pos (nI_le (Nat.le_refl _) (by omega))]
      refine ⟨acc, rfl, fun k hk => ?_⟩
      have : (decide (i ≤ k) && decide (k < i)) = false := by
        by_cases h : i ≤ k
        · have : ¬ k < i := by omega
          simp [this]
        · simp [h]
      rw [this, Bool.false_and, Bool.or_false]

/-! mathematics: where one goes next -/
theorem lt_le {a b : Int32} : a < b ↔ ¬ b ≤ a := by
  rw [Int32.lt_iff_toInt_lt, Int32.le_iff_toInt_le]
  omega
theorem dry_l {N : Mo} {S : MS} {nJ nP nW : Nat} {d : Nat → Nat → Nat} (hN : NetR N S nJ nP nW d) (x2 tide v1 v2 v3 : Int32) : ∀ (n i : Nat) (acc : Int32), i ≤ nJ → nJ < i + n → ∃ v, f7_nextOn_l52 x2 tide v1 v2 v3 S n acc (nI i) = f7_nextOn_l52 x2 tide v1 v2 v3 S 1 v (nI nJ) ∧ ∀ k, k < 32 → bt v k = (bt acc k && !(decide (i ≤ k) && decide (k < nJ) && decide (nI (d 6 k) < tide))) := by
  obtain ⟨⟨h1, h2, h3⟩, -, ⟨b1, b2, b3⟩, -, hlv, -⟩ := hN
  intro n
  induction n with
  | zero => intro i acc hi hn; omega
  | succ n ih =>
    intro i acc hi hn
    by_cases hlt : i < nJ
    · rw [f7_nextOn_l52, b1, if_neg (nI_ge hlt (by omega)), rd_ok (by omega) (by decide), ob, (hlv i hlt).2.1, nI_1]
      simp only [bd]
      obtain ⟨v, hv, hb⟩ := ih (i + 1) (acc &&& (if tide ≤ nI (d 6 i) then (-1) else (((1 : Int32) <<< (nI i &&& 31)) ^^^ (-1)))) (by omega) (by omega)
      refine ⟨v, hv, fun k hk => ?_⟩
      rw [hb k hk, b_and]
      have hstep : (decide (i ≤ k) && decide (k < nJ) && decide (nI (d 6 k) < tide)) = ((decide (k = i) && decide (nI (d 6 i) < tide)) || (decide (i + 1 ≤ k) && decide (k < nJ) && decide (nI (d 6 k) < tide))) := by
        by_cases hk1 : k = i
        · subst hk1
          simp [hlt]
        · by_cases hk2 : i ≤ k
          · have : i + 1 ≤ k := by omega
            simp [hk1, hk2, this]
          · have : ¬ i + 1 ≤ k := by omega
            simp [hk1, hk2, this]
      rw [hstep]
      by_cases c1 : tide ≤ nI (d 6 i)
      · have c2 : ¬ nI (d 6 i) < tide := fun h => lt_le.mp h c1
        rw [if_pos c1, b_m1 k hk, decide_eq_false c2, Bool.and_true, Bool.and_false, Bool.false_or]
      · have c2 : nI (d 6 i) < tide := lt_le.mpr c1
        rw [if_neg c1, b_not _ hk, b_one (by omega) hk, decide_eq_true c2, Bool.and_true, Bool.not_or, Bool.and_assoc]
    · have e : i = nJ := by omega
      subst e
      refine ⟨acc, ?_, fun k hk => ?_⟩
      · rw [f7_nextOn_l52, f7_nextOn_l52, b1, if_pos (nI_le (Nat.le_refl _) (by omega)), if_pos (nI_le (Nat.le_refl _) (by omega))]
      · have : (decide (i ≤ k) && decide (k < i)) = false := by
          by_cases h : i ≤ k
          · have : ¬ k < i := by omega
            simp [this]
          · simp [h]
        rw [this, Bool.false_and, Bool.not_false, Bool.and_true]
/-- up and down: the highest, the lowest -/
theorem out_l {N : Mo} {S : MS} {nJ nP nW : Nat} {d : Nat → Nat → Nat} (hN : NetR N S nJ nP nW d) (j am : Int32) {tn : Nat} (ht : tn < 2) : ∀ (n i : Nat) (best : Int32), i ≤ nJ → nJ < i + n → (best = (-9) ∨ ∃ b, b < nJ ∧ best = nI b) → ∃ v, f3_outermost_l6 am (if tn = 0 then 1 else (-1)) N n best (nI i) = some v ∧ f7_nextOn_l150 j (nI tn) am S n best (nI i) = some v ∧ (v = (-9) ∨ ∃ b, b < nJ ∧ v = nI b) := by
  obtain ⟨⟨h1, h2, h3⟩, ⟨a1, a2, a3⟩, ⟨b1, b2, b3⟩, -, hlv, -⟩ := hN
  intro n
  induction n with
  | zero => intro i best hi hn; omega
  | succ n ih =>
    intro i best hi hn hb
    rw [f3_outermost_l6, f7_nextOn_l150, a1, b1]
    by_cases hlt : i < nJ
    · rw [if_neg (nI_ge hlt (by omega)), if_neg (nI_ge hlt (by omega)), h6_eq (by omega), h7_eq (by omega), nI_1]
      cases hbt : bt am i
      · exact ih (i + 1) best (by omega) (by omega) hb
      · have e1 : ¬ ((if (true : Bool) = true then (1 : Int32) else 0) = 0) := by decide
        rw [if_neg e1, if_neg e1]
        rcases hb with hb | ⟨b, hb1, hb2⟩
        · rw [if_pos hb, if_pos hb]
          exact ih (i + 1) (nI i) (by omega) (by omega) (Or.inr ⟨i, hlt, rfl⟩)
        · have hb9 : ¬ best = (-9) := by
            rw [hb2]
            intro h
            have := congrArg Int32.toInt h
            rw [nI_toInt (by omega)] at this
            have e : (-9 : Int32).toInt = -9 := by decide
            rw [e] at this
            omega
          rw [if_neg hb9, if_neg hb9, hb2, cell_ok (by omega) (by decide), cell_ok (by omega) (by decide), (hlv i hlt).1, (hlv b hb1).1]
          have hl1 := (hlv i hlt).2.2
          have hl2 := (hlv b hb1).2.2
          have key : ∀ x y : Nat, x ≤ 9 → y ≤ 9 → ((1 : Int32) * nI x ≤ 1 * nI y ↔ x ≤ y) ∧ ((-1 : Int32) * nI x ≤ (-1) * nI y ↔ y ≤ x) ∧ (-nI x ≤ -nI y ↔ y ≤ x) := by
            have hd : ∀ x, x < 10 → ∀ y, y < 10 → (((1 : Int32) * nI x ≤ 1 * nI y ↔ x ≤ y) ∧ ((-1 : Int32) * nI x ≤ (-1) * nI y ↔ y ≤ x) ∧ (-nI x ≤ -nI y ↔ y ≤ x)) := by decide +kernel
            exact fun x y hx hy => hd x (by omega) y (by omega)
          obtain ⟨k1, k2, k3⟩ := key (d 6 i) (d 6 b) hl1 hl2
          obtain ⟨m1, m2, m3⟩ := key (d 6 b) (d 6 i) hl2 hl1
          have hr : ∀ c, c < nJ → f7_rankOf S (nI tn) j (nI c) = some (if tn = 0 then -nI (d 6 c) else nI (d 6 c)) := by
            intro c hc
            unfold f7_rankOf
            rw [if_neg (show ¬ (2 : Int32) ≤ nI tn from nI_ge (b := 2) ht (by decide)), rd_ok (by omega) (by decide), ob, ob, (hlv c hc).2.1]
            rcases (show tn = 0 ∨ tn = 1 by omega) with rfl | rfl
            · rw [if_neg (by decide), if_pos rfl]
            · rw [if_pos (by decide), if_neg (by decide)]
          rw [hr i hlt, ob, hr b hb1, ob]
          simp only [bd]
          rcases (show tn = 0 ∨ tn = 1 by omega) with rfl | rfl
          · rw [if_pos rfl, if_pos rfl, if_pos rfl]
            by_cases c1 : d 6 i ≤ d 6 b
            · rw [if_pos (k1.mpr c1), if_pos (m3.mpr c1), ob, if_pos rfl]
              exact ih (i + 1) (nI b) (by omega) (by omega) (Or.inr ⟨b, hb1, rfl⟩)
            · rw [if_neg (fun h => c1 (k1.mp h)), if_neg (fun h => c1 (m3.mp h)), ob, if_neg (by decide)]
              exact ih (i + 1) (nI i) (by omega) (by omega) (Or.inr ⟨i, hlt, rfl⟩)
          · simp only [show ¬ ((1 : Nat) = 0) by decide, if_false]
            by_cases c1 : d 6 b ≤ d 6 i
            · rw [if_pos (k2.mpr c1), if_pos (nI_le c1 (by omega)), ob, if_pos rfl]
              exact ih (i + 1) (nI b) (by omega) (by omega) (Or.inr ⟨b, hb1, rfl⟩)
            · rw [if_neg (fun h => c1 (k2.mp h)), if_neg (nI_ge (by omega) (by omega)), ob, if_neg (by decide)]
              exact ih (i + 1) (nI i) (by omega) (by omega) (Or.inr ⟨i, hlt, rfl⟩)
    · have e : i = nJ := by omega
      subst e
      rw [if_pos (nI_le (Nat.le_refl _) (by omega)), if_pos (nI_le (Nat.le_refl _) (by omega))]
      exact ⟨best, rfl, rfl, hb⟩

/-- the rounds: of the joints ahead, or behind, the first -/
theorem fr_cong {N N' : Mo} (h : N.1 2 = N'.1 2) (am by' : Int32) : ∀ (n : Nat) (y1 y2 : Int32), f3_firstRound_l6 am by' N n y1 y2 = f3_firstRound_l6 am by' N' n y1 y2 := by
  intro n
  induction n with
  | zero => intro y1 y2; rfl
  | succ n ih =>
    intro y1 y2
    simp only [f3_firstRound_l6, f3_firstRound_j33, h, ih]
theorem ro_cong {S S' : MS} (h : S.1 0 = S'.1 0) (j tn am : Int32) (ht : (2 : Int32) ≤ tn) : ∀ (n : Nat) (y1 y2 : Int32), f7_nextOn_l150 j tn am S n y1 y2 = f7_nextOn_l150 j tn am S' n y1 y2 := by
  intro n
  induction n with
  | zero => intro y1 y2; rfl
  | succ n ih =>
    intro y1 y2
    simp only [f7_nextOn_l150, f7_rankOf, h, ih, if_pos ht]
def ro_chk (nJ j m : Nat) : Bool :=
  (match f3_firstRound (fun _ => nI nJ, fun _ _ => 0) (nI m) (nI j) 1, f7_nextOn_l150 (nI j) 2 (nI m) (fun _ => nI nJ, fun _ _ => 0, 0) FU (-9) 0 with
  | some a, some b => decide (a = b) && (decide (a = -9) || (decide (0 ≤ a) && decide (a < nI nJ)))
  | _, _ => false) &&
  (match f3_firstRound (fun _ => nI nJ, fun _ _ => 0) (nI m) (nI j) (-1), f7_nextOn_l150 (nI j) 3 (nI m) (fun _ => nI nJ, fun _ _ => 0, 0) FU (-9) 0 with
  | some a, some b => decide (a = b) && (decide (a = -9) || (decide (0 ≤ a) && decide (a < nI nJ)))
  | _, _ => false)
set_option maxRecDepth 100000 in
theorem ro_all : ∀ nJ, nJ < 7 → ∀ j, j < nJ → ∀ m, m < 64 → ro_chk nJ j m = true := by decide +kernel

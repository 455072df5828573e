/-! mathematics: a set of few joints as a number; the pipe that comes next -/
theorem sm_eq {x : Int32} {m : Nat} (hm : m < 7) (h : ∀ k, m ≤ k → k < 32 → bt x k = false) : ∃ s, s < 64 ∧ x = nI s := by
  obtain ⟨s, hs, e⟩ := pk_andE x (m := 63) 6 (by decide)
  refine ⟨s, hs, ?_⟩
  rw [← e]
  apply b_ext
  intro i hi
  rw [b_and]
  have h1 : ∀ i, i < 32 → bt 63 i = decide (i < 6) := by decide +kernel
  rw [h1 i hi]
  by_cases c : i < 6
  · rw [decide_eq_true c, Bool.and_true]
  · rw [h i (by omega) hi, Bool.false_and]
def JoinOK (nJ : Nat) (v : Int32) : Prop := v = (-9) ∨ ∃ b, b < nJ ∧ v = nI b
theorem ro_l {N : Mo} {S : MS} {nJ nP nW : Nat} {d : Nat → Nat → Nat} (hN : NetR N S nJ nP nW d) {j tn : Nat} {am : Int32} (hj : j < nJ) (ht : tn = 2 ∨ tn = 3) (ha : ∀ k, nJ ≤ k → k < 32 → bt am k = false) : ∃ v, f3_firstRound N am (nI j) (if tn = 2 then 1 else (-1)) = some v ∧ f7_nextOn_l150 (nI j) (nI tn) am S FU (-9) 0 = some v ∧ JoinOK nJ v := by
  obtain ⟨⟨h1, h2, h3⟩, ⟨a1, a2, a3⟩, ⟨b1, b2, b3⟩, -⟩ := hN
  obtain ⟨m, hm, rfl⟩ := sm_eq (x := am) (m := nJ) (by omega) ha
  have hc := ro_all nJ (by omega) j hj m hm
  unfold ro_chk at hc
  rw [Bool.and_eq_true] at hc
  have fin : ∀ (p q : Option Int32), (match p, q with | some a, some b => decide (a = b) && (decide (a = -9) || (decide (0 ≤ a) && decide (a < nI nJ))) | _, _ => false) = true → ∃ v, p = some v ∧ q = some v ∧ JoinOK nJ v := by
    intro p q h
    cases p with
    | none => cases h
    | some a =>
      cases q with
      | none => cases h
      | some b =>
        simp only [Bool.and_eq_true, Bool.or_eq_true, decide_eq_true_eq] at h
        obtain ⟨rfl, h⟩ := h
        refine ⟨a, rfl, rfl, ?_⟩
        rcases h with h | ⟨h, h'⟩
        · exact Or.inl h
        · rcases pk_ix a (n := nJ) (by omega) with q | q | q
          · exact absurd h (by rw [Int32.le_iff_toInt_le]; rw [Int32.lt_iff_toInt_lt] at q; omega)
          · exact absurd h' (by rw [Int32.lt_iff_toInt_lt]; rw [Int32.le_iff_toInt_le] at q; omega)
          · exact Or.inr q
  rcases ht with rfl | rfl
  · rw [if_pos rfl]
    obtain ⟨v, e1, e2, e3⟩ := fin _ _ hc.1
    refine ⟨v, ?_, ?_, e3⟩
    · rw [← e1]
      exact fr_cong (by exact a1) _ _ _ _ _
    · rw [← e2]
      exact ro_cong (by exact b1) _ _ _ (by decide) _ _ _
  · rw [if_neg (by decide)]
    obtain ⟨v, e1, e2, e3⟩ := fin _ _ hc.2
    refine ⟨v, ?_, ?_, e3⟩
    · rw [← e1]
      exact fr_cong (by exact a1) _ _ _ _ _
    · rw [← e2]
      exact ro_cong (by exact b1) _ _ _ (by decide) _ _ _
/-- among these joints, by a turn: both alike -/
theorem sel_l {N : Mo} {S : MS} {nJ nP nW : Nat} {d : Nat → Nat → Nat} (hN : NetR N S nJ nP nW d) {j tn : Nat} {am : Int32} (hj : j < nJ) (ht : tn < 4) (ha : ∀ k, nJ ≤ k → k < 32 → bt am k = false) : ∃ v, (if nI tn = 0 then (f3_outermost N am 1).bind fun v10 => some v10 else if nI tn = 1 then (f3_outermost N am (-1)).bind fun v12 => some v12 else if nI tn = 2 then (f3_firstRound N am (nI j) 1).bind fun v14 => some v14 else (f3_firstRound N am (nI j) (-1)).bind fun v15 => some v15) = some v ∧ f7_nextOn_l150 (nI j) (nI tn) am S FU (-9) 0 = some v ∧ JoinOK nJ v := by
  have hb := hN.1.1
  rcases (show tn = 0 ∨ tn = 1 ∨ tn = 2 ∨ tn = 3 by omega) with rfl | rfl | rfl | rfl
  · obtain ⟨v, e1, e2, e3⟩ := out_l hN (nI j) am (tn := 0) (by omega) FU 0 (-9) (Nat.zero_le _) (by show nJ < 0 + 100; omega) (Or.inl rfl)
    rw [if_pos rfl] at e1
    refine ⟨v, ?_, e2, e3⟩
    rw [if_pos (by decide)]
    show (f3_outermost_l6 am 1 N FU (-9) (nI 0)).bind _ = _
    rw [e1]; rfl
  · obtain ⟨v, e1, e2, e3⟩ := out_l hN (nI j) am (tn := 1) (by omega) FU 0 (-9) (Nat.zero_le _) (by show nJ < 0 + 100; omega) (Or.inl rfl)
    rw [if_neg (by decide)] at e1
    refine ⟨v, ?_, e2, e3⟩
    rw [if_neg (by decide), if_pos (by decide)]
    show (f3_outermost_l6 am (-1) N FU (-9) (nI 0)).bind _ = _
    rw [e1]; rfl
  · obtain ⟨v, e1, e2, e3⟩ := ro_l hN hj (Or.inl rfl) ha
    rw [if_pos rfl] at e1
    refine ⟨v, ?_, e2, e3⟩
    rw [if_neg (by decide), if_neg (by decide), if_pos (by decide), e1]; rfl
  · obtain ⟨v, e1, e2, e3⟩ := ro_l hN hj (Or.inr rfl) ha
    rw [if_neg (by decide)] at e1
    refine ⟨v, ?_, e2, e3⟩
    rw [if_neg (by decide), if_neg (by decide), if_neg (by decide), e1]; rfl
theorem n9_ne {b : Nat} (hb : b < 2 ^ 31) : ¬ nI b = (-9) := by
  intro h
  have := congrArg Int32.toInt h
  rw [nI_toInt hb] at this
  have e : (-9 : Int32).toInt = -9 := by decide
  rw [e] at this
  omega
/-- where a walker goes next: both alike, while it is not out -/
theorem next_eq {N M : Mo} {S : MS} {nJ nP nW : Nat} {d : Nat → Nat → Nat} (hN : NetR N S nJ nP nW d) {pl w j tn : Nat} (tide : Int32) (hpl : pl < 2) (hw : w < nW) (hj : j < nJ) (ht : tn < 4) (ho : bt (M.1 5) w = false)
    (m0 : M.2 0 w = nI j) (s0 : S.2.1 11 (19 * pl + w) = nI j) (m1 : M.2 1 w = S.2.1 11 (19 * pl + 4 + w)) (f1 : JoinOK nJ (M.2 1 w)) (m3 : M.2 3 w = nI tn) (s3 : (if nI w = S.1 24 then S.1 25 else S.2.1 8 w) = nI tn) (mo : S.2.1 11 (19 * pl + 16) = M.1 6) :
    ∃ v, f2_nextOf M N (nI w) tide = some v ∧ f7_nextOn S (nI pl) (nI w) tide = some v ∧ JoinOK nJ v := by
  have hb := hN.1
  obtain ⟨v, hv1, hv2, hv3⟩ := joined_eq hN (pl := pl) (j := j) hpl hj mo
  obtain ⟨u, hu1, hu2⟩ := under_l hN tide FU 0 0 (Nat.zero_le _) (by show nJ < 0 + 100; omega)
  obtain ⟨x, hx1, hx2⟩ := dry_l hN (nI w) tide (19 * nI pl) (nI j) (nI tn) FU 0 v (Nat.zero_le _) (by show nJ < 0 + 100; omega)
  have hxe : x = v &&& (u ^^^ (-1)) := by
    apply b_ext
    intro k hk
    rw [hx2 k hk, b_and, b_not _ hk, hu2 k hk, b_0, Bool.false_or]
  have e5 : f6_has (M.1 5) (nI w) = 0 := by rw [h6_eq (by omega), ho]; rfl
  have hfr : ∀ k, nJ ≤ k → k < 32 → bt x k = false := by
    intro k h1 h2
    rw [hx2 k h2, hv3 k h1 h2, Bool.false_and]
  have hsel : ∀ am, (am = x ∨ ∃ z, am = x &&& z) → ∀ k, nJ ≤ k → k < 32 → bt am k = false := by
    rintro am (rfl | ⟨z, rfl⟩) k h1 h2
    · exact hfr k h1 h2
    · rw [b_and, hfr k h1 h2, Bool.false_and]
  have hon : x &&& (f6_bit (M.2 1 w) ^^^ (-1)) = (if M.2 1 w = (-9) then x else (x &&& (((1 : Int32) <<< (M.2 1 w &&& 31)) ^^^ (-1)))) := by
    rcases f1 with e | ⟨b, hb1, e⟩
    · rw [e, if_pos rfl, bit_none]
      apply b_ext
      intro k hk
      rw [b_and, b_not _ hk, b_0, Bool.not_false, Bool.and_true]
    · rw [e, if_neg (n9_ne (by omega)), bit_eq (by omega)]
  have hu1' : f3_under N tide = some u := hu1
  have hx1' : f7_nextOn_l52 (nI w) tide (19 * nI pl) (nI j) (nI tn) S FU v 0 = _ := hx1
  have hl : f7_nextOn_l52 (nI w) tide (19 * nI pl) (nI j) (nI tn) S 1 x (nI nJ) = f7_nextOn_l150 (nI j) (nI tn) (if (x &&& (f6_bit (M.2 1 w) ^^^ (-1))) = 0 then x else (x &&& (f6_bit (M.2 1 w) ^^^ (-1)))) S FU (-9) 0 := by
    rw [f7_nextOn_l52, hN.2.2.1.1, if_pos (nI_le (Nat.le_refl _) (by omega)), show 19 * nI pl + 4 + nI w = nI (19 * pl + 4 + w) from i19b pl 4 w, rd_ok (by omega) (by decide), ob, ← m1]
    simp only [bd]
    rw [hon]
  obtain ⟨r, r1, r2, r3⟩ := sel_l hN hj ht (hsel (if (x &&& (f6_bit (M.2 1 w) ^^^ (-1))) = 0 then x else (x &&& (f6_bit (M.2 1 w) ^^^ (-1)))) (by
    by_cases c : (x &&& (f6_bit (M.2 1 w) ^^^ (-1))) = 0
    · exact Or.inl (if_pos c)
    · exact Or.inr ⟨_, if_neg c⟩))
  refine ⟨r, ?_, ?_, r3⟩
  · unfold f2_nextOf
    rw [if_pos e5, cell_ok (by omega) (by decide), cell_ok (by omega) (by decide), cell_ok (by omega) (by decide), m0, m3]
    simp only [bd]
    rw [hv1, ob, hu1', ob, ← hxe]
    exact r1
  · unfold f7_nextOn
    simp only [bd]
    rw [show 19 * nI pl + nI w = nI (19 * pl + w) from i19 pl w, rd_ok (by omega) (by decide), ob, s0, rd_ok (by omega) (by decide), ob, ← apply_ite some, s3, ob, hv2, ob, hx1', hl]
    exact r2

/-! mathematics: years -/
theorem bdk {α β : Type} (a : α) (k : α → β) : bd a k = k a := rfl
theorem SC.ch {C0 C : Cs} (z : Int64) (h : SC C0 C) : SC C0 (cCh C z) := by
  obtain ⟨⟨a1, a2, a3⟩, a4, a5, a6, a7, a8, a9⟩ := h
  exact ⟨⟨a1, a2, a3⟩, a4, a5, a6, a7, a8, a9⟩
theorem SS.z {S0 S : MS} (z : Int64) (h : SS S0 S) : SS S0 (mZ S z) := by
  obtain ⟨a1, a2, a3⟩ := h
  exact ⟨a1, a2, a3⟩
theorem TrB.z {K nJ nW : Nat} {C : Cs} {S : MS} (z : Int64) (h : TrB K nJ nW C S) : TrB K nJ nW (cCh C z) (mZ S z) := by
  obtain ⟨a1, a2⟩ := h
  exact ⟨a1, a2⟩
theorem ch_z (C : Cs) (S : MS) (z : Int64) : (cCh C z).2.2.2.2.2.2.2.2.2 = (mZ S z).2.2 := rfl
theorem years_l {k nJ nP nW : Nat} {d : Nat → Nat → Nat} {C0 : Cs} {S0 : MS} (h0 : RelN k nJ nP nW d C0 S0) {m : Nat} (h4 : m ≤ 30) : ∀ (n i K : Nat) (C : Cs) (S : MS), i ≤ m → m < i + n → K + (m - i) < 2 ^ 31 → SC C0 C → SS S0 S → C.2.2.2.2.2.2.2.2.2 = S.2.2 → TrB K nJ nW C S → ∃ (v : Int32) (C' : Cs) (S' : MS), f6_years_l27 (nI m) n (nI i) C = some (v, C') ∧ f7_years_l21 (nI m) n (nI i) S = some (v, S') ∧ SC C0 C' ∧ SS S0 S' ∧ C'.2.2.2.2.2.2.2.2.2 = S'.2.2 := by
  have hb := h0.1.1
  intro n
  induction n with
  | zero => intro i K C S h1 h2; omega
  | succ n ih =>
    intro i K C S hi1 hi2 hK g1 g2 hz ht
    rw [f6_years_l27, f7_years_l21]
    by_cases hi : i < m
    · rw [if_neg (nI_ge hi (by omega)), if_neg (nI_ge hi (by omega)), hz]
      generalize S.2.2 * 6364136223846793005 + 1442695040888963407 = z
      rw [bdk (cCh C z), bdk (mZ S z)]
      obtain ⟨C1, hC1⟩ : ∃ C1, C1 = cCh C z := ⟨_, rfl⟩
      obtain ⟨S1, hS1⟩ : ∃ S1, S1 = mZ S z := ⟨_, rfl⟩
      rw [← hC1, ← hS1]
      have ec : C1.2.2.2.2.2.2.2.2.2 = S1.2.2 := by rw [hC1, hS1]; exact ch_z C S z
      have g1' : SC C0 C1 := by rw [hC1]; exact g1.ch z
      have g2' : SS S0 S1 := by rw [hS1]; exact g2.z z
      have ht' : TrB K nJ nW C1 S1 := by rw [hC1, hS1]; exact ht.z z
      have h := h0.fr g1' g2' ec
      rw [ec, nI_1]
      generalize ((S1.2.2.toUInt64 >>> ((33 : Int32).toInt64.toUInt64 &&& Int64.toUInt64 63)).toInt64 - (S1.2.2.toUInt64 >>> ((33 : Int32).toInt64.toUInt64 &&& Int64.toUInt64 63)).toInt64 / 14 * 14).toInt32 = v
      rw [bdk v, bdk v]
      have hv : (v < 8) ↔ (v ≤ 7) := by
        rw [Int32.lt_iff_toInt_lt, Int32.le_iff_toInt_le]
        have a1 : (8 : Int32).toInt = 8 := by decide
        have a2 : (7 : Int32).toInt = 7 := by decide
        omega
      by_cases hv8 : v < 8
      · rw [if_pos hv8, if_pos (hv.mp hv8), h.1.2.1.2.1]
        rcases isP h.1 v with ⟨a1, a2⟩ | ⟨a1, a2, p, hp, rfl⟩
        · rw [a2, if_pos rfl]
          by_cases hp : nI nP ≤ v
          · rw [if_pos hp]
            exact ih (i + 1) K C1 S1 (by omega) (by omega) (by omega) g1' g2' ec ht'
          · have hn : v < 0 := by
              unfold f6_isNoPipe at a1
              rw [h.1.2.1.2.1] at a1
              by_cases q : v < 0
              · exact q
              · rw [if_neg q, if_pos (lt_le.mpr hp)] at a1
                exact absurd a1 (by decide)
            have et : f2_turnPipe (C1.1 1) v = some (C1.1 1) := by
              unfold f2_turnPipe
              rw [bit_neg hn, xor0]
              show some (sI (C1.1 1) 6 ((C1.1 1).1 6)) = _
              rw [sI_self]
            rw [if_neg hp, et, ob, bdk]
            exact ih (i + 1) K _ S1 (by omega) (by omega) (by omega) (g1'.tr (SC.m1 C1 _)) g2' ec ht'
        · have et : f2_turnPipe (C1.1 1) (nI p) = some (sI (C1.1 1) 6 ((C1.1 1).1 6 ^^^ (1 : Int32) <<< (nI p &&& 31))) := by
            unfold f2_turnPipe
            rw [bit_eq (by omega)]
            rfl
          obtain ⟨p1, p2⟩ := pipe1 hb.2.2 ht' ((C1.1 1).1 6 ^^^ (1 : Int32) <<< (nI p &&& 31))
          have e35 : S1.2.1 11 35 = (C1.1 1).1 6 := ht'.1.2.2.1.1
          rw [a2, if_neg (show ¬ (1 : Int32) = 0 by decide), if_neg (nI_ge hp (by omega)), et, ob, bdk, z35, ob, e35, w35, ob, bdk]
          exact ih (i + 1) K _ _ (by omega) (by omega) (by omega) (g1'.tr p1.1) (g2'.tr p1.2.1) ec p2
      · obtain ⟨M', S', y, s1, s2, s3, s4⟩ := adv1 h (by omega) ht'
        rw [if_neg hv8, if_neg (fun q => hv8 (hv.mpr q)), s1, ob, bdk, s2, ob]
        exact ih (i + 1) (K + 1) _ _ (by omega) (by omega) (by omega) (g1'.tr s3.1) (g2'.tr s3.2.1) (s3.2.2.1.trans (ec.trans s3.2.2.2.symm)) s4
    · have e : i = m := by omega
      subst e
      have h := h0.fr g1 g2 hz
      obtain ⟨o1, v, o2, o3, o4⟩ := outs_eq h.1 (pl := 1) (by omega) ht.1 (fun w hw => ht.2.2.1 w hw)
      have o3' : f7_outOn S 1 1 = some v := o3
      obtain ⟨s, hs, rfl⟩ := sm_eq (x := v) (m := nW) (by omega) (fun q h1 h2 => by rw [o4 q h2, decide_eq_false (by omega), Bool.false_and])
      rw [if_pos (nI_le (Nat.le_refl _) (by omega)), if_pos (nI_le (Nat.le_refl _) (by omega)), o2, ob, o3', ob, ones_all s hs, ob]
      exact ⟨_, _, _, rfl, rfl, g1, g2, hz⟩
theorem r_years (k : Nat) (C : Cs) (S : MS) (x1 : Int32) (hk : k < 64) (h : Rel k C S) : ∃ (r : Int32) (C2 : Cs) (S2 : MS), f6_years C x1 = some (r, C2) ∧ f7_years S x1 = some (r, S2) ∧ Rel (k + 1) C2 S2 := by
  obtain ⟨nJ, nP, nW, d, h⟩ := h
  unfold f6_years f7_years
  rw [in_lit x1 1 30 1 30 (by decide) (by decide)]
  rcases rg_eq x1 (lo := 1) (hi := 30) (by omega) (by omega) with ⟨h1, e⟩ | ⟨h1, h2, e⟩ | ⟨m, h1, h2, rfl, e⟩
  · have e' : (if x1 < 1 then (0 : Int32) else if 30 < x1 then 0 else 1) = 0 := e
    rw [if_pos (show x1 < 1 from h1), e', if_pos rfl]
    exact ⟨_, _, _, rfl, rfl, h.rel⟩
  · have e' : (if x1 < 1 then (0 : Int32) else if 30 < x1 then 0 else 1) = 0 := e
    rw [if_neg (show ¬ x1 < 1 from h1), if_neg (show ¬ x1 ≤ 30 from fun q => lt_le.mp h2 q), e', if_pos rfl]
    exact ⟨_, _, _, rfl, rfl, h.rel⟩
  · have e' : (if nI m < 1 then (0 : Int32) else if 30 < nI m then 0 else 1) = 1 := e
    have g1 : ¬ nI m < 1 := nI_nlt (b := 1) h1 (by omega)
    have g2 : nI m ≤ 30 := nI_le (b := 30) h2 (by omega)
    obtain ⟨M1, S1, l1, l2, l3, l4⟩ := lay1 h
    obtain ⟨v, C', S', q1, q2, q3, q4, q5⟩ := years_l h h2 FU 0 k _ _ (by omega) (by show m < 0 + 100; omega) (by omega) l3.1 l3.2.1 (l3.2.2.1.trans (h.se.trans l3.2.2.2.symm)) l4
    rw [e', if_neg (show ¬ (1 : Int32) = 0 by decide), if_neg g1, if_pos g2, l1, ob, l2, ob]
    simp only [bd]
    exact ⟨_, _, _, q1, q2, nJ, nP, nW, d, h.fr q3 q4 q5⟩

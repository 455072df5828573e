/-! mathematics: acts, and what is kept -/
theorem adv_eq (M N : Mo) : f2_advance M N = f2_advanceBy M N (f3_tide N (M.1 8)) := by
  unfold f2_advance
  cases f2_advanceBy M N (f3_tide N (M.1 8)) <;> rfl
theorem pipe_m {K nJ nW : Nat} {M : Mo} {f : Nat → Int32} {o : Nat} (v : Int32) (h : MomR K nJ nW M f o) (hW : nW ≤ 4) : MomR K nJ nW (sI M 6 v) (upd f (o + 16) v) o := by
  obtain ⟨hq, ho, ⟨h6, h7⟩, c, hc, hc1, hc2⟩ := h
  refine ⟨fun x hx => ?_, fun k h1 h2 => ?_, ⟨?_, ?_⟩, c, hc, ?_, ?_⟩
  · rw [sI_2, sI_n (show (5 : Nat) ≠ 6 by decide), up_n (by omega), up_n (by omega), up_n (by omega), up_n (by omega)]
    exact hq x hx
  · rw [sI_n (show (5 : Nat) ≠ 6 by decide)]; exact ho k h1 h2
  · rw [up_s, sI_s]
  · rw [up_n (by omega), sI_n (show (7 : Nat) ≠ 6 by decide)]; exact h7
  · rw [sI_n (show (8 : Nat) ≠ 6 by decide)]; exact hc1
  · rw [up_n (by omega)]; exact hc2
theorem lid_m {K nJ nW : Nat} {M : Mo} {f : Nat → Int32} {o : Nat} (v : Int32) (h : MomR K nJ nW M f o) (hW : nW ≤ 4) : MomR K nJ nW (sI M 7 v) (upd f (o + 17) v) o := by
  obtain ⟨hq, ho, ⟨h6, h7⟩, c, hc, hc1, hc2⟩ := h
  refine ⟨fun x hx => ?_, fun k h1 h2 => ?_, ⟨?_, ?_⟩, c, hc, ?_, ?_⟩
  · rw [sI_2, sI_n (show (5 : Nat) ≠ 7 by decide), up_n (by omega), up_n (by omega), up_n (by omega), up_n (by omega)]
    exact hq x hx
  · rw [sI_n (show (5 : Nat) ≠ 7 by decide)]; exact ho k h1 h2
  · rw [up_n (by omega), sI_n (show (6 : Nat) ≠ 7 by decide)]; exact h6
  · rw [up_s, sI_s]
  · rw [sI_n (show (8 : Nat) ≠ 7 by decide)]; exact hc1
  · rw [up_n (by omega)]; exact hc2
theorem call_m {K nJ nW : Nat} {M : Mo} {f : Nat → Int32} {o w : Nat} (h : MomR K nJ nW M f o) (hW : nW ≤ 4) (hw : w < nW) : MomR K nJ nW (sA (sA M 1 (upd (M.2 1) w (-9))) 2 (upd (M.2 2) w 0)) (upd (upd f (o + 4 + w) (-9)) (o + 8 + w) 0) o := by
  obtain ⟨hq, ho, ⟨h6, h7⟩, c, hc, hc1, hc2⟩ := h
  refine ⟨fun x hx => ?_, ho, ⟨?_, ?_⟩, c, hc, hc1, ?_⟩
  · obtain ⟨⟨a, ha, a1, a2⟩, ⟨b1, b2⟩, ⟨e, he, e1, e2⟩, o1⟩ := hq x hx
    rw [sA_n (show (0 : Nat) ≠ 2 by decide), sA_n (show (0 : Nat) ≠ 1 by decide), sA_n (show (1 : Nat) ≠ 2 by decide), sA_s, sA_s]
    by_cases hxw : x = w
    · subst hxw
      refine ⟨⟨a, ha, a1, ?_⟩, ⟨?_, ?_⟩, ⟨0, by omega, up_s, up_s⟩, ?_⟩
      · rw [up_n (by omega), up_n (by omega)]; exact a2
      · rw [up_s, up_n (by omega), up_s]
      · rw [up_s]; exact Or.inl rfl
      · rw [up_n (by omega), up_n (by omega)]; exact o1
    · refine ⟨⟨a, ha, a1, ?_⟩, ⟨?_, ?_⟩, ⟨e, he, ?_, ?_⟩, ?_⟩
      · rw [up_n (by omega), up_n (by omega)]; exact a2
      · rw [up_n hxw, up_n (by omega), up_n (by omega)]; exact b1
      · rw [up_n hxw]; exact b2
      · rw [up_n hxw]; exact e1
      · rw [up_n (by omega), up_n (by omega)]; exact e2
      · rw [up_n (by omega), up_n (by omega)]; exact o1
  · rw [up_n (by omega), up_n (by omega)]; exact h6
  · rw [up_n (by omega), up_n (by omega)]; exact h7
  · rw [up_n (by omega), up_n (by omega)]; exact hc2
theorem act_rel {k nJ nP nW : Nat} {d : Nat → Nat → Nat} {C : Cs} {S S1 : MS} {P' : Ro} {M' : Mo} {f' : Nat → Int32} (hN : NetR C.2.2.2.2.2.1.1 S nJ nP nW d) (h2 : S.1 23 = 15 ∧ S.1 24 = (-9)) (hL : SlotR k nJ nW C.1 C.2.2.2.2.2.2.2.2.1 S) (hT : TextR C.2.2.2.1 S) (hH : HearR C.2.2.2.2.2.2.2.1 S) (hz : C.2.2.2.2.2.2.2.2.2 = S.2.2)
    (hR' : RowR k nJ nW P' S1) (a1 : ∀ i, i ≠ 26 → i ≠ 27 → S1.1 i = S.1 i) (a2 : ∀ r, r ≠ 28 → r ≠ 11 → S1.2.1 r = S.2.1 r) (a3 : S1.2.2 = S.2.2) (hM' : MomR (k + 1) nJ nW M' f' 0) (hB' : SetB nW M' S) : Rel (k + 1) (cM (cRo (cRM C P'.1) P'.2) 0 M') (mA S1 11 f') := by
  refine ⟨nJ, nP, nW, d, ?_, ⟨?_, ?_⟩, ⟨?_, ?_⟩, ?_, ?_, ?_, ?_, ?_⟩
  · exact hN.fr _ (fun i hi => a1 i (by omega) (by omega)) (fun r h1 h2 => (mA_n (by omega)).trans (a2 r (by omega) (by omega)))
  · rw [mA_s]; exact hM'
  · exact hB'.fr ((mA_n (by decide)).trans (a2 8 (by decide) (by decide)))
  · exact (a1 23 (by decide) (by decide)).trans h2.1
  · exact (a1 24 (by decide) (by decide)).trans h2.2
  · exact hR'.fr (by omega) rfl rfl (mA_n (by decide)) (mA_n (by decide))
  · refine hL.fr (by omega) (fun s hs => ?_) ((mA_n (by decide)).trans (a2 35 (by decide) (by decide))) ((mA_n (by decide)).trans (a2 36 (by decide) (by decide))) ((mA_n (by decide)).trans (a2 8 (by decide) (by decide)))
    exact vu_n (by omega)
  · exact hT.fr (a1 20 (by decide) (by decide)) ((mA_n (by decide)).trans (a2 19 (by decide) (by decide)))
  · exact hH.fr (a1 30 (by decide) (by decide)) ((mA_n (by decide)).trans (a2 31 (by decide) (by decide))) ((mA_n (by decide)).trans (a2 32 (by decide) (by decide))) ((mA_n (by decide)).trans (a2 33 (by decide) (by decide)))
  · exact hz.trans a3.symm
theorem r_step (k : Nat) (C : Cs) (S : MS) (hk : k < 64) (h : Rel k C S) : ∃ (r : Int32) (C2 : Cs) (S2 : MS), f6_step C = some (r, C2) ∧ f7_step S = some (r, S2) ∧ Rel (k + 1) C2 S2 := by
  obtain ⟨nJ, nP, nW, d, hN, ⟨hM, hB⟩, h2, hR, hL, hT, hH, hz⟩ := h
  have hb := hN.1
  obtain ⟨P', S1, p1, p2, p3, p4, p5, p6⟩ := push_eq hR hb.2.2 hM hB
  have hN1 : NetR C.2.2.2.2.2.1.1 S1 nJ nP nW d := hN.fr _ (fun i hi => p4 i (by omega) (by omega)) (fun r h1 h2 => p5 r (by omega))
  have hB1 : SetB nW (C.1 0) S1 := hB.fr (p5 8 (by decide))
  have hT1 := hB1.r hb.2.2 ((p4 23 (by decide) (by decide)).trans h2.1) ((p4 24 (by decide) (by decide)).trans h2.2)
  have hM1 : MomR k nJ nW (C.1 0) (S1.2.1 11) (19 * 0) := by
    rw [p5 11 (by decide)]
    exact hM
  obtain ⟨M', f', r1, r2, r3, r4⟩ := stepon_eq hN1 (by omega) (by omega) hM1 hT1
  rw [mA_self] at r2
  have r2' : f7_stepOn S1 0 = some (M'.1 5 &&& ((C.1 0).1 5 ^^^ (-1)), mA S1 11 f') := r2
  have r1' : f2_advance ((cRo (cRM C P'.1) P'.2).1 0) ((cRo (cRM C P'.1) P'.2).2.2.2.2.2.1.1) = some M' := by
    rw [adv_eq]
    exact r1
  unfold f6_step f7_step
  rw [p1, ob, p2, ob, r2', ob]
  simp only [bd]
  rw [r1', ob]
  exact ⟨_, _, _, rfl, rfl, act_rel hN h2 hL hT hH hz p3 p4 (fun r h1 _ => p5 r h1) p6 r3.1 (hB.same r3.2.1.1 r3.2.1.2.1)⟩
theorem r_shut (k : Nat) (C : Cs) (S : MS) (x1 : Int32) (hk : k < 64) (h : Rel k C S) : ∃ (r : Int32) (C2 : Cs) (S2 : MS), f6_shut C x1 = some (r, C2) ∧ f7_shut S x1 = some (r, S2) ∧ Rel (k + 1) C2 S2 := by
  obtain ⟨nJ, nP, nW, d, hN, ⟨hM, hB⟩, h2, hR, hL, hT, hH, hz⟩ := id h
  have hb := hN.1
  unfold f6_shut f7_shut
  rcases isP hN x1 with ⟨a1, a2⟩ | ⟨a1, a2, p, hp, rfl⟩
  · rw [a1, a2, if_neg (by decide), if_pos rfl]
    exact ⟨_, _, _, rfl, rfl, h.up⟩
  · obtain ⟨P', S1, p1, p2, p3, p4, p5, p6⟩ := push_eq hR hb.2.2 hM hB
    have e16 : S1.2.1 11 16 = (C.1 0).1 6 := by rw [p5 11 (by decide)]; exact hM.2.2.1.1
    have w16 : ∀ (f : Nat → Int32) (v : Int32), zwr f 38 16 v = some (upd f 16 v) := fun f v => wr_ok (i := 16) (by omega) (by decide)
    have hM1 := pipe_m ((C.1 0).1 6 ^^^ (1 : Int32) <<< (nI p &&& 31)) hM hb.2.2
    rw [a1, a2, if_pos rfl, if_neg (show ¬ (1 : Int32) = 0 by decide), p1, ob, p2, ob, z16, ob, e16, w16, ob]
    simp only [bd]
    rw [mA_s, z16, ob, up_s, b_shr1 (by omega)]
    have et : f2_turnPipe ((cRo (cRM C P'.1) P'.2).1 0) (nI p) = some (sI (C.1 0) 6 ((C.1 0).1 6 ^^^ (1 : Int32) <<< (nI p &&& 31))) := by
      unfold f2_turnPipe
      rw [bit_eq (by omega)]
      rfl
    rw [et, ob]
    refine ⟨_, _, _, rfl, ?_, act_rel hN h2 hL hT hH hz p3 p4 (fun r h1 _ => p5 r h1) p6 (hM1.mono (by omega)) (hB.same rfl rfl)⟩
    rw [h6_eq (by omega), flag_b, p5 11 (by decide)]
    rfl
theorem r_seal (k : Nat) (C : Cs) (S : MS) (x1 : Int32) (hk : k < 64) (h : Rel k C S) : ∃ (r : Int32) (C2 : Cs) (S2 : MS), f6_seal C x1 = some (r, C2) ∧ f7_seal S x1 = some (r, S2) ∧ Rel (k + 1) C2 S2 := by
  obtain ⟨nJ, nP, nW, d, hN, ⟨hM, hB⟩, h2, hR, hL, hT, hH, hz⟩ := id h
  obtain ⟨hb, -, -, -, -, hli, -⟩ := id hN
  unfold f6_seal f7_seal
  rcases isJ hN x1 with ⟨a1, a2⟩ | ⟨a1, a2, p, hp, rfl⟩
  · rw [a1, a2, if_neg (by decide), if_pos rfl]
    exact ⟨_, _, _, rfl, rfl, h.up⟩
  · rw [a1, a2, if_pos rfl, if_neg (show ¬ (1 : Int32) = 0 by decide), rd_ok (by omega) (by decide), ob, hli p hp, h6_eq (by omega)]
    cases hl : bt (C.2.2.2.2.2.1.1.1 5) p
    · rw [if_neg (show ¬ (false : Bool) = true by decide), if_pos rfl, if_pos rfl]
      exact ⟨_, _, _, rfl, rfl, h.up⟩
    · have e1 : ¬ ((if (true : Bool) = true then (1 : Int32) else 0) = 0) := by decide
      obtain ⟨P', S1, p1, p2, p3, p4, p5, p6⟩ := push_eq hR hb.2.2 hM hB
      have e17 : S1.2.1 11 17 = (C.1 0).1 7 := by rw [p5 11 (by decide)]; exact hM.2.2.1.2
      have w17 : ∀ (f : Nat → Int32) (v : Int32), zwr f 38 17 v = some (upd f 17 v) := fun f v => wr_ok (i := 17) (by omega) (by decide)
      have hM1 := lid_m ((C.1 0).1 7 ^^^ (1 : Int32) <<< (nI p &&& 31)) hM hb.2.2
      rw [if_neg e1, if_neg e1, p1, ob, p2, ob, z17, ob, e17, w17, ob]
      simp only [bd]
      rw [mA_s, z17, ob, up_s, b_shr1 (by omega)]
      have et : f2_turnLid ((cRo (cRM C P'.1) P'.2).1 0) (nI p) = some (sI (C.1 0) 7 ((C.1 0).1 7 ^^^ (1 : Int32) <<< (nI p &&& 31))) := by
        unfold f2_turnLid
        rw [bit_eq (by omega)]
        rfl
      rw [et, ob]
      refine ⟨_, _, _, rfl, ?_, act_rel hN h2 hL hT hH hz p3 p4 (fun r h1 _ => p5 r h1) p6 (hM1.mono (by omega)) (hB.same rfl rfl)⟩
      rw [h6_eq (by omega), flag_b, p5 11 (by decide)]
      rfl
theorem back_c {M : Mo} {w : Nat} (hw : w < 4) : f2_callBack M (nI w) = some (sA (sA M 1 (upd (M.2 1) w (-9))) 2 (upd (M.2 2) w 0)) := by
  unfold f2_callBack
  simp only [bd]
  rw [put_ok (by omega) (by decide), sA_n (show (2 : Nat) ≠ 1 by decide), put_ok (by omega) (by decide)]
theorem back_r {S : MS} {pl w : Nat} (hpl : pl < 2) (hw : w < 4) : f7_callOn S (nI pl) (nI w) = some (mA S 11 (upd (upd (S.2.1 11) (19 * pl + 4 + w) (-9)) (19 * pl + 8 + w) 0)) := by
  unfold f7_callOn
  simp only [bd]
  rw [show 19 * nI pl + 4 + nI w = nI (19 * pl + 4 + w) from i19b pl 4 w, show 19 * nI pl + 8 + nI w = nI (19 * pl + 8 + w) from i19b pl 8 w, wr_ok (by omega) (by decide), ob, mA_s, wr_ok (by omega) (by decide), ob, mA_mA]
theorem r_call (k : Nat) (C : Cs) (S : MS) (x1 : Int32) (hk : k < 64) (h : Rel k C S) : ∃ (r : Int32) (C2 : Cs) (S2 : MS), f6_call C x1 = some (r, C2) ∧ f7_call S x1 = some (r, S2) ∧ Rel (k + 1) C2 S2 := by
  obtain ⟨nJ, nP, nW, d, hN, ⟨hM, hB⟩, h2, hR, hL, hT, hH, hz⟩ := id h
  have hb := hN.1
  unfold f6_call f7_call
  rcases isW hN x1 with ⟨a1, a2⟩ | ⟨a1, a2, w, hw, rfl⟩
  · rw [a1, a2, if_neg (by decide), if_pos rfl]
    exact ⟨_, _, _, rfl, rfl, h.up⟩
  · obtain ⟨-, -, ⟨g, hg, m2, s2⟩, so⟩ := hM.1 w hw
    rw [Nat.zero_add] at s2 so
    have eo : f7_isOut S 0 (nI w) = some (if bt ((C.1 0).1 5) w then 1 else 0) := isout_eq (pl := 0) (by omega) (by omega) (by rw [Nat.mul_zero, Nat.zero_add]; exact so)
    rw [a1, a2, if_pos rfl, if_neg (show ¬ (1 : Int32) = 0 by decide), eo, ob, h6_eq (by omega)]
    cases ho : bt ((C.1 0).1 5) w
    · obtain ⟨P', S1, p1, p2, p3, p4, p5, p6⟩ := push_eq hR hb.2.2 hM hB
      have hM1 := call_m hM hb.2.2 hw
      have ec : f2_callBack ((cRo (cRM C P'.1) P'.2).1 0) (nI w) = some (sA (sA (C.1 0) 1 (upd ((C.1 0).2 1) w (-9))) 2 (upd ((C.1 0).2 2) w 0)) := back_c (by omega)
      have er : f7_callOn S1 0 (nI w) = some (mA S1 11 (upd (upd (S1.2.1 11) (0 + 4 + w) (-9)) (0 + 8 + w) 0)) := back_r (pl := 0) (by omega) (by omega)
      have em : f6_cell 4 (((cRo (cRM C P'.1) P'.2).1 0).2 2) (nI w) = nI g := by
        rw [cell_ok (by omega) (by decide)]
        exact m2
      rw [if_neg (show ¬ (false : Bool) = true by decide), if_pos rfl, if_pos rfl, p1, ob, p2, ob, show (8 : Int32) + nI w = nI (8 + w) from nI_add 8 w, rd_ok (by omega) (by decide), ob, er, ob]
      simp only [bd]
      rw [ec, ob, em, p5 11 (by decide), s2]
      exact ⟨_, _, _, rfl, rfl, act_rel hN h2 hL hT hH hz p3 p4 (fun r h1 _ => p5 r h1) p6 (hM1.mono (by omega)) (hB.same (by rw [sA_n (show (3 : Nat) ≠ 2 by decide), sA_n (show (3 : Nat) ≠ 1 by decide)]) rfl)⟩
    · have e1 : ¬ ((if (true : Bool) = true then (1 : Int32) else 0) = 0) := by decide
      rw [if_neg e1, if_neg e1]
      exact ⟨_, _, _, rfl, rfl, h.up⟩
theorem r_undo (k : Nat) (C : Cs) (S : MS) (hk : k < 64) (h : Rel k C S) : ∃ (r : Int32) (C2 : Cs) (S2 : MS), f6_undo C = some (r, C2) ∧ f7_undo S = some (r, S2) ∧ Rel (k + 1) C2 S2 := by
  obtain ⟨nJ, nP, nW, d, hN, ⟨hM, hB⟩, h2, hR, hL, hT, hH, hz⟩ := id h
  have hb := hN.1
  unfold f6_undo
  by_cases hc : 0 < C.2.2.1.2
  · obtain ⟨P', M', S', p1, p2, p3, p4, p5, p6, p7, p8⟩ := pop_eq (C.1 0) hR hb.2.2 hc
    rw [if_pos hc, p1, p2]
    have hr : Rel (k + 1) (cM (cRo (cRM C P'.1) P'.2) 0 M') (mA S' 11 (S'.2.1 11)) := act_rel hN h2 hL hT hH hz p3 p6 (fun r _ h1 => p7 r h1) p8 (p4.mono (by omega)) (p5.fr (p7 8 (by decide)).symm)
    rw [mA_self] at hr
    exact ⟨_, _, _, rfl, rfl, hr⟩
  · obtain ⟨a, x, ha, hx, e1, e2, -⟩ := hR
    have e1' : C.2.2.1.2 = nI a := e1
    have : a = 0 := by
      rw [e1'] at hc
      rcases Nat.eq_zero_or_pos a with q | q
      · exact q
      · exact absurd (nI_lt q (by omega)) hc
    subst this
    unfold f7_undo
    rw [if_neg hc, e2, if_pos nI_0]
    exact ⟨_, _, _, rfl, rfl, h.up⟩
theorem kept_l {S : MS} {s : Nat} (hs : s < 2) : ∀ (n i : Nat) (f : Nat → Int32), i ≤ 19 → 19 < i + n → (∀ k, k < i → f (19 * s + k) = S.2.1 11 k) → ∃ f', f7_keep_l21 (nI s) n (nI i) (mA S 36 f) = some (S.2.1 11 18, mA S 36 f') ∧ (∀ k, k < 19 → f' (19 * s + k) = S.2.1 11 k) ∧ (∀ k, k < 19 * s ∨ 19 * s + 19 ≤ k → f' k = f k) := by
  intro n
  induction n with
  | zero => intro i f h1 h2; omega
  | succ n ih =>
    intro i f h1 h2 h4
    rw [f7_keep_l21]
    by_cases hi : i < 19
    · rw [if_neg (show ¬ (19 : Int32) ≤ nI i from nI_ge (b := 19) hi (by decide)), mA_n (show (11 : Nat) ≠ 36 by decide), rd_ok (by omega) (by decide), ob, mA_s, show 19 * nI s + nI i = nI (19 * s + i) from i19 s i, wr_ok (by omega) (by decide), ob, nI_1]
      simp only [bd]
      rw [mA_mA]
      obtain ⟨f', r1, r2, r3⟩ := ih (i + 1) (upd f (19 * s + i) (S.2.1 11 i)) (by omega) (by omega) (fun k hk => by
        by_cases hki : k = i
        · subst hki; rw [up_s]
        · rw [up_n (by omega)]; exact h4 k (by omega))
      exact ⟨f', r1, r2, fun k hk => (r3 k hk).trans (up_n (by omega))⟩
    · have e : i = 19 := by omega
      subst e
      rw [if_pos (by decide), mA_n (show (11 : Nat) ≠ 36 by decide), z18, ob]
      exact ⟨f, rfl, h4, fun _ _ => rfl⟩
theorem again_l {S : MS} {s : Nat} (hs : s < 2) : ∀ (n i : Nat) (f : Nat → Int32), i ≤ 19 → 19 < i + n → (∀ k, k < i → f k = S.2.1 36 (19 * s + k)) → ∃ f', f7_again_l26 (nI s) n (nI i) (mA S 11 f) = some (f' 18, sI (mA S 11 f') 26 0) ∧ (∀ k, k < 19 → f' k = S.2.1 36 (19 * s + k)) := by
  intro n
  induction n with
  | zero => intro i f h1 h2; omega
  | succ n ih =>
    intro i f h1 h2 h4
    rw [f7_again_l26]
    by_cases hi : i < 19
    · rw [if_neg (show ¬ (19 : Int32) ≤ nI i from nI_ge (b := 19) hi (by decide)), mA_n (show (36 : Nat) ≠ 11 by decide), show 19 * nI s + nI i = nI (19 * s + i) from i19 s i, rd_ok (by omega) (by decide), ob, mA_s, wr_ok (by omega) (by decide), ob, nI_1]
      simp only [bd]
      rw [mA_mA]
      refine ih (i + 1) _ (by omega) (by omega) (fun k hk => ?_)
      by_cases hki : k = i
      · subst hki; rw [up_s]
      · rw [up_n (by omega)]; exact h4 k (by omega)
    · have e : i = 19 := by omega
      subst e
      rw [if_pos (by decide)]
      simp only [bd]
      rw [sI_2, mA_s, z18, ob]
      exact ⟨f, rfl, h4⟩
theorem kbit : ∀ s, s < 2 → ∀ k, k < 2 → bt ((1 : Int32) <<< (nI s &&& 31)) k = decide (k = s) := fun s hs k hk => b_one (by omega) (by omega)
theorem r_keep (k : Nat) (C : Cs) (S : MS) (x1 : Int32) (hk : k < 64) (h : Rel k C S) : ∃ (r : Int32) (C2 : Cs) (S2 : MS), f6_keep C x1 = some (r, C2) ∧ f7_keep S x1 = some (r, S2) ∧ Rel (k + 1) C2 S2 := by
  obtain ⟨nJ, nP, nW, d, hN, ⟨hM, hB⟩, h2, hR, hL, hT, hH, hz⟩ := id h
  have hb := hN.1
  obtain ⟨c, hc, d1, d2⟩ := hM.2.2.2
  unfold f6_keep f7_keep
  rcases ch_eq x1 with ⟨a1, a2⟩ | ⟨a1, a2, s, hs, rfl⟩
  · rw [a1, a2, if_neg (by decide), if_pos rfl]
    exact ⟨_, _, _, rfl, rfl, h.up⟩
  · have hs0 : ∀ (f : Nat → Int32) (v : Int32), zwr f 2 (nI s) v = some (upd f s v) := fun f v => wr_ok hs (by decide)
    obtain ⟨f', r1, r2, r3⟩ := kept_l (S := mA S 35 (upd (S.2.1 35) s 1)) hs FU 0 (S.2.1 36) (by omega) (by show 19 < 0 + 100; omega) (fun k hk => by omega)
    have q : mA (mA S 35 (upd (S.2.1 35) s 1)) 36 (S.2.1 36) = mA S 35 (upd (S.2.1 35) s 1) := mA_self
    rw [q, mA_n (show (11 : Nat) ≠ 35 by decide)] at r1
    have r1' : f7_keep_l21 (nI s) FU 0 (mA S 35 (upd (S.2.1 35) s 1)) = some (S.2.1 11 18, mA (mA S 35 (upd (S.2.1 35) s 1)) 36 f') := r1
    rw [a1, a2, if_pos rfl, if_neg (show ¬ (1 : Int32) = 0 by decide), hs0, ob]
    simp only [bd]
    rw [r1', show S.2.1 11 18 = nI c from d2, bit_eq (by omega)]
    obtain ⟨M1, m1, m2⟩ := copy_eq (C.1 (2 + s)) (C.1 0)
    have fin : Rel (k + 1) (cKp (cM C (2 + s) M1) (C.2.2.2.2.2.2.2.2.1 ||| (1 : Int32) <<< (nI s &&& 31))) (mA (mA S 35 (upd (S.2.1 35) s 1)) 36 f') := by
      have g2 : ∀ r, r ≠ 35 → r ≠ 36 → (mA (mA S 35 (upd (S.2.1 35) s 1)) 36 f').2.1 r = S.2.1 r := fun r h1 h2 => by rw [mA_n h2, mA_n h1]
      have g0 : (cKp (cM C (2 + s) M1) (C.2.2.2.2.2.2.2.2.1 ||| (1 : Int32) <<< (nI s &&& 31))).1 0 = C.1 0 := vu_n (by omega)
      refine ⟨nJ, nP, nW, d, ?_, ⟨?_, ?_⟩, h2, ?_, ?_, ?_, ?_, hz⟩
      · exact hN.fr _ (fun _ _ => rfl) (fun r h1 h2 => g2 r (by omega) (by omega))
      · rw [g0, g2 11 (by decide) (by decide)]
        exact hM.mono (by omega)
      · rw [g0]
        exact hB.fr (g2 8 (by decide) (by decide))
      · exact hR.fr (by omega) rfl rfl (g2 28 (by decide) (by decide)) (g2 8 (by decide) (by decide))
      · intro s' hs'
        show (mA (mA S 35 (upd (S.2.1 35) s 1)) 36 f').2.1 35 s' = (if bt (C.2.2.2.2.2.2.2.2.1 ||| (1 : Int32) <<< (nI s &&& 31)) s' then 1 else 0) ∧ (bt (C.2.2.2.2.2.2.2.2.1 ||| (1 : Int32) <<< (nI s &&& 31)) s' = true → MomR (k + 1) nJ nW (va_up C.1 (2 + s) M1 (2 + s')) ((mA (mA S 35 (upd (S.2.1 35) s 1)) 36 f').2.1 36) (19 * s') ∧ SetB nW (va_up C.1 (2 + s) M1 (2 + s')) (mA (mA S 35 (upd (S.2.1 35) s 1)) 36 f'))
        rw [mA_n (show (35 : Nat) ≠ 36 by decide), mA_s, mA_s, b_or, kbit s hs s' hs']
        by_cases e : s' = s
        · subst e
          rw [up_s, decide_eq_true rfl, Bool.or_true, vu_s]
          refine ⟨rfl, fun _ => ⟨((hM.cp hb.2.2 m2).sh hb.2.2 (fun j hj => ?_)).mono (by omega), (hB.cp hb.2.2 m2).fr (g2 8 (by decide) (by decide))⟩⟩
          rw [r2 j hj, mA_n (show (11 : Nat) ≠ 35 by decide), Nat.zero_add]
        · rw [up_n e, decide_eq_false e, Bool.or_false, vu_n (by omega)]
          refine ⟨(hL s' hs').1, fun hx => ⟨(((hL s' hs').2 hx).1.sh hb.2.2 (fun j hj => ?_)).mono (by omega), ((hL s' hs').2 hx).2.fr (g2 8 (by decide) (by decide))⟩⟩
          exact r3 _ (by omega)
      · exact hT.fr rfl (g2 19 (by decide) (by decide))
      · exact hH.fr rfl (g2 31 (by decide) (by decide)) (g2 32 (by decide) (by decide)) (g2 33 (by decide) (by decide))
    rcases (show s = 0 ∨ s = 1 by omega) with rfl | rfl
    · have m1' : f2_copy (C.1 2) (C.1 0) = some M1 := m1
      rw [if_pos (by decide), m1', ob]
      refine ⟨_, _, _, rfl, ?_, fin⟩
      show some (nI c, _) = some ((C.1 0).1 8, _)
      rw [d1]
    · have m1' : f2_copy (C.1 3) (C.1 0) = some M1 := m1
      rw [if_neg (by decide), m1', ob]
      refine ⟨_, _, _, rfl, ?_, fin⟩
      show some (nI c, _) = some ((C.1 0).1 8, _)
      rw [d1]
theorem r_again (k : Nat) (C : Cs) (S : MS) (x1 : Int32) (hk : k < 64) (h : Rel k C S) : ∃ (r : Int32) (C2 : Cs) (S2 : MS), f6_again C x1 = some (r, C2) ∧ f7_again S x1 = some (r, S2) ∧ Rel (k + 1) C2 S2 := by
  obtain ⟨nJ, nP, nW, d, hN, ⟨hM, hB⟩, h2, hR, hL, hT, hH, hz⟩ := id h
  have hb := hN.1
  unfold f6_again f7_again
  rcases ch_eq x1 with ⟨a1, a2⟩ | ⟨a1, a2, s, hs, rfl⟩
  · rw [a1, a2, if_neg (by decide), if_pos rfl]
    exact ⟨_, _, _, rfl, rfl, h.up⟩
  · rw [a1, a2, if_pos rfl, if_neg (show ¬ (1 : Int32) = 0 by decide), rd_ok hs (by decide), ob, (hL s hs).1, h6_eq (by omega)]
    cases hx : bt C.2.2.2.2.2.2.2.2.1 s
    · rw [if_neg (show ¬ (false : Bool) = true by decide), if_pos rfl, if_pos rfl]
      exact ⟨_, _, _, rfl, rfl, h.up⟩
    · have e1 : ¬ ((if (true : Bool) = true then (1 : Int32) else 0) = 0) := by decide
      obtain ⟨l1, l2⟩ := (hL s hs).2 hx
      obtain ⟨f', r1, r2⟩ := again_l (S := S) hs FU 0 (S.2.1 11) (by omega) (by show 19 < 0 + 100; omega) (fun k hk => by omega)
      rw [mA_self] at r1
      have r1' : f7_again_l26 (nI s) FU 0 S = some (f' 18, sI (mA S 11 f') 26 0) := r1
      obtain ⟨M1, m1, m2⟩ := copy_eq (C.1 0) (C.1 (2 + s))
      have hM1 : MomR k nJ nW M1 f' 0 := (l1.cp hb.2.2 m2).sh hb.2.2 (fun j hj => by rw [Nat.zero_add]; exact r2 j hj)
      obtain ⟨c, hc, d1, d2⟩ := hM1.2.2.2
      rw [if_neg e1, if_neg e1, r1', show f' 18 = nI c from d2]
      have fin : Rel (k + 1) (cRn (cM C 0 M1) 0) (sI (mA S 11 f') 26 0) := by
        have g1 : ∀ i, i ≠ 26 → (sI (mA S 11 f') 26 0).1 i = S.1 i := fun i hi => sI_n hi
        have g2 : ∀ r, r ≠ 11 → (sI (mA S 11 f') 26 0).2.1 r = S.2.1 r := fun r hr => mA_n hr
        obtain ⟨a, x, ha, hx, y1, y2, y3, y4, y5, y6⟩ := hR
        refine ⟨nJ, nP, nW, d, ?_, ⟨?_, ?_⟩, ⟨(g1 23 (by decide)).trans h2.1, (g1 24 (by decide)).trans h2.2⟩, ⟨0, x, by omega, hx, rfl, sI_s, (g1 27 (by decide)).trans y3, y4, y5, fun i hi => by omega⟩, ?_, ?_, ?_, hz⟩
        · exact hN.fr _ (fun i hi => g1 i (by omega)) (fun r h1 h2 => g2 r (by omega))
        · show MomR (k + 1) nJ nW M1 ((mA S 11 f').2.1 11) 0
          rw [mA_s]
          exact hM1.mono (by omega)
        · exact (l2.cp hb.2.2 m2).fr (g2 8 (by decide))
        · exact hL.fr (by omega) (fun s hs => vu_n (by omega)) (g2 35 (by decide)) (g2 36 (by decide)) (g2 8 (by decide))
        · exact hT.fr (g1 20 (by decide)) (g2 19 (by decide))
        · exact hH.fr (g1 30 (by decide)) (g2 31 (by decide)) (g2 32 (by decide)) (g2 33 (by decide))
      rcases (show s = 0 ∨ s = 1 by omega) with rfl | rfl
      · have m1' : f2_copy (C.1 0) (C.1 2) = some M1 := m1
        rw [if_pos (by decide), m1', ob]
        refine ⟨_, _, _, rfl, ?_, fin⟩
        show some (nI c, _) = some (M1.1 8, _)
        rw [d1]
      · have m1' : f2_copy (C.1 0) (C.1 3) = some M1 := m1
        rw [if_neg (by decide), m1', ob]
        refine ⟨_, _, _, rfl, ?_, fin⟩
        show some (nI c, _) = some (M1.1 8, _)
        rw [d1]

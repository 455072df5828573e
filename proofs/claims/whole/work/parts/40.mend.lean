/-! mathematics: which pipe mends; told doings judged -/
theorem until40_l {N : Mo} {S : MS} {nJ nP nW : Nat} {d : Nat → Nat → Nat} (hN : NetR N S nJ nP nW d) {w : Nat} (hw : w < nW) : ∀ (n i K : Nat) (M : Mo) (f : Nat → Int32), i ≤ 40 → 40 < i + n → K + (40 - i) < 2 ^ 31 → MomR K nJ nW M f (19 * 1) → SetR nW M S →
    ∃ (v : Int32) (M' M'' : Mo) (f'' : Nat → Int32) (K'' : Nat), f2_goUntilOut_l2 (nI w) N n (nI i) M = some (v, M') ∧ f7_goTrial_l2 (nI 40) n (nI i) (mA S 11 f) = some (mA S 11 f'') ∧ MomR K'' nJ nW M'' f'' (19 * 1) ∧ M'.1 4 = M.1 4 ∧ (∀ k, k < 19 → f'' k = f k) ∧ bt (M''.1 5) w = bt (M'.1 5) w ∧ (bt (M'.1 5) w = true → M''.2 0 w = M'.2 0 w) := by
  have hb := hN.1
  have e1 : ¬ ((if (true : Bool) = true then (1 : Int32) else 0) = 0) := by decide
  intro n
  induction n with
  | zero => intro i K M f h1 h2; omega
  | succ n ih =>
    intro i K M f h1 h2 hK hM hT
    rw [f2_goUntilOut_l2, h6_eq (by omega)]
    by_cases hi : i < 40
    · rw [if_neg (show ¬ (40 : Int32) ≤ nI i from nI_ge (b := 40) hi (by decide))]
      cases ho : bt (M.1 5) w
      · obtain ⟨M1, f1, a1, a2, a3, a4⟩ := stepon1 hN (by omega) hM hT
        obtain ⟨v, M', M'', f'', K'', r1, r2, r3, r4, r5, r6, r7⟩ := ih (i + 1) (K + 1) M1 f1 (by omega) (by omega) (by omega) a3.1 a4
        refine ⟨v, M', M'', f'', K'', ?_, ?_, r3, r4.trans a3.2.1.2.1, fun k hk => (r5 k hk).trans (a3.2.2.1 k (by omega)), r6, r7⟩
        · rw [if_neg (show ¬ (false : Bool) = true by decide), if_pos rfl, a1, ob, nI_1]
          exact r1
        · rw [f7_goTrial_l2, if_neg (nI_ge hi (by omega)), a2, ob, nI_1]
          exact r2
      · obtain ⟨M'', f'', r1, r2, r3, r4⟩ := times_l hN (x := 40) (by omega) (n + 1) i K M f h1 h2 hK hM hT
        refine ⟨nI i, M, M'', f'', _, ?_, r2, r3.1, rfl, fun k hk => r3.2.2.1 k (by omega), ?_, fun _ => (r3.2.2.2 w ho).2⟩
        · rw [if_neg e1]
        · rw [(r3.2.2.2 w ho).1, ho]
    · have e : i = 40 := by omega
      subst e
      rw [if_pos (show (40 : Int32) ≤ nI 40 by decide)]
      have er : f7_goTrial_l2 (nI 40) (n + 1) (nI 40) (mA S 11 f) = some (mA S 11 f) := by
        rw [f7_goTrial_l2, if_pos (nI_le (Nat.le_refl _) (by omega))]
      cases ho : bt (M.1 5) w
      · exact ⟨-9, M, M, f, K, by rw [if_neg (show ¬ (false : Bool) = true by decide), if_pos rfl], er, hM, rfl, fun _ _ => rfl, rfl, fun _ => rfl⟩
      · exact ⟨40, M, M, f, K, by rw [if_neg e1], er, hM, rfl, fun _ _ => rfl, rfl, fun _ => rfl⟩
theorem z35 {f : Nat → Int32} : zrd f 38 35 = some (f 35) := rd_ok (i := 35) (by omega) (by decide)
theorem w35 {f : Nat → Int32} {v : Int32} : zwr f 38 35 v = some (upd f 35 v) := wr_ok (i := 35) (by omega) (by decide)
theorem z36 {f : Nat → Int32} : zrd f 38 36 = some (f 36) := rd_ok (i := 36) (by omega) (by decide)
theorem w36 {f : Nat → Int32} {v : Int32} : zwr f 38 36 v = some (upd f 36 v) := wr_ok (i := 36) (by omega) (by decide)
theorem mend_l {k nJ nP nW : Nat} {d : Nat → Nat → Nat} {C0 : Cs} {S0 : MS} (h0 : RelN k nJ nP nW d C0 S0) (hk : k < 64) {w : Nat} (hw : w < nW) : ∀ (n i : Nat) (C : Cs) (S : MS), i ≤ nP → nP < i + n → Lk C0 C S0 S → ∃ (v : Int32) (C' : Cs) (S' : MS), f6_mend_l29 (nI w) n (nI i) C = some (v, C') ∧ f7_mend_l24 (nI w) n (nI i) S = some (v, S') ∧ Lk C0 C' S0 S' := by
  have hb := h0.1.1
  intro n
  induction n with
  | zero => intro i C S h1 h2; omega
  | succ n ih =>
    intro i C S h1 h2 g
    have h := h0.lk g
    rw [f6_mend_l29, f7_mend_l24, h.1.2.1.2.1, h.1.2.2.1.2.1]
    by_cases hi : i < nP
    · obtain ⟨M1, f1, m1, l1, hM1, hB1, hR1, -, hf⟩ := lay_tr h
      have e35 : f1 35 = M1.1 6 := hM1.2.2.1.1
      have hM2 : MomR (k + 1) nJ nW (sI M1 6 (M1.1 6 ^^^ (1 : Int32) <<< (nI i &&& 31))) (upd f1 35 (M1.1 6 ^^^ (1 : Int32) <<< (nI i &&& 31))) (19 * 1) := pipe_m _ hM1 hb.2.2
      have hR2 : SetR nW (sI M1 6 (M1.1 6 ^^^ (1 : Int32) <<< (nI i &&& 31))) S := hR1.same rfl (sI_n (by decide))
      obtain ⟨v, M', M'', f'', K'', r1, r2, r3, r4, r5, r6, r7⟩ := until40_l h.1 hw FU 0 (k + 1) _ _ (by omega) (by show 40 < 0 + 100; omega) (by omega) hM2 hR2
      have et : f2_turnPipe ((cM C 1 M1).1 1) (nI i) = some (sI M1 6 (M1.1 6 ^^^ (1 : Int32) <<< (nI i &&& 31))) := by
        unfold f2_turnPipe
        rw [bit_eq (by omega)]
        rfl
      have r1' : f2_goUntilOut ((cM (cM C 1 M1) 1 (sI M1 6 (M1.1 6 ^^^ (1 : Int32) <<< (nI i &&& 31)))).1 1) ((cM (cM C 1 M1) 1 (sI M1 6 (M1.1 6 ^^^ (1 : Int32) <<< (nI i &&& 31)))).2.2.2.2.2.1.1) (nI w) = some (v, M') := r1
      have r2' : f7_goTrial (mA S 11 (upd f1 35 (M1.1 6 ^^^ (1 : Int32) <<< (nI i &&& 31)))) 40 = some (mA S 11 f'') := r2
      obtain ⟨u, u1, u2⟩ := outon_eq (M := M'') (h.1.m11 (f := f'')) (pl := 1) (K := K'') (by omega) (by rw [mA_s]; exact r3) 1
      have u1' : f7_outOn (mA S 11 f'') 1 1 = some u := u1
      have hrt : f2_isRight M' C.2.2.2.2.2.1.1 (nI w) = f7_has u (nI w) := by
        rw [right1 (by omega), h7_eq (by omega), u2 w (by omega), decide_eq_true hw, Bool.true_and, decide_eq_false (show ¬ (1 : Int32) = 0 by decide), Bool.false_or, r6, r4, sI_n (show (4 : Nat) ≠ 6 by decide), hB1.2.1 w hw, Bool.and_true]
        cases ho : bt (M'.1 5) w
        · rw [Bool.false_and, Bool.false_and]
        · rw [r7 ho]
      have hrt' : f2_isRight ((cM (cM (cM C 1 M1) 1 (sI M1 6 (M1.1 6 ^^^ (1 : Int32) <<< (nI i &&& 31)))) 1 M').1 1) ((cM (cM (cM C 1 M1) 1 (sI M1 6 (M1.1 6 ^^^ (1 : Int32) <<< (nI i &&& 31)))) 1 M').2.2.2.2.2.1.1) (nI w) = f7_has u (nI w) := hrt
      have g2 : Lk C0 (cM (cM (cM C 1 M1) 1 (sI M1 6 (M1.1 6 ^^^ (1 : Int32) <<< (nI i &&& 31)))) 1 M') S0 (mA S 11 f'') := g.tr ⟨((SC.m1 C M1).tr (SC.m1 _ _)).tr (SC.m1 _ _), SS.m11 (fun j hj => (r5 j hj).trans ((up_n (by omega)).trans (hf j hj))), rfl, rfl⟩
      rw [if_neg (nI_ge hi (by omega)), if_neg (nI_ge hi (by omega)), m1, ob, l1, ob, mA_s, z35, ob, e35, w35, ob, mA_mA]
      simp only [bd]
      rw [et, ob, r1', ob, r2', ob, u1', ob]
      simp only [hrt', nI_1]
      by_cases hq : f7_has u (nI w) = 0
      · rw [if_pos hq, if_pos hq]
        exact ih (i + 1) _ _ (by omega) (by omega) g2
      · rw [if_neg hq, if_neg hq]
        exact ⟨_, _, _, rfl, rfl, g2⟩
    · have e : i = nP := by omega
      subst e
      rw [if_pos (nI_le (Nat.le_refl _) (by omega)), if_pos (nI_le (Nat.le_refl _) (by omega))]
      exact ⟨_, _, _, rfl, rfl, g⟩
theorem r_mend (k : Nat) (C : Cs) (S : MS) (x1 : Int32) (hk : k < 64) (h : Rel k C S) : ∃ (r : Int32) (C2 : Cs) (S2 : MS), f6_mend C x1 = some (r, C2) ∧ f7_mend S x1 = some (r, S2) ∧ Rel (k + 1) C2 S2 := by
  obtain ⟨nJ, nP, nW, d, h⟩ := h
  have hN := h.1
  have hb := hN.1
  unfold f6_mend f7_mend
  rcases isW hN x1 with ⟨a1, a2⟩ | ⟨a1, a2, w, hw, rfl⟩
  · rw [a1, a2, if_neg (by decide), if_pos rfl]
    exact ⟨_, _, _, rfl, rfl, h.rel⟩
  · have so := (h.2.1.1.1 w hw).2.2.2
    have eo : f7_isOut S 0 (nI w) = some (if bt ((C.1 0).1 5) w then 1 else 0) := isout_eq (pl := 0) (by omega) (by omega) so
    rw [a1, a2, if_pos rfl, if_neg (show ¬ (1 : Int32) = 0 by decide), eo, ob, h6_eq (by omega)]
    cases ho : bt ((C.1 0).1 5) w
    · obtain ⟨v, C', S', r1, r2, r3⟩ := mend_l h hk hw FU 0 C S (by omega) (by show nP < 0 + 100; omega) (Lk.rf C S)
      rw [if_neg (show ¬ (false : Bool) = true by decide), if_pos rfl, if_pos rfl]
      exact ⟨_, _, _, r1, r2, h.lkr r3⟩
    · have e1 : ¬ ((if (true : Bool) = true then (1 : Int32) else 0) = 0) := by decide
      rw [if_neg e1, if_neg e1]
      exact ⟨_, _, _, rfl, rfl, h.rel⟩
/-- the trial of both -/
def TrB (K nJ nW : Nat) (C : Cs) (S : MS) : Prop := MomR K nJ nW (C.1 1) (S.2.1 11) (19 * 1) ∧ SetB nW (C.1 1) S
theorem TrB.mono {K K' nJ nW : Nat} {C : Cs} {S : MS} (h : TrB K nJ nW C S) (hK : K ≤ K') : TrB K' nJ nW C S := ⟨h.1.mono hK, h.2⟩
theorem lay1 {k nJ nP nW : Nat} {d : Nat → Nat → Nat} {C : Cs} {S : MS} (h : RelN k nJ nP nW d C S) : ∃ (M1 : Mo) (S1 : MS), f2_copy (C.1 1) (C.1 0) = some M1 ∧ f7_layTrial S = some S1 ∧ Lk C (cM C 1 M1) S S1 ∧ TrB k nJ nW (cM C 1 M1) S1 := by
  obtain ⟨M1, f1, m1, l1, hM1, hB1, hR1, -, hf⟩ := lay_tr h
  refine ⟨M1, _, m1, l1, Lk.m M1 hf, ?_, hB1.fr (mA_n (by decide))⟩
  rw [mA_s]
  exact hM1
theorem adv1B {k K nJ nP nW : Nat} {d : Nat → Nat → Nat} {C : Cs} {S : MS} (h : RelN k nJ nP nW d C S) (ht : TrB K nJ nW C S) (tide : Int32) : ∃ (M' : Mo) (S' : MS) (y : Int32), f2_advanceBy (C.1 1) C.2.2.2.2.2.1.1 tide = some M' ∧ f7_stepBy S 1 tide = some (y, S') ∧ Lk C (cM C 1 M') S S' ∧ TrB (K + 1) nJ nW (cM C 1 M') S' := by
  have hb := h.1.1
  obtain ⟨M', f', a1, a2, a3, a4⟩ := step_eq h.1 (pl := 1) (by omega) tide ht.1 (ht.2.r hb.2.2 h.2.2.1.1 h.2.2.1.2)
  rw [mA_self] at a2
  refine ⟨M', _, _, a1, a2, Lk.m M' (fun i hi => a3.2.2.1 i (by omega)), ?_, (ht.2.same a3.2.1.1 a3.2.1.2.1).fr (mA_n (by decide))⟩
  rw [mA_s]
  exact a3.1
theorem adv1 {k K nJ nP nW : Nat} {d : Nat → Nat → Nat} {C : Cs} {S : MS} (h : RelN k nJ nP nW d C S) (hK : K < 2 ^ 31) (ht : TrB K nJ nW C S) : ∃ (M' : Mo) (S' : MS) (y : Int32), f2_advance (C.1 1) C.2.2.2.2.2.1.1 = some M' ∧ f7_stepOn S 1 = some (y, S') ∧ Lk C (cM C 1 M') S S' ∧ TrB (K + 1) nJ nW (cM C 1 M') S' := by
  have hb := h.1.1
  obtain ⟨M', f', a1, a2, a3, a4⟩ := stepon1 h.1 hK ht.1 (ht.2.r hb.2.2 h.2.2.1.1 h.2.2.1.2)
  rw [mA_self] at a2
  refine ⟨M', _, _, (adv_eq _ _).trans a1, a2, Lk.m M' (fun i hi => a3.2.2.1 i (by omega)), ?_, (ht.2.same a3.2.1.1 a3.2.1.2.1).fr (mA_n (by decide))⟩
  rw [mA_s]
  exact a3.1
theorem pipe1 {K nJ nW : Nat} {C : Cs} {S : MS} (hW : nW ≤ 4) (ht : TrB K nJ nW C S) (v : Int32) : Lk C (cM C 1 (sI (C.1 1) 6 v)) S (mA S 11 (upd (S.2.1 11) 35 v)) ∧ TrB K nJ nW (cM C 1 (sI (C.1 1) 6 v)) (mA S 11 (upd (S.2.1 11) 35 v)) := by
  have hB : SetB nW (sI (C.1 1) 6 v) S := ht.2.same rfl (sI_n (by decide))
  refine ⟨Lk.m _ (fun i hi => up_n (by omega)), ?_, hB.fr (mA_n (by decide))⟩
  rw [mA_s]
  exact pipe_m v ht.1 hW
theorem lid1 {K nJ nW : Nat} {C : Cs} {S : MS} (hW : nW ≤ 4) (ht : TrB K nJ nW C S) (v : Int32) : Lk C (cM C 1 (sI (C.1 1) 7 v)) S (mA S 11 (upd (S.2.1 11) 36 v)) ∧ TrB K nJ nW (cM C 1 (sI (C.1 1) 7 v)) (mA S 11 (upd (S.2.1 11) 36 v)) := by
  have hB : SetB nW (sI (C.1 1) 7 v) S := ht.2.same rfl (sI_n (by decide))
  refine ⟨Lk.m _ (fun i hi => up_n (by omega)), ?_, hB.fr (mA_n (by decide))⟩
  rw [mA_s]
  exact lid_m v ht.1 hW
theorem call1 {K nJ nW w : Nat} {C : Cs} {S : MS} (hW : nW ≤ 4) (hw : w < nW) (ht : TrB K nJ nW C S) : Lk C (cM C 1 (sA (sA (C.1 1) 1 (upd ((C.1 1).2 1) w (-9))) 2 (upd ((C.1 1).2 2) w 0))) S (mA S 11 (upd (upd (S.2.1 11) (19 * 1 + 4 + w) (-9)) (19 * 1 + 8 + w) 0)) ∧ TrB K nJ nW (cM C 1 (sA (sA (C.1 1) 1 (upd ((C.1 1).2 1) w (-9))) 2 (upd ((C.1 1).2 2) w 0))) (mA S 11 (upd (upd (S.2.1 11) (19 * 1 + 4 + w) (-9)) (19 * 1 + 8 + w) 0)) := by
  have hB : SetB nW (sA (sA (C.1 1) 1 (upd ((C.1 1).2 1) w (-9))) 2 (upd ((C.1 1).2 2) w 0)) S := ht.2.same (by rw [sA_n (show (3 : Nat) ≠ 2 by decide), sA_n (show (3 : Nat) ≠ 1 by decide)]) rfl
  refine ⟨Lk.m _ (fun i hi => by rw [up_n (by omega), up_n (by omega)]), ?_, hB.fr (mA_n (by decide))⟩
  rw [mA_s]
  exact call_m ht.1 hW hw
theorem ne_nI {a b : Nat} (h : a ≠ b) (ha : a < 2 ^ 31) (hb : b < 2 ^ 31) : ¬ nI a = nI b := fun q => h ((nI_eq ha hb).mp q)
theorem xor0 (x : Int32) : x ^^^ 0 = x := by
  apply b_ext
  intro i hi
  rw [b_xor, b_0, Bool.xor_false]
theorem zbo_b (b : Bool) : zbo (if b then 1 else 0) = some (if b then 1 else 0) := by
  cases b <;> decide
/-- one told doing -/
theorem tried {k K nJ nP nW : Nat} {d : Nat → Nat → Nat} {C : Cs} {S : MS} (h : RelN k nJ nP nW d C S) (hK : K < 2 ^ 31) (ht : TrB K nJ nW C S) {a b : Nat} (ha : a < 10) (hb2 : b < 10) : ∃ (v : Int32) (C' : Cs) (S' : MS), f6_isTried C (nI a) (nI b) = some (v, C') ∧ f7_tryThing S (nI a) (nI b) = some (v, S') ∧ Lk C C' S S' ∧ (¬ v = 0 → TrB (K + 1) nJ nW C' S') := by
  have hN := h.1
  obtain ⟨hb, -, -, -, -, hli, -⟩ := id hN
  have e35 : S.2.1 11 35 = (C.1 1).1 6 := ht.1.2.2.1.1
  have e36 : S.2.1 11 36 = (C.1 1).1 7 := ht.1.2.2.1.2
  have e1 : ¬ ((if (true : Bool) = true then (1 : Int32) else 0) = 0) := by decide
  have pp : ∀ (x1 : Int32) (t : Bool), (if x1 = 1 then (1 : Int32) else 0) = (if t then 1 else 0) → ∃ (v : Int32) (C' : Cs) (S' : MS), f6_isTried_j55 x1 (nI b) C = some (v, C') ∧ f7_tryThing_j52 x1 (nI b) S = some (v, S') ∧ Lk C C' S S' ∧ (¬ v = 0 → TrB (K + 1) nJ nW C' S') := by
    intro x1 t hx
    unfold f6_isTried_j55 f7_tryThing_j52
    rcases isP hN (nI b) with ⟨a1, a2⟩ | ⟨a1, a2, p, hp, hbp⟩
    · rw [a1, a2, if_neg (by decide), if_pos rfl, ob, z35, ob]
      simp only [bd]
      rw [if_pos trivial, xor0, w35, ob, show zbo 0 = some 0 by decide, ob]
      exact ⟨_, _, _, rfl, rfl, ⟨SC.rf C, (SS.m11 (fun i hi => up_n (by omega))), rfl, rfl⟩, fun q => absurd rfl q⟩
    · rw [a1, a2, if_pos rfl, if_neg (show ¬ (1 : Int32) = 0 by decide), z35, ob, hbp]
      simp only [bd]
      rw [hx, e35, h6_eq (by omega), h7_eq (by omega)]
      have et : f2_turnPipe (C.1 1) (nI p) = some (sI (C.1 1) 6 ((C.1 1).1 6 ^^^ (1 : Int32) <<< (nI p &&& 31))) := by
        unfold f2_turnPipe
        rw [bit_eq (by omega)]
        rfl
      by_cases hq : (if bt ((C.1 1).1 6) p = true then (1 : Int32) else 0) = (if t = true then 1 else 0)
      · obtain ⟨p1, p2⟩ := pipe1 hb.2.2 ht ((C.1 1).1 6 ^^^ (1 : Int32) <<< (nI p &&& 31))
        rw [if_pos hq, if_pos hq, ob, ob, if_neg (show ¬ (1 : Int32) = 0 by decide), w35, ob, show zbo 1 = some 1 by decide, ob, et, ob]
        exact ⟨_, _, _, rfl, rfl, p1, fun _ => p2.mono (by omega)⟩
      · rw [if_neg hq, if_neg hq, ob, ob, if_pos rfl, xor0, w35, ob, show zbo 0 = some 0 by decide, ob]
        exact ⟨_, _, _, rfl, rfl, ⟨SC.rf C, (SS.m11 (fun i hi => up_n (by omega))), rfl, rfl⟩, fun q => absurd rfl q⟩
  unfold f6_isTried f7_tryThing
  by_cases a0 : a = 0
  · subst a0
    obtain ⟨M', S', y, s1, s2, s3, s4⟩ := adv1 h hK ht
    rw [if_pos nI_0, if_pos nI_0, s1, ob, s2, ob]
    simp only [bd]
    by_cases hz : nI b = 0
    · rw [if_pos hz, if_pos hz]
      exact ⟨_, _, _, rfl, rfl, s3, fun _ => s4⟩
    · rw [if_neg hz, if_neg hz]
      exact ⟨_, _, _, rfl, rfl, ⟨SC.rf C, s3.2.1, rfl, s3.2.2.2⟩, fun q => absurd rfl q⟩
  rw [if_neg (show ¬ nI a = 0 from ne_nI (b := 0) a0 (by omega) (by omega)), if_neg (show ¬ nI a = 0 from ne_nI (b := 0) a0 (by omega) (by omega))]
  by_cases a1 : a = 1
  · subst a1
    rw [if_pos (show nI 1 = 1 from rfl), if_pos (show nI 1 = 1 from rfl)]
    exact pp (nI 1) true (by decide)
  rw [if_neg (show ¬ nI a = 1 from ne_nI (b := 1) a1 (by omega) (by omega)), if_neg (show ¬ nI a = 1 from ne_nI (b := 1) a1 (by omega) (by omega))]
  by_cases a2 : a = 2
  · subst a2
    rw [if_pos (show nI 2 = 2 from rfl), if_pos (show nI 2 = 2 from rfl)]
    exact pp (nI 2) false (by decide)
  rw [if_neg (show ¬ nI a = 2 from ne_nI (b := 2) a2 (by omega) (by omega)), if_neg (show ¬ nI a = 2 from ne_nI (b := 2) a2 (by omega) (by omega))]
  by_cases a3 : a = 3
  · subst a3
    rw [if_pos (show nI 3 = 3 from rfl), if_pos (show nI 3 = 3 from rfl)]
    rcases isJ hN (nI b) with ⟨j1, j2⟩ | ⟨j1, j2, j, hj, hbj⟩
    · rw [j1, j2, if_neg (by decide), if_pos rfl, ob, z36, ob]
      simp only [bd]
      rw [if_pos trivial, xor0, w36, ob, show zbo 0 = some 0 by decide, ob]
      exact ⟨_, _, _, rfl, rfl, ⟨SC.rf C, (SS.m11 (fun i hi => up_n (by omega))), rfl, rfl⟩, fun q => absurd rfl q⟩
    · have et : f2_turnLid (C.1 1) (nI j) = some (sI (C.1 1) 7 ((C.1 1).1 7 ^^^ (1 : Int32) <<< (nI j &&& 31))) := by
        unfold f2_turnLid
        rw [bit_eq (by omega)]
        rfl
      rw [j1, j2, if_pos rfl, if_neg (show ¬ (1 : Int32) = 0 by decide), hbj, rd_ok (by omega) (by decide), ob, hli j hj, h6_eq (by omega), z36, e36]
      simp only [bd]
      cases hl : bt (C.2.2.2.2.2.1.1.1 5) j
      · rw [if_neg (show ¬ (false : Bool) = true by decide), if_pos rfl, if_neg (show ¬ (0 : Int32) = 1 by decide), ob, ob, if_pos rfl, xor0, w36, ob, show zbo 0 = some 0 by decide, ob]
        exact ⟨_, _, _, rfl, rfl, ⟨SC.rf C, (SS.m11 (fun i hi => up_n (by omega))), rfl, rfl⟩, fun q => absurd rfl q⟩
      · obtain ⟨p1, p2⟩ := lid1 hb.2.2 ht ((C.1 1).1 7 ^^^ (1 : Int32) <<< (nI j &&& 31))
        rw [if_neg e1, if_pos (show (if (true : Bool) = true then (1 : Int32) else 0) = 1 by decide), ob, ob, if_neg (show ¬ (1 : Int32) = 0 by decide), w36, ob, show zbo 1 = some 1 by decide, ob, et, ob]
        exact ⟨_, _, _, rfl, rfl, p1, fun _ => p2.mono (by omega)⟩
  rw [if_neg (show ¬ nI a = 3 from ne_nI (b := 3) a3 (by omega) (by omega)), if_neg (show ¬ nI a = 3 from ne_nI (b := 3) a3 (by omega) (by omega))]
  by_cases a4 : a = 4
  · subst a4
    rw [if_pos (show nI 4 = 4 from rfl), if_pos (show nI 4 = 4 from rfl)]
    rcases isW hN (nI b) with ⟨j1, j2⟩ | ⟨j1, j2, w, hw, hbw⟩
    · rw [j1, j2, if_neg (by decide), if_pos rfl, ob, if_pos rfl, show zbo 0 = some 0 by decide, ob]
      exact ⟨_, _, _, rfl, rfl, Lk.rf C S, fun q => absurd rfl q⟩
    · have eo : f7_isOut S 1 (nI w) = some (if bt ((C.1 1).1 5) w then 1 else 0) := isout_eq (pl := 1) (by omega) (by omega) (ht.1.1 w hw).2.2.2
      rw [j1, j2, if_pos rfl, if_neg (show ¬ (1 : Int32) = 0 by decide), hbw, eo, ob, h6_eq (by omega)]
      cases ho : bt ((C.1 1).1 5) w
      · obtain ⟨p1, p2⟩ := call1 hb.2.2 hw ht
        have er : f7_callOn S 1 (nI w) = some (mA S 11 (upd (upd (S.2.1 11) (19 * 1 + 4 + w) (-9)) (19 * 1 + 8 + w) 0)) := back_r (pl := 1) (by omega) (by omega)
        rw [if_neg (show ¬ (false : Bool) = true by decide), if_pos rfl, if_pos rfl, ob, if_neg (show ¬ (1 : Int32) = 0 by decide), back_c (by omega), ob, er, ob, show zbo 1 = some 1 by decide, ob]
        simp only [bd]
        exact ⟨_, _, _, rfl, rfl, p1, fun _ => p2.mono (by omega)⟩
      · rw [if_neg e1, if_neg e1, ob, if_pos rfl, show zbo 0 = some 0 by decide, ob]
        exact ⟨_, _, _, rfl, rfl, Lk.rf C S, fun q => absurd rfl q⟩
  rw [if_neg (show ¬ nI a = 4 from ne_nI (b := 4) a4 (by omega) (by omega)), if_neg (show ¬ nI a = 4 from ne_nI (b := 4) a4 (by omega) (by omega))]
  exact ⟨_, _, _, rfl, rfl, Lk.rf C S, fun q => absurd rfl q⟩

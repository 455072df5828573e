/-! mathematics: looks ahead -/
def Lk (C C' : Cs) (S S' : MS) : Prop := SC C C' ∧ SS S S' ∧ C'.2.2.2.2.2.2.2.2.2 = C.2.2.2.2.2.2.2.2.2 ∧ S'.2.2 = S.2.2
theorem Lk.rf (C : Cs) (S : MS) : Lk C C S S := ⟨SC.rf C, SS.rf S, rfl, rfl⟩
theorem Lk.tr {A B C : Cs} {S T U : MS} (h : Lk A B S T) (g : Lk B C T U) : Lk A C S U := ⟨h.1.tr g.1, h.2.1.tr g.2.1, g.2.2.1.trans h.2.2.1, g.2.2.2.trans h.2.2.2⟩
theorem Lk.m {C : Cs} {S : MS} (M : Mo) {f : Nat → Int32} (h : ∀ i, i < 19 → f i = S.2.1 11 i) : Lk C (cM C 1 M) S (mA S 11 f) := ⟨SC.m1 C M, SS.m11 h, rfl, rfl⟩
theorem RelN.se {k nJ nP nW : Nat} {d : Nat → Nat → Nat} {C : Cs} {S : MS} (h : RelN k nJ nP nW d C S) : C.2.2.2.2.2.2.2.2.2 = S.2.2 := by
  obtain ⟨-, -, -, -, -, -, -, hz⟩ := h
  exact hz
theorem RelN.lk {k nJ nP nW : Nat} {d : Nat → Nat → Nat} {C C' : Cs} {S S' : MS} (h : RelN k nJ nP nW d C S) (g : Lk C C' S S') : RelN (k + 1) nJ nP nW d C' S' :=
  h.fr g.1 g.2.1 (g.2.2.1.trans (h.se.trans g.2.2.2.symm))
theorem RelN.lkr {k nJ nP nW : Nat} {d : Nat → Nat → Nat} {C C' : Cs} {S S' : MS} (h : RelN k nJ nP nW d C S) (g : Lk C C' S S') : Rel (k + 1) C' S' := ⟨nJ, nP, nW, d, h.lk g⟩
theorem RelN.rel {k nJ nP nW : Nat} {d : Nat → Nat → Nat} {C : Cs} {S : MS} (h : RelN k nJ nP nW d C S) : Rel (k + 1) C S := h.lkr (Lk.rf C S)
/-- the trial is laid -/
theorem lay_tr {k nJ nP nW : Nat} {d : Nat → Nat → Nat} {C : Cs} {S : MS} (h : RelN k nJ nP nW d C S) : ∃ (M1 : Mo) (f1 : Nat → Int32), f2_copy (C.1 1) (C.1 0) = some M1 ∧ f7_layTrial S = some (mA S 11 f1) ∧ MomR k nJ nW M1 f1 (19 * 1) ∧ SetB nW M1 S ∧ SetR nW M1 S ∧ CopyOf M1 (C.1 0) ∧ (∀ i, i < 19 → f1 i = S.2.1 11 i) := by
  obtain ⟨hN, ⟨hM, hB⟩, h2, -⟩ := h
  have hb := hN.1
  obtain ⟨M1, m1, m2⟩ := copy_eq (C.1 1) (C.1 0)
  obtain ⟨f1, l1, l2, l3⟩ := lay_eq S
  exact ⟨M1, f1, m1, l1, (hM.cp hb.2.2 m2).sh hb.2.2 (fun k hk => by rw [Nat.zero_add]; exact l3 k hk), hB.cp hb.2.2 m2, (hB.cp hb.2.2 m2).r hb.2.2 h2.1 h2.2, m2, l2⟩
theorem stepon1 {N M : Mo} {S : MS} {nJ nP nW : Nat} {d : Nat → Nat → Nat} (hN : NetR N S nJ nP nW d) {K : Nat} {f : Nat → Int32} (hK : K < 2 ^ 31) (hM : MomR K nJ nW M f (19 * 1)) (hT : SetR nW M S) :
    ∃ (M' : Mo) (f' : Nat → Int32), f2_advanceBy M N (f3_tide N (M.1 8)) = some M' ∧ f7_stepOn (mA S 11 f) 1 = some (M'.1 5 &&& (M.1 5 ^^^ (-1)), mA S 11 f') ∧ StepI (K + 1) nJ nW 1 M f M' f' ∧ SetR nW M' S :=
  stepon_eq hN (pl := 1) (by omega) hK hM hT
theorem times_l {N : Mo} {S : MS} {nJ nP nW : Nat} {d : Nat → Nat → Nat} (hN : NetR N S nJ nP nW d) {x : Nat} (hx : x ≤ 40) : ∀ (n i K : Nat) (M : Mo) (f : Nat → Int32), i ≤ x → x < i + n → K + (x - i) < 2 ^ 31 → MomR K nJ nW M f (19 * 1) → SetR nW M S →
    ∃ (M' : Mo) (f' : Nat → Int32), f2_advanceTimes_l2 (nI x) N n (nI i) M = some M' ∧ f7_goTrial_l2 (nI x) n (nI i) (mA S 11 f) = some (mA S 11 f') ∧ StepI (K + (x - i)) nJ nW 1 M f M' f' ∧ SetR nW M' S := by
  intro n
  induction n with
  | zero => intro i K M f h1 h2; omega
  | succ n ih =>
    intro i K M f h1 h2 hK hM hT
    rw [f2_advanceTimes_l2, f7_goTrial_l2]
    by_cases hi : i < x
    · obtain ⟨M1, f1, a1, a2, a3, a4⟩ := stepon1 hN (by omega) hM hT
      rw [if_neg (nI_ge hi (by omega)), if_neg (nI_ge hi (by omega)), a1, ob, a2, ob, nI_1]
      obtain ⟨M', f', r1, r2, r3, r4⟩ := ih (i + 1) (K + 1) M1 f1 (by omega) (by omega) (by omega) a3.1 a4
      have e : K + 1 + (x - (i + 1)) = K + (x - i) := by omega
      rw [e] at r3
      exact ⟨M', f', r1, r2, a3.tr r3, r4⟩
    · have e : i = x := by omega
      subst e
      rw [if_pos (nI_le (Nat.le_refl _) (by omega)), if_pos (nI_le (Nat.le_refl _) (by omega)), Nat.sub_self, Nat.add_zero]
      exact ⟨M, f, rfl, rfl, ⟨hM, ⟨rfl, rfl, rfl⟩, fun _ _ => rfl, fun _ h => ⟨h, rfl⟩⟩, hT⟩
theorem Lk.mm {C : Cs} {S : MS} (M1 M' : Mo) {f f1 : Nat → Int32} (h1 : ∀ i, i < 19 → f1 i = S.2.1 11 i) (h : ∀ i, i < 19 → f i = f1 i) : Lk C (cM (cM C 1 M1) 1 M') S (mA S 11 f) :=
  ⟨(SC.m1 C M1).tr (SC.m1 _ M'), SS.m11 (fun i hi => (h i hi).trans (h1 i hi)), rfl, rfl⟩
/-- some steps from now -/
theorem try_eq {k nJ nP nW : Nat} {d : Nat → Nat → Nat} {C : Cs} {S : MS} (h : RelN k nJ nP nW d C S) (hk : k ≤ 65) {x : Nat} (hx : x ≤ 40) : ∃ (C' : Cs) (S3 S' : MS), f6_tryFromNow C (nI x) = some C' ∧ f7_layTrial S = some S3 ∧ f7_goTrial S3 (nI x) = some S' ∧ Lk C C' S S' ∧ MomR (k + x) nJ nW (C'.1 1) (S'.2.1 11) (19 * 1) ∧ SetB nW (C'.1 1) S' := by
  obtain ⟨M1, f1, m1, l1, hM1, hB1, hR1, -, hf⟩ := lay_tr h
  obtain ⟨M', f', r1, r2, r3, r4⟩ := times_l h.1 hx FU 0 k M1 f1 (by omega) (by show x < 0 + 100; omega) (by omega) hM1 hR1
  have r1' : f2_advanceTimes ((cM C 1 M1).1 1) ((cM C 1 M1).2.2.2.2.2.1.1) (nI x) = some M' := r1
  refine ⟨cM (cM C 1 M1) 1 M', _, _, ?_, l1, r2, Lk.mm M1 M' hf (fun i hi => r3.2.2.1 i (by omega)), ?_, ?_⟩
  · unfold f6_tryFromNow
    rw [m1, ob]
    simp only [bd]
    rw [r1', ob]
  · rw [mA_s]
    exact r3.1
  · exact (hB1.same r3.2.1.1 r3.2.1.2.1).fr (mA_n (by decide))
theorem r_ahead (k : Nat) (C : Cs) (S : MS) (x1 x2 : Int32) (hk : k < 64) (h : Rel k C S) : ∃ (r : Int32) (C2 : Cs) (S2 : MS), f6_ahead C x1 x2 = some (r, C2) ∧ f7_ahead S x1 x2 = some (r, S2) ∧ Rel (k + 1) C2 S2 := by
  obtain ⟨nJ, nP, nW, d, h⟩ := h
  unfold f6_ahead f7_ahead
  rw [in_lit x1 0 30 0 30 (by decide) (by decide)]
  rcases rg_eq x1 (lo := 0) (hi := 30) (by omega) (by omega) with ⟨h1, e⟩ | ⟨h1, h2, e⟩ | ⟨x, h1, h2, hx, e⟩
  · have e' : (if x1 < 0 then (0 : Int32) else if 30 < x1 then 0 else 1) = 0 := e
    rw [if_pos (show x1 < 0 from h1), e', if_pos rfl]
    exact ⟨_, _, _, rfl, rfl, h.rel⟩
  · have e' : (if x1 < 0 then (0 : Int32) else if 30 < x1 then 0 else 1) = 0 := e
    rw [if_neg (show ¬ x1 < 0 from h1), if_pos (show 30 < x1 from h2), e', if_pos rfl]
    exact ⟨_, _, _, rfl, rfl, h.rel⟩
  · have e' : (if x1 < 0 then (0 : Int32) else if 30 < x1 then 0 else 1) = 1 := e
    have g1 : ¬ x1 < 0 := by rw [hx]; exact nI_pos (by omega)
    have g2 : ¬ 30 < x1 := by rw [hx]; exact nI_nlt (b := x) (a := 30) h2 (by omega)
    rw [e', if_neg (show ¬ (1 : Int32) = 0 by decide), if_neg g1, if_neg g2]
    rcases ch_eq x2 with ⟨a1, a2⟩ | ⟨a1, a2, s, hs, rfl⟩
    · rw [a1, a2, if_neg (by decide), if_pos rfl]
      exact ⟨_, _, _, rfl, rfl, h.rel⟩
    · obtain ⟨C', S3, S', t1, t2, t3, t4, t5, t6⟩ := try_eq h (by omega) (x := x) (by omega)
      have hN' := (h.lk t4).1
      obtain ⟨o1, v, o2, o3, -⟩ := outs_eq hN' (pl := 1) (by omega) t5 (fun w hw => t6.2.1 w hw)
      have o1' : f7_outOn S' 1 0 = some ((C'.1 1).1 5) := o1
      have o3' : f7_outOn S' 1 1 = some v := o3
      rw [a1, a2, if_pos rfl, if_neg (show ¬ (1 : Int32) = 0 by decide), hx, t1, ob, t2, ob, t3, ob, o2, ob]
      simp only [bd]
      rcases (show s = 0 ∨ s = 1 by omega) with rfl | rfl
      · rw [if_pos (by decide), if_neg (show ¬ nI 0 = 1 by decide), o1', ob]
        exact ⟨_, _, _, rfl, rfl, h.lkr t4⟩
      · rw [if_neg (by decide), if_pos (show nI 1 = 1 by decide), o3', ob]
        exact ⟨_, _, _, rfl, rfl, h.lkr t4⟩
theorem until_l {N : Mo} {S : MS} {nJ nP nW : Nat} {d : Nat → Nat → Nat} (hN : NetR N S nJ nP nW d) {w : Nat} (hw : w < nW) : ∀ (n i K : Nat) (M : Mo) (f : Nat → Int32), i ≤ 40 → 41 < i + n → K + (41 - i) < 2 ^ 31 → MomR K nJ nW M f (19 * 1) → SetR nW M S →
    ∃ (v : Int32) (M' : Mo) (f' : Nat → Int32), f2_goUntilOut_l2 (nI w) N n (nI i) M = some (v, M') ∧ (∀ x2 : Int32, f7_comes_l29 (nI w) x2 n (nI i) (mA S 11 f) = some (if x2 = 0 then v else f2_outAt M' (nI w), mA S 11 f')) ∧ (∀ k, k < 19 → f' k = f k) := by
  have hb := hN.1
  have e1 : ¬ ((if (true : Bool) = true then (1 : Int32) else 0) = 0) := by decide
  intro n
  induction n with
  | zero => intro i K M f h1 h2; omega
  | succ n ih =>
    intro i K M f h1 h2 hK hM hT
    obtain ⟨⟨j, hj, m0, s0⟩, -, -, so⟩ := hM.1 w hw
    have eo : f7_isOut (mA S 11 f) 1 (nI w) = some (if bt (M.1 5) w then 1 else 0) := isout_eq (pl := 1) (by omega) (by omega) (by rw [mA_s]; exact so)
    have er : zrd ((mA S 11 f).2.1 11) 38 (19 + nI w) = some (nI j) := by
      rw [mA_s, show (19 : Int32) + nI w = nI (19 + w) from nI_add 19 w, rd_ok (by omega) (by decide)]
      exact congrArg some s0
    rw [f2_goUntilOut_l2, h6_eq (by omega)]
    have n40 : ¬ (40 : Int32) < nI i := nI_nlt (a := 40) h1 (by omega)
    by_cases hi : i < 40
    · rw [if_neg (show ¬ (40 : Int32) ≤ nI i from nI_ge (b := 40) hi (by decide))]
      cases ho : bt (M.1 5) w
      · obtain ⟨M1, f1, a1, a2, a3, a4⟩ := stepon1 hN (by omega) hM hT
        obtain ⟨v, M', f', r1, r2, r3⟩ := ih (i + 1) (K + 1) M1 f1 (by omega) (by omega) (by omega) a3.1 a4
        refine ⟨v, M', f', ?_, fun x2 => ?_, fun k hk => (r3 k hk).trans (a3.2.2.1 k (by omega))⟩
        · rw [if_neg (show ¬ (false : Bool) = true by decide), if_pos rfl, a1, ob, nI_1]
          exact r1
        · rw [f7_comes_l29, if_neg n40, eo, ob, ho, if_neg (show ¬ (false : Bool) = true by decide), if_pos rfl, a2, ob, nI_1]
          exact r2 x2
      · refine ⟨nI i, M, f, ?_, fun x2 => ?_, fun _ _ => rfl⟩
        · rw [if_neg e1]
        · have ea : f2_outAt M (nI w) = nI j := by
            unfold f2_outAt
            rw [h6_eq (by omega), ho, if_neg e1, cell_ok (by omega) (by decide), m0]
          rw [f7_comes_l29, if_neg n40, eo, ob, ho, if_neg e1, er, ob, ea]
          by_cases hx : x2 = 0
          · rw [if_pos hx, if_pos hx]
          · rw [if_neg hx, if_neg hx]
    · have e : i = 40 := by omega
      subst e
      rw [if_pos (show (40 : Int32) ≤ nI 40 by decide)]
      cases ho : bt (M.1 5) w
      · obtain ⟨M1, f1, a1, a2, a3, a4⟩ := stepon1 hN (by omega) hM hT
        refine ⟨-9, M, f1, ?_, fun x2 => ?_, fun k hk => a3.2.2.1 k (by omega)⟩
        · rw [if_neg (show ¬ (false : Bool) = true by decide), if_pos rfl]
        · have ea : f2_outAt M (nI w) = -9 := by
            unfold f2_outAt
            rw [h6_eq (by omega), ho, if_neg (show ¬ (false : Bool) = true by decide), if_pos rfl]
          rw [f7_comes_l29, if_neg n40, eo, ob, ho, if_neg (show ¬ (false : Bool) = true by decide), if_pos rfl, a2, ob, nI_1, ea]
          cases n with
          | zero => omega
          | succ n =>
            show f7_comes_l29 (nI w) x2 (n + 1) (nI 41) (mA S 11 f1) = _
            rw [f7_comes_l29, if_pos (show (40 : Int32) < nI 41 by decide)]
            by_cases hx : x2 = 0
            · rw [if_pos hx]
            · rw [if_neg hx]
      · refine ⟨40, M, f, ?_, fun x2 => ?_, fun _ _ => rfl⟩
        · rw [if_neg e1]
        · have ea : f2_outAt M (nI w) = nI j := by
            unfold f2_outAt
            rw [h6_eq (by omega), ho, if_neg e1, cell_ok (by omega) (by decide), m0]
          rw [f7_comes_l29, if_neg n40, eo, ob, ho, if_neg e1, er, ob, ea]
          by_cases hx : x2 = 0
          · rw [if_pos hx, if_pos hx]
            rfl
          · rw [if_neg hx, if_neg hx]
theorem r_comes (k : Nat) (C : Cs) (S : MS) (x1 x2 : Int32) (hk : k < 64) (h : Rel k C S) : ∃ (r : Int32) (C2 : Cs) (S2 : MS), f6_comes C x1 x2 = some (r, C2) ∧ f7_comes S x1 x2 = some (r, S2) ∧ Rel (k + 1) C2 S2 := by
  obtain ⟨nJ, nP, nW, d, h⟩ := h
  have hN := h.1
  unfold f6_comes f7_comes
  rcases isW hN x1 with ⟨a1, a2⟩ | ⟨a1, a2, w, hw, rfl⟩
  · rw [a1, a2, if_neg (by decide), if_pos rfl]
    exact ⟨_, _, _, rfl, rfl, h.rel⟩
  · rw [a1, a2, if_pos rfl, if_neg (show ¬ (1 : Int32) = 0 by decide)]
    rcases ch_eq x2 with ⟨b1, b2⟩ | ⟨b1, b2, s, hs, hx2⟩
    · rw [b1, b2, if_neg (by decide), if_pos rfl]
      exact ⟨_, _, _, rfl, rfl, h.rel⟩
    · obtain ⟨M1, f1, m1, l1, hM1, hB1, hR1, -, hf⟩ := lay_tr h
      obtain ⟨v, M', f', r1, r2, r3⟩ := until_l hN hw FU 0 k M1 f1 (by omega) (by show 41 < 0 + 100; omega) (by omega) hM1 hR1
      have r1' : f2_goUntilOut ((cM C 1 M1).1 1) ((cM C 1 M1).2.2.2.2.2.1.1) (nI w) = some (v, M') := r1
      have r2' : f7_comes_l29 (nI w) x2 FU 0 (mA S 11 f1) = some (if x2 = 0 then v else f2_outAt M' (nI w), mA S 11 f') := r2 x2
      have hl : Rel (k + 1) (cM (cM C 1 M1) 1 M') (mA S 11 f') := h.lkr (Lk.mm M1 M' hf r3)
      rw [b1, b2, if_pos rfl, if_neg (show ¬ (1 : Int32) = 0 by decide), m1, ob, l1, ob, r2']
      simp only [bd]
      rw [r1', ob]
      by_cases hx : x2 = 0
      · (rw [if_pos hx]; try rw [if_pos hx])
        exact ⟨_, _, _, rfl, rfl, hl⟩
      · (rw [if_neg hx]; try rw [if_neg hx])
        exact ⟨_, _, _, rfl, rfl, hl⟩
theorem way_in {N : Mo} {S : MS} {nJ nP nW : Nat} {d : Nat → Nat → Nat} (hN : NetR N S nJ nP nW d) {op y : Int32} (ho : S.2.1 11 16 = op) : ∀ (n i : Nat) (acc : Int32), i ≤ nJ → nJ < i + n → ∃ v, f3_besideAny_l5 y op N n acc (nI i) = some v ∧ ∀ (kk : Int32 → Int32 → Option Int32) (y5 b : Int32), f7_way_l49 y y5 S kk n (b ||| acc) (nI i) = kk (b ||| v) (y5 + 1) := by
  have hb := hN.1
  intro n
  induction n with
  | zero => intro i acc h1 h2; omega
  | succ n ih =>
    intro i acc h1 h2
    rw [f3_besideAny_l5, hN.2.1.1]
    by_cases hi : i < nJ
    · obtain ⟨v, v1, v2, -⟩ := joined_eq hN (pl := 0) (j := i) (op := op) (by omega) hi ho
      have v2' : f7_joinedOn S 0 (nI i) = some v := v2
      rw [if_neg (nI_ge hi (by omega)), h6_eq (by omega), v1, ob, nI_1]
      simp only [bd]
      cases hy : bt y i
      · rw [if_neg (show ¬ (false : Bool) = true by decide), if_pos rfl]
        obtain ⟨u, u1, u2⟩ := ih (i + 1) acc (by omega) (by omega)
        refine ⟨u, u1, fun kk y5 b => ?_⟩
        rw [f7_way_l49, hN.2.2.1.1, if_neg (nI_ge hi (by omega)), h7_eq (by omega), hy, if_neg (show ¬ (false : Bool) = true by decide), if_pos rfl, ob, nI_1]
        simp only [bd]
        rw [or0]
        exact u2 kk y5 b
      · have e1 : ¬ ((if (true : Bool) = true then (1 : Int32) else 0) = 0) := by decide
        rw [if_neg e1]
        obtain ⟨u, u1, u2⟩ := ih (i + 1) (acc ||| v) (by omega) (by omega)
        refine ⟨u, u1, fun kk y5 b => ?_⟩
        rw [f7_way_l49, hN.2.2.1.1, if_neg (nI_ge hi (by omega)), h7_eq (by omega), hy, if_neg e1, v2', ob, ob, nI_1]
        simp only [bd]
        have ea : b ||| acc ||| v = b ||| (acc ||| v) := by
          apply b_ext
          intro k hk
          rw [b_or, b_or, b_or, b_or, Bool.or_assoc]
        rw [ea]
        exact u2 kk y5 b
    · have e : i = nJ := by omega
      subst e
      rw [if_pos (nI_le (Nat.le_refl _) (by omega))]
      refine ⟨acc, rfl, fun kk y5 b => ?_⟩
      rw [f7_way_l49, hN.2.2.1.1, if_pos (nI_le (Nat.le_refl _) (by omega))]
theorem way_l {N : Mo} {S : MS} {nJ nP nW : Nat} {d : Nat → Nat → Nat} (hN : NetR N S nJ nP nW d) {op : Int32} (ho : S.2.1 11 16 = op) {o : Nat} (hoo : o < nJ) : ∀ (n i : Nat) (y : Int32), i ≤ 6 → 6 < i + n → ∃ v, f3_stepsBetween_l9 (nI o) op N n y (nI i) = some v ∧ f7_way_l25 (nI o) S n y (nI i) = some v := by
  have hb := hN.1
  intro n
  induction n with
  | zero => intro i y h1 h2; omega
  | succ n ih =>
    intro i y h1 h2
    rw [f3_stepsBetween_l9, f7_way_l25, h6_eq (by omega), h7_eq (by omega)]
    by_cases hi : i < 6
    · rw [if_neg (show ¬ (6 : Int32) ≤ nI i from nI_ge (b := 6) hi (by decide)), if_neg (show ¬ (6 : Int32) ≤ nI i from nI_ge (b := 6) hi (by decide))]
      cases hy : bt y o
      · obtain ⟨v, v1, v2⟩ := way_in hN (y := y) ho FU 0 0 (by omega) (by show nJ < 0 + 100; omega)
        have v1' : f3_besideAny N y op = some v := v1
        have v2' := v2 (fun y4 y5 => f7_way_l25 (nI o) S n y4 y5) (nI i) y
        rw [or0] at v2'
        have v2'' : f7_way_l49 y (nI i) S (fun y4 y5 => f7_way_l25 (nI o) S n y4 y5) FU y 0 = f7_way_l25 (nI o) S n (y ||| v) (nI i + 1) := v2'
        rw [if_neg (show ¬ (false : Bool) = true by decide), if_pos rfl, if_pos rfl, v1', ob, v2'', nI_1]
        simp only [bd]
        exact ih (i + 1) (y ||| v) (by omega) (by omega)
      · have e1 : ¬ ((if (true : Bool) = true then (1 : Int32) else 0) = 0) := by decide
        rw [if_neg e1, if_neg e1]
        exact ⟨_, rfl, rfl⟩
    · have e : i = 6 := by omega
      subst e
      rw [if_pos (show (6 : Int32) ≤ nI 6 by decide), if_pos (show (6 : Int32) ≤ nI 6 by decide)]
      exact ⟨_, rfl, rfl⟩
theorem r_way (k : Nat) (C : Cs) (S : MS) (x1 x2 : Int32) (hk : k < 64) (h : Rel k C S) : ∃ r : Int32, f6_way C x1 x2 = some r ∧ f7_way S x1 x2 = some r ∧ Rel (k + 1) C S := by
  obtain ⟨nJ, nP, nW, d, h⟩ := h
  have hN := h.1
  have hb := hN.1
  unfold f6_way f7_way
  rcases isJ hN x1 with ⟨a1, a2⟩ | ⟨a1, a2, i, hi, rfl⟩
  · rw [a1, a2, if_neg (by decide), if_pos rfl]
    exact ⟨_, rfl, rfl, h.rel⟩
  · rcases isJ hN x2 with ⟨b1, b2⟩ | ⟨b1, b2, j, hj, rfl⟩
    · rw [a1, a2, b1, b2, if_pos rfl, if_neg (by decide), if_neg (show ¬ (1 : Int32) = 0 by decide), if_pos rfl]
      exact ⟨_, rfl, rfl, h.rel⟩
    · obtain ⟨v, v1, v2⟩ := way_l hN (op := (C.1 0).1 6) h.2.1.1.2.2.1.1 hj FU 0 ((1 : Int32) <<< (nI i &&& 31)) (by omega) (by show 6 < 0 + 100; omega)
      have v1' : f3_stepsBetween C.2.2.2.2.2.1.1 (nI i) (nI j) ((C.1 0).1 6) = some v := by
        unfold f3_stepsBetween
        simp only [bd]
        rw [bit_eq (by omega)]
        exact v1
      rw [a1, a2, b1, b2, if_pos rfl, if_pos rfl, if_neg (show ¬ (1 : Int32) = 0 by decide), if_neg (show ¬ (1 : Int32) = 0 by decide), v1', ob]
      exact ⟨_, rfl, v2, h.rel⟩

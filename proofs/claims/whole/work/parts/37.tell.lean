/-! mathematics: who is out, who is right; the calls that tell -/
theorem dstep {i n k : Nat} (hi : i < n) (P : Nat → Bool) : (decide (i ≤ k) && decide (k < n) && P k) = ((decide (k = i) && P i) || (decide (i + 1 ≤ k) && decide (k < n) && P k)) := by
  by_cases hk : k = i
  · subst hk
    simp [hi]
  · by_cases hk2 : i ≤ k
    · have : i + 1 ≤ k := by omega
      simp [hk, hk2, this]
    · have : ¬ i + 1 ≤ k := by omega
      simp [hk, hk2, this]
theorem dend (n k : Nat) (b : Bool) : (decide (n ≤ k) && decide (k < n) && b) = false := by
  by_cases h : n ≤ k
  · have : ¬ k < n := by omega
    simp [this]
  · simp [h]
theorem right1 {M N : Mo} {i : Nat} (hi : i < 4) : f2_isRight M N (nI i) = if (bt (M.1 5) i && bt (M.1 4) i && decide (M.2 0 i = N.2 12 i)) then 1 else 0 := by
  unfold f2_isRight
  rw [h6_eq (by omega), b_and, cell_ok (by omega) (by decide), cell_ok (by omega) (by decide)]
  cases (bt (M.1 5) i && bt (M.1 4) i)
  · rfl
  · rw [if_neg (by decide)]
    by_cases h : M.2 0 i = N.2 12 i
    · rw [if_pos h, decide_eq_true h]; rfl
    · rw [if_neg h, decide_eq_false h]; rfl
theorem right_l {M N : Mo} : ∀ (n i : Nat) (acc : Int32), i ≤ 4 → 4 < i + n → ∃ v, f2_right_l4 M N n acc (nI i) = some v ∧ ∀ k, k < 32 → bt v k = (bt acc k || (decide (i ≤ k) && decide (k < 4) && (bt (M.1 5) k && bt (M.1 4) k && decide (M.2 0 k = N.2 12 k)))) := by
  intro n
  induction n with
  | zero => intro i acc h1 h2; omega
  | succ n ih =>
    intro i acc h1 h2
    rw [f2_right_l4]
    by_cases hi : i < 4
    · rw [if_neg (show ¬ (4 : Int32) ≤ nI i from nI_ge (b := 4) hi (by decide)), right1 hi, nI_1]
      cases hc : (bt (M.1 5) i && bt (M.1 4) i && decide (M.2 0 i = N.2 12 i))
      · rw [if_neg (show ¬ (false : Bool) = true by decide), if_pos rfl]
        obtain ⟨v, h3, h4⟩ := ih (i + 1) acc (by omega) (by omega)
        refine ⟨v, h3, fun k hk => ?_⟩
        rw [h4 k hk, dstep hi (fun k => bt (M.1 5) k && bt (M.1 4) k && decide (M.2 0 k = N.2 12 k)), hc, Bool.and_false, Bool.false_or]
      · rw [if_neg (show ¬ ((if (true : Bool) = true then (1 : Int32) else 0) = 0) by decide)]
        simp only [bd]
        obtain ⟨v, h3, h4⟩ := ih (i + 1) (acc ||| f6_bit (nI i)) (by omega) (by omega)
        refine ⟨v, h3, fun k hk => ?_⟩
        rw [h4 k hk, dstep hi (fun k => bt (M.1 5) k && bt (M.1 4) k && decide (M.2 0 k = N.2 12 k)), hc, Bool.and_true, b_or, b_bit (by omega) hk, Bool.or_assoc]
    · have e : i = 4 := by omega
      subst e
      rw [if_pos (by decide)]
      exact ⟨acc, rfl, fun k hk => by rw [dend, Bool.or_false]⟩
theorem right_eq (M N : Mo) : ∃ v, f2_right M N = some v ∧ ∀ k, k < 32 → bt v k = (decide (k < 4) && (bt (M.1 5) k && bt (M.1 4) k && decide (M.2 0 k = N.2 12 k))) := by
  obtain ⟨v, h1, h2⟩ := right_l (M := M) (N := N) FU 0 0 (by omega) (by show 4 < 0 + 100; omega)
  refine ⟨v, h1, fun k hk => ?_⟩
  rw [h2 k hk, b_0, Bool.false_or, decide_eq_true (Nat.zero_le k), Bool.true_and]
theorem outon_l {N M : Mo} {S : MS} {nJ nP nW : Nat} {d : Nat → Nat → Nat} (hN : NetR N S nJ nP nW d) {pl K : Nat} (hpl : pl < 2) (hM : MomR K nJ nW M (S.2.1 11) (19 * pl)) (x2 : Int32) : ∀ (n i : Nat) (acc : Int32), i ≤ nW → nW < i + n → ∃ v, f7_outOn_l5 (nI pl) x2 S n acc (nI i) = some v ∧ ∀ k, k < 32 → bt v k = (bt acc k || (decide (i ≤ k) && decide (k < nW) && (bt (M.1 5) k && (decide (x2 = 0) || decide (M.2 0 k = N.2 12 k))))) := by
  have hb := hN.1
  intro n
  induction n with
  | zero => intro i acc h1 h2; omega
  | succ n ih =>
    intro i acc h1 h2
    rw [f7_outOn_l5, hN.2.2.1.2.2]
    by_cases hi : i < nW
    · obtain ⟨⟨j, hj, m0, s0⟩, -, -, so⟩ := hM.1 i hi
      obtain ⟨-, -, -, -, -, -, o1, o2, -⟩ := hN.2.2.2.2.2.2.2.2 i hi
      rw [if_neg (nI_ge hi (by omega)), isout_eq hpl (by omega) so, ob, show 19 * nI pl + nI i = nI (19 * pl + i) from i19 pl i, rd_ok (by omega) (by decide), ob, s0, rd_ok (by omega) (by decide), ob, o2, nI_1]
      simp only [bd]
      have hin : (if (if bt (M.1 5) i = true then (1 : Int32) else 0) = 0 then some (0 : Int32) else if x2 = 0 then some 1 else if nI j = nI (d 12 i) then some 1 else some 0) = some (if (bt (M.1 5) i && (decide (x2 = 0) || decide (M.2 0 i = N.2 12 i))) then 1 else 0) := by
        rw [m0, o1]
        cases bt (M.1 5) i
        · rfl
        · rw [if_neg (by decide)]
          by_cases hx : x2 = 0
          · rw [if_pos hx, decide_eq_true hx]; rfl
          · rw [if_neg hx, decide_eq_false hx]
            by_cases h : nI j = nI (d 12 i)
            · rw [if_pos h, decide_eq_true h]; rfl
            · rw [if_neg h, decide_eq_false h]; rfl
      rw [hin, ob]
      obtain ⟨v, h3, h4⟩ := ih (i + 1) (acc ||| (if (if (bt (M.1 5) i && (decide (x2 = 0) || decide (M.2 0 i = N.2 12 i))) = true then (1 : Int32) else 0) = 0 then 0 else (1 : Int32) <<< (nI i &&& 31))) (by omega) (by omega)
      refine ⟨v, h3, fun k hk => ?_⟩
      rw [h4 k hk, dstep hi (fun k => bt (M.1 5) k && (decide (x2 = 0) || decide (M.2 0 k = N.2 12 k))), b_or]
      cases (bt (M.1 5) i && (decide (x2 = 0) || decide (M.2 0 i = N.2 12 i)))
      · rw [if_neg (show ¬ (false : Bool) = true by decide), if_pos rfl, b_0, Bool.or_false, Bool.and_false, Bool.false_or]
      · rw [if_neg (show ¬ ((if (true : Bool) = true then (1 : Int32) else 0) = 0) by decide), b_one (by omega) hk, Bool.and_true, Bool.or_assoc]
    · have e : i = nW := by omega
      subst e
      rw [if_pos (nI_le (Nat.le_refl _) (by omega))]
      exact ⟨acc, rfl, fun k hk => by rw [dend, Bool.or_false]⟩
theorem outon_eq {N M : Mo} {S : MS} {nJ nP nW : Nat} {d : Nat → Nat → Nat} (hN : NetR N S nJ nP nW d) {pl K : Nat} (hpl : pl < 2) (hM : MomR K nJ nW M (S.2.1 11) (19 * pl)) (x2 : Int32) : ∃ v, f7_outOn S (nI pl) x2 = some v ∧ ∀ k, k < 32 → bt v k = (decide (k < nW) && (bt (M.1 5) k && (decide (x2 = 0) || decide (M.2 0 k = N.2 12 k)))) := by
  obtain ⟨v, h1, h2⟩ := outon_l hN hpl hM x2 FU 0 0 (by omega) (by have := hN.1; show nW < 0 + 100; omega)
  refine ⟨v, h1, fun k hk => ?_⟩
  rw [h2 k hk, b_0, Bool.false_or, decide_eq_true (Nat.zero_le k), Bool.true_and]
theorem outs_eq {N M : Mo} {S : MS} {nJ nP nW : Nat} {d : Nat → Nat → Nat} (hN : NetR N S nJ nP nW d) {pl K : Nat} (hpl : pl < 2) (hM : MomR K nJ nW M (S.2.1 11) (19 * pl)) (ht : ∀ w, w < nW → bt (M.1 4) w = true) :
    f7_outOn S (nI pl) 0 = some (M.1 5) ∧ ∃ v, f2_right M N = some v ∧ f7_outOn S (nI pl) 1 = some v ∧ ∀ k, k < 32 → bt v k = (decide (k < nW) && (bt (M.1 5) k && decide (M.2 0 k = N.2 12 k))) := by
  have hb := hN.1
  obtain ⟨v0, a1, a2⟩ := outon_eq hN hpl hM 0
  obtain ⟨v1, b1, b2⟩ := outon_eq hN hpl hM 1
  obtain ⟨v2, c1, c2⟩ := right_eq M N
  have e0 : v0 = M.1 5 := by
    apply b_ext
    intro k hk
    rw [a2 k hk, decide_eq_true rfl, Bool.true_or, Bool.and_true]
    by_cases h : k < nW
    · rw [decide_eq_true h, Bool.true_and]
    · rw [decide_eq_false h, Bool.false_and, hM.2.1 k (by omega) hk]
  have e1 : v2 = v1 := by
    apply b_ext
    intro k hk
    rw [b2 k hk, c2 k hk, decide_eq_false (show ¬ (1 : Int32) = 0 by decide), Bool.false_or]
    by_cases h : k < nW
    · rw [decide_eq_true h, decide_eq_true (show k < 4 by omega), ht k h, Bool.and_true]
    · rw [decide_eq_false h, Bool.false_and, hM.2.1 k (by omega) hk, Bool.false_and, Bool.false_and, Bool.and_false]
  refine ⟨by rw [a1, e0], v1, by rw [c1, e1], b1, fun k hk => ?_⟩
  rw [b2 k hk, decide_eq_false (show ¬ (1 : Int32) = 0 by decide), Bool.false_or]
theorem z17 {f : Nat → Int32} : zrd f 38 17 = some (f 17) := rd_ok (i := 17) (by omega) (by decide)
theorem z16 {f : Nat → Int32} : zrd f 38 16 = some (f 16) := rd_ok (i := 16) (by omega) (by decide)
theorem z18 {f : Nat → Int32} : zrd f 38 18 = some (f 18) := rd_ok (i := 18) (by omega) (by decide)
theorem r_joint (k : Nat) (C : Cs) (S : MS) (x1 x2 : Int32) (hk : k < 64) (h : Rel k C S) : ∃ r : Int32, f6_joint C x1 x2 = some r ∧ f7_joint S x1 x2 = some r ∧ Rel (k + 1) C S := by
  obtain ⟨nJ, nP, nW, d, hN, ⟨hM, hB⟩, -⟩ := id h
  obtain ⟨hb, -, -, -, hlv, hli, -, -, -⟩ := id hN
  obtain ⟨c, hc, d1, d2⟩ := hM.2.2.2
  have htide : f7_tideOn S 0 = some (f3_tide C.2.2.2.2.2.1.1 ((C.1 0).1 8)) := by
    rw [d1]
    exact tide_eq (pl := 0) hN (by omega) (by omega) d2
  unfold f6_joint f7_joint
  rcases isJ hN x1 with ⟨a1, a2⟩ | ⟨a1, a2, j, hj, rfl⟩
  · rw [a1, a2, if_neg (by decide), if_pos rfl]
    exact ⟨_, rfl, rfl, h.up⟩
  · rw [a1, a2, if_pos rfl, if_neg (show ¬ (1 : Int32) = 0 by decide), rd_ok (by omega) (by decide), ob, rd_ok (by omega) (by decide), ob, z17, ob, ob, cell_ok (by omega) (by decide), (hlv j hj).1, (hlv j hj).2.1, hli j hj, h6_eq (by omega), flag_b, h6_eq (by omega), flag_b, show S.2.1 11 17 = (C.1 0).1 7 from hM.2.2.1.2, b_shr1 (by omega), htide, ob]
    by_cases c0 : x2 = 0
    · (rw [if_pos c0]; try rw [if_pos c0])
      exact ⟨_, rfl, rfl, h.up⟩
    (rw [if_neg c0]; try rw [if_neg c0])
    by_cases c1 : x2 = 1
    · (rw [if_pos c1]; try rw [if_pos c1])
      exact ⟨_, rfl, rfl, h.up⟩
    (rw [if_neg c1]; try rw [if_neg c1])
    by_cases c2 : x2 = 2
    · (rw [if_pos c2]; try rw [if_pos c2])
      exact ⟨_, rfl, rfl, h.up⟩
    (rw [if_neg c2]; try rw [if_neg c2])
    by_cases c3 : x2 = 3
    · (rw [if_pos c3]; try rw [if_pos c3])
      obtain ⟨u, u1, u2⟩ := under_l hN (f3_tide C.2.2.2.2.2.1.1 ((C.1 0).1 8)) FU 0 0 (Nat.zero_le _) (by show nJ < 0 + 100; omega)
      have u1' : f3_under C.2.2.2.2.2.1.1 (f3_tide C.2.2.2.2.2.1.1 ((C.1 0).1 8)) = some u := u1
      rw [u1', ob, h6_eq (by omega), flag_b, u2 j (by omega), b_0, Bool.false_or, decide_eq_true (Nat.zero_le j), decide_eq_true hj, Bool.true_and, Bool.true_and]
      by_cases q : f3_tide C.2.2.2.2.2.1.1 ((C.1 0).1 8) ≤ nI (d 6 j)
      · rw [if_pos q, decide_eq_false (fun e => lt_le.mp e q)]
        exact ⟨_, rfl, rfl, h.up⟩
      · rw [if_neg q, decide_eq_true (lt_le.mpr q)]
        exact ⟨_, rfl, rfl, h.up⟩
    (rw [if_neg c3]; try rw [if_neg c3])
    by_cases c4 : x2 = 4
    · (rw [if_pos c4]; try rw [if_pos c4])
      obtain ⟨v, v1, v2, -⟩ := joined_eq hN (pl := 0) (j := j) (op := (C.1 0).1 6) (by omega) hj hM.2.2.1.1
      have v2' : f7_joinedOn S 0 (nI j) = some v := v2
      rw [v1, v2', ob]
      exact ⟨_, rfl, rfl, h.up⟩
    (rw [if_neg c4]; try rw [if_neg c4])
    exact ⟨_, rfl, rfl, h.up⟩
theorem r_pipe (k : Nat) (C : Cs) (S : MS) (x1 x2 : Int32) (hk : k < 64) (h : Rel k C S) : ∃ r : Int32, f6_pipe C x1 x2 = r ∧ f7_pipe S x1 x2 = some r ∧ Rel (k + 1) C S := by
  obtain ⟨nJ, nP, nW, d, hN, ⟨hM, hB⟩, -⟩ := id h
  obtain ⟨hb, -, -, -, -, -, -, hpi, -⟩ := id hN
  unfold f6_pipe f7_pipe
  rcases isP hN x1 with ⟨a1, a2⟩ | ⟨a1, a2, p, hp, rfl⟩
  · rw [a1, a2, if_neg (by decide), if_pos rfl]
    exact ⟨_, rfl, rfl, h.up⟩
  · obtain ⟨p1, p2, p3, p4, -⟩ := hpi p hp
    rw [a1, a2, if_pos rfl, if_neg (show ¬ (1 : Int32) = 0 by decide), cell_ok (by omega) (by decide), cell_ok (by omega) (by decide), p1, p2, z16, ob, h6_eq (by omega), flag_b, show S.2.1 11 16 = (C.1 0).1 6 from hM.2.2.1.1, b_shr1 (by omega)]
    rcases ch_eq x2 with ⟨e1, e2⟩ | ⟨e1, e2, q, hq, rfl⟩
    · have n0 : ¬ x2 = 0 := by rintro rfl; exact absurd e1 (by decide)
      have n1 : ¬ x2 = 1 := by rintro rfl; exact absurd e1 (by decide)
      rw [e2, if_neg n0, if_neg n1, if_pos rfl]
      by_cases c2 : x2 = 2
      · (rw [if_pos c2]; try rw [if_pos c2])
        exact ⟨_, rfl, rfl, h.up⟩
      · (rw [if_neg c2]; try rw [if_neg c2])
        exact ⟨_, rfl, rfl, h.up⟩
    · rw [e2, if_neg (show ¬ (1 : Int32) = 0 by decide), i2, nI_add, rd_ok (by omega) (by decide), ob]
      rcases (show q = 0 ∨ q = 1 by omega) with rfl | rfl
      · rw [if_pos (by decide), Nat.add_zero, p3]
        exact ⟨_, rfl, rfl, h.up⟩
      · rw [if_neg (by decide), if_pos (by decide), p4]
        exact ⟨_, rfl, rfl, h.up⟩
theorem r_walker (k : Nat) (C : Cs) (S : MS) (x1 x2 : Int32) (hk : k < 64) (h : Rel k C S) : ∃ r : Int32, f6_walker C x1 x2 = some r ∧ f7_walker S x1 x2 = some r ∧ Rel (k + 1) C S := by
  obtain ⟨nJ, nP, nW, d, hN, ⟨hM, hB⟩, ⟨h23, h24⟩, -⟩ := id h
  obtain ⟨hb, -, -, -, -, -, -, -, hwk⟩ := id hN
  obtain ⟨c, hc, d1, d2⟩ := hM.2.2.2
  have htide : f7_tideOn S 0 = some (f3_tide C.2.2.2.2.2.1.1 ((C.1 0).1 8)) := by
    rw [d1]
    exact tide_eq (pl := 0) hN (by omega) (by omega) d2
  unfold f6_walker f7_walker
  rcases isW hN x1 with ⟨a1, a2⟩ | ⟨a1, a2, w, hw, rfl⟩
  · rw [a1, a2, if_neg (by decide), if_pos rfl]
    exact ⟨_, rfl, rfl, h.up⟩
  · obtain ⟨w1, w2, w3, w4, w5, w6, w7, w8, w9⟩ := hwk w hw
    obtain ⟨⟨j, hj, m0, s0⟩, ⟨m1, f1⟩, ⟨g, hg, m2, s2⟩, so⟩ := hM.1 w hw
    rw [Nat.zero_add] at s0 m1 s2 so
    have hT := hB.r hb.2.2 h23 h24
    obtain ⟨t, ht, m3, s3⟩ := hT.1 w hw
    rw [a1, a2, if_pos rfl, if_neg (show ¬ (1 : Int32) = 0 by decide)]
    rw [show (4 : Int32) + nI w = nI (4 + w) from nI_add 4 w, show (8 : Int32) + nI w = nI (8 + w) from nI_add 8 w, show (12 : Int32) + nI w = nI (12 + w) from nI_add 12 w]
    rw [cell_ok (f := (C.1 0).2 0) (by omega) (by decide), cell_ok (f := (C.1 0).2 1) (by omega) (by decide), cell_ok (f := (C.1 0).2 2) (by omega) (by decide), cell_ok (f := C.2.2.2.2.2.1.1.2 11) (by omega) (by decide), cell_ok (f := C.2.2.2.2.2.1.1.2 12) (by omega) (by decide), cell_ok (f := C.2.2.2.2.2.1.1.2 10) (by omega) (by decide)]
    rw [rd_ok (f := S.2.1 11) (i := w) (by omega) (by decide), rd_ok (f := S.2.1 11) (i := 4 + w) (by omega) (by decide), rd_ok (f := S.2.1 11) (i := 8 + w) (by omega) (by decide), rd_ok (f := S.2.1 11) (i := 12 + w) (by omega) (by decide), rd_ok (f := S.2.1 8) (by omega) (by decide), rd_ok (f := S.2.1 9) (by omega) (by decide), rd_ok (f := S.2.1 10) (by omega) (by decide), ob, ob, ob, ob, ob, ob, ob]
    rw [w1, w2, w4, w5, w7, w8, m0, s0, m1, m2, s2, so, h6_eq (by omega), flag_b]
    by_cases c0 : x2 = 0
    · (rw [if_pos c0]; try rw [if_pos c0])
      exact ⟨_, rfl, rfl, h.up⟩
    (rw [if_neg c0]; try rw [if_neg c0])
    by_cases c1 : x2 = 1
    · (rw [if_pos c1]; try rw [if_pos c1])
      exact ⟨_, rfl, rfl, h.up⟩
    (rw [if_neg c1]; try rw [if_neg c1])
    by_cases c2 : x2 = 2
    · (rw [if_pos c2]; try rw [if_pos c2])
      exact ⟨_, rfl, rfl, h.up⟩
    (rw [if_neg c2]; try rw [if_neg c2])
    by_cases c3 : x2 = 3
    · (rw [if_pos c3]; try rw [if_pos c3])
      exact ⟨_, rfl, rfl, h.up⟩
    (rw [if_neg c3]; try rw [if_neg c3])
    by_cases c4 : x2 = 4
    · (rw [if_pos c4]; try rw [if_pos c4])
      exact ⟨_, rfl, rfl, h.up⟩
    (rw [if_neg c4]; try rw [if_neg c4])
    by_cases c5 : x2 = 5
    · (rw [if_pos c5]; try rw [if_pos c5])
      exact ⟨_, rfl, rfl, h.up⟩
    (rw [if_neg c5]; try rw [if_neg c5])
    by_cases c6 : x2 = 6
    · (rw [if_pos c6]; try rw [if_pos c6])
      have eo : f7_isOut S 0 (nI w) = some (if bt ((C.1 0).1 5) w then 1 else 0) := isout_eq (pl := 0) (by omega) (by omega) (by rw [Nat.mul_zero, Nat.zero_add]; exact so)
      rw [eo, ob, htide]
      cases hout : bt ((C.1 0).1 5) w
      · obtain ⟨v, n1, n2, n3⟩ := next_eq (M := C.1 0) hN (pl := 0) (f3_tide C.2.2.2.2.2.1.1 ((C.1 0).1 8)) (by omega) hw hj ht hout m0 (by rw [Nat.mul_zero, Nat.zero_add]; exact s0) (by rw [Nat.mul_zero, Nat.zero_add]; exact m1) f1 m3 s3 hM.2.2.1.1
        have n2' : f7_nextOn S 0 (nI w) (f3_tide C.2.2.2.2.2.1.1 ((C.1 0).1 8)) = some v := n2
        rw [n1, if_neg (show ¬ (false : Bool) = true by decide), if_pos rfl, ob, ob, n2', ob]
        exact ⟨_, rfl, rfl, h.up⟩
      · rw [if_neg (show ¬ ((if (true : Bool) = true then (1 : Int32) else 0) = 0) by decide)]
        have e : f2_nextOf (C.1 0) C.2.2.2.2.2.1.1 (nI w) (f3_tide C.2.2.2.2.2.1.1 ((C.1 0).1 8)) = some (-9) := by
          unfold f2_nextOf
          rw [h6_eq (by omega), hout, if_neg (by decide)]
        rw [e, ob]
        exact ⟨_, rfl, rfl, h.up⟩
    (rw [if_neg c6]; try rw [if_neg c6])
    by_cases c7 : x2 = 7
    · (rw [if_pos c7]; try rw [if_pos c7])
      exact ⟨_, rfl, rfl, h.up⟩
    (rw [if_neg c7]; try rw [if_neg c7])
    exact ⟨_, rfl, rfl, h.up⟩
theorem r_count (k : Nat) (C : Cs) (S : MS) (x1 : Int32) (hk : k < 64) (h : Rel k C S) : ∃ r : Int32, f6_count C x1 = some r ∧ f7_count S x1 = some r ∧ Rel (k + 1) C S := by
  obtain ⟨nJ, nP, nW, d, hN, ⟨hM, hB⟩, ⟨h23, h24⟩, hR, hL, hT, hH, hz⟩ := id h
  obtain ⟨hb, ⟨n1, n2, n3⟩, ⟨s1, s2, s3⟩, -⟩ := id hN
  obtain ⟨c, hc, d1, d2⟩ := hM.2.2.2
  have htide : f7_tideOn S 0 = some (f3_tide C.2.2.2.2.2.1.1 ((C.1 0).1 8)) := by
    rw [d1]
    exact tide_eq (pl := 0) hN (by omega) (by omega) d2
  obtain ⟨len, -, t1, t2, -⟩ := hT
  obtain ⟨hn, -, u1, u2, -⟩ := hH
  obtain ⟨a, x, -, -, e1, e2, -⟩ := hR
  have e1' : C.2.2.1.2 = nI a := e1
  obtain ⟨o1, v, o2, o3, -⟩ := outs_eq hN (pl := 0) (by omega) hM (fun w hw => hB.2.1 w hw)
  have o1' : f7_outOn S 0 0 = some ((C.1 0).1 5) := o1
  have o3' : f7_outOn S 0 1 = some v := o3
  unfold f6_count f7_count
  rw [t1, t2, n1, n2, n3, s1, s2, s3, z18, ob, show S.2.1 11 18 = nI c from d2, htide, ob, o1', ob, o2, ob, o3', ob, d1, e1', e2, u1, u2]
  by_cases c0 : x1 = 0
  · (rw [if_pos c0]; try rw [if_pos c0])
    exact ⟨_, rfl, rfl, h.up⟩
  (rw [if_neg c0]; try rw [if_neg c0])
  by_cases c1 : x1 = 1
  · (rw [if_pos c1]; try rw [if_pos c1])
    exact ⟨_, rfl, rfl, h.up⟩
  (rw [if_neg c1]; try rw [if_neg c1])
  by_cases c2 : x1 = 2
  · (rw [if_pos c2]; try rw [if_pos c2])
    exact ⟨_, rfl, rfl, h.up⟩
  (rw [if_neg c2]; try rw [if_neg c2])
  by_cases c3 : x1 = 3
  · (rw [if_pos c3]; try rw [if_pos c3])
    exact ⟨_, rfl, rfl, h.up⟩
  (rw [if_neg c3]; try rw [if_neg c3])
  by_cases c4 : x1 = 4
  · (rw [if_pos c4]; try rw [if_pos c4])
    exact ⟨_, rfl, rfl, h.up⟩
  (rw [if_neg c4]; try rw [if_neg c4])
  by_cases c5 : x1 = 5
  · (rw [if_pos c5]; try rw [if_pos c5])
    exact ⟨_, rfl, rfl, h.up⟩
  (rw [if_neg c5]; try rw [if_neg c5])
  by_cases c6 : x1 = 6
  · (rw [if_pos c6]; try rw [if_pos c6])
    exact ⟨_, rfl, rfl, h.up⟩
  (rw [if_neg c6]; try rw [if_neg c6])
  by_cases c7 : x1 = 7
  · (rw [if_pos c7]; try rw [if_pos c7])
    exact ⟨_, rfl, rfl, h.up⟩
  (rw [if_neg c7]; try rw [if_neg c7])
  by_cases c8 : x1 = 8
  · (rw [if_pos c8]; try rw [if_pos c8])
    exact ⟨_, rfl, rfl, h.up⟩
  (rw [if_neg c8]; try rw [if_neg c8])
  by_cases c9 : x1 = 9
  · (rw [if_pos c9]; try rw [if_pos c9])
    exact ⟨_, rfl, rfl, h.up⟩
  (rw [if_neg c9]; try rw [if_neg c9])
  exact ⟨_, rfl, rfl, h.up⟩

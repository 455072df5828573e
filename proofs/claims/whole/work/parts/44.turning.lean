/-! mathematics: how one turns, by what was heard -/
theorem isjt {S : MS} {nJ q : Nat} (hJ : nJ ≤ 6) (hq : q < 6) (s0 : S.1 0 = nI nJ) : f7_isJoint S (nI q) = if q < nJ then 1 else 0 := by
  unfold f7_isJoint
  rw [s0, in_lit (nI q) 0 (nI nJ - 1) 0 _ (by decide) rfl, if_neg (nI_pos (by omega))]
  have e : (nI nJ - 1).toInt = (nJ : Int) - 1 := pk_sub_toInt (a := nJ) (b := 1) (by omega) (by omega)
  by_cases h : q < nJ
  · have h2 : ¬ nI nJ - 1 < nI q := by
      rw [Int32.lt_iff_toInt_lt, e, nI_toInt (by omega)]
      omega
    rw [if_neg h2, if_pos h]
  · have h2 : nI nJ - 1 < nI q := by
      rw [Int32.lt_iff_toInt_lt, e, nI_toInt (by omega)]
      omega
    rw [if_pos h2, if_neg h]
theorem allow_l {U : He} {S : MS} {nJ hn w nn j : Nat} (hJ : nJ ≤ 6) (hhn : hn ≤ 6) (u1 : U.2 = nI hn) (u2 : S.1 30 = nI hn) (hu : ∀ i, i < hn → U.1 0 i = S.2.1 31 i ∧ U.1 1 i = S.2.1 32 i ∧ U.1 2 i = S.2.1 33 i ∧ ∃ q, q < 6 ∧ S.2.1 32 i = nI q) (s0 : S.1 0 = nI nJ) (hw : w < 4) (hj : j < nJ) (hat : S.2.1 11 (19 + w) = nI j) : ∀ (m i : Nat), i ≤ hn → hn < i + m →
    ∃ b : Bool, f0_allows_l3 (nI w) (nI nn) (nI j) (nI nJ) U m (nI i) = some (if b then 1 else 0) ∧ ∀ (kk : Int32 → Int32 → MS → Option (Int32 × MS)) (t : Bool), f7_mayTurn_l35 (nI w) (nI nn) kk m (if t then 1 else 0) (nI i) S = kk (if (t && b) then 1 else 0) (nI nn + 1) S := by
  have e1 : ¬ ((if (true : Bool) = true then (1 : Int32) else 0) = 0) := by decide
  have e0 : (if (false : Bool) = true then (1 : Int32) else 0) = 0 := by decide
  intro m
  induction m with
  | zero => intro i h1 h2; omega
  | succ m ih =>
    intro i h1 h2
    by_cases hi : i < hn
    · obtain ⟨b, b1, b2⟩ := ih (i + 1) (by omega) (by omega)
      obtain ⟨x0, x1, x2, q, hq, x3⟩ := hu i hi
      have hA : f0_allows_l3 (nI w) (nI nn) (nI j) (nI nJ) U (m + 1) (nI i) = if (if S.2.1 31 i = nI w then if S.2.1 33 i = nI nn then (1 : Int32) else 0 else 0) = 0 then some (if b then 1 else 0) else if nI nJ ≤ nI q then some (if b then 1 else 0) else if nI q = nI j then some (if b then 1 else 0) else some 0 := by
        rw [f0_allows_l3, u1, if_neg (nI_ge hi (by omega)), bdk, bdk, cell_ok (by omega) (by decide), cell_ok (by omega) (by decide), cell_ok (by omega) (by decide), x0, x1, x2, x3, nI_1, b1]
      have hB : ∀ (kk : Int32 → Int32 → MS → Option (Int32 × MS)) (t : Bool), f7_mayTurn_l35 (nI w) (nI nn) kk (m + 1) (if t then 1 else 0) (nI i) S = ((if S.2.1 31 i = nI w then if S.2.1 33 i = nI nn then if (if q < nJ then (1 : Int32) else 0) = 0 then some 0 else some 1 else some 0 else some 0 : Option Int32).bind fun v17 => (if (if t = true then (1 : Int32) else 0) = 0 then some 0 else if v17 = 0 then some 1 else if nI j = nI q then some 1 else some 0 : Option Int32).bind fun v24 => f7_mayTurn_l35 (nI w) (nI nn) kk m v24 (nI (i + 1)) S) := by
        intro kk t
        rw [f7_mayTurn_l35, u2, if_neg (nI_ge hi (by omega)), rd_ok (by omega) (by decide), ob, rd_ok (f := S.2.1 33) (by omega) (by decide), ob, rd_ok (f := S.2.1 32) (by omega) (by decide), ob, x3, isjt hJ hq s0, show (19 : Int32) + nI w = nI (19 + w) from nI_add 19 w, rd_ok (f := S.2.1 11) (by omega) (by decide), ob, ob, hat, nI_1]
      have next : f0_allows_l3 (nI w) (nI nn) (nI j) (nI nJ) U (m + 1) (nI i) = some (if b then 1 else 0) → (∀ (kk : Int32 → Int32 → MS → Option (Int32 × MS)) (t : Bool), f7_mayTurn_l35 (nI w) (nI nn) kk (m + 1) (if t then 1 else 0) (nI i) S = f7_mayTurn_l35 (nI w) (nI nn) kk m (if t then 1 else 0) (nI (i + 1)) S) → ∃ b : Bool, f0_allows_l3 (nI w) (nI nn) (nI j) (nI nJ) U (m + 1) (nI i) = some (if b then 1 else 0) ∧ ∀ (kk : Int32 → Int32 → MS → Option (Int32 × MS)) (t : Bool), f7_mayTurn_l35 (nI w) (nI nn) kk (m + 1) (if t then 1 else 0) (nI i) S = kk (if (t && b) then 1 else 0) (nI nn + 1) S :=
        fun p1 p2 => ⟨b, p1, fun kk t => by rw [p2]; exact b2 kk t⟩
      by_cases c1 : S.2.1 31 i = nI w
      · rw [if_pos c1] at hA
        by_cases c2 : S.2.1 33 i = nI nn
        · rw [if_pos c2, if_neg (show ¬ (1 : Int32) = 0 by decide)] at hA
          by_cases c3 : q < nJ
          · rw [if_neg (nI_ge c3 (by omega))] at hA
            by_cases c4 : j = q
            · rw [if_pos (by rw [c4])] at hA
              refine next hA (fun kk t => ?_)
              rw [hB, if_pos c1, if_pos c2, if_pos c3, if_neg (show ¬ (1 : Int32) = 0 by decide), ob, if_neg (show ¬ (1 : Int32) = 0 by decide), if_pos (show nI j = nI q by rw [c4])]
              cases t
              · rw [e0, if_pos rfl, ob]
              · rw [if_neg e1, ob, if_pos rfl]
            · rw [if_neg (ne_nI (fun q => c4 q.symm) (by omega) (by omega))] at hA
              refine ⟨false, by rw [hA, e0], fun kk t => ?_⟩
              have b2' := b2 kk false
              rw [e0] at b2'
              rw [hB, if_pos c1, if_pos c2, if_pos c3, if_neg (show ¬ (1 : Int32) = 0 by decide), ob, if_neg (show ¬ (1 : Int32) = 0 by decide), if_neg (ne_nI c4 (by omega) (by omega))]
              cases t
              · rw [e0, if_pos rfl, ob, b2']
                rfl
              · rw [if_neg e1, ob, b2']
                rfl
          · rw [if_pos (nI_le (by omega) (by omega))] at hA
            refine next hA (fun kk t => ?_)
            rw [hB, if_pos c1, if_pos c2, if_neg c3, if_pos rfl, ob, if_pos rfl]
            cases t
            · rw [e0, if_pos rfl, ob]
            · rw [if_neg e1, ob, if_pos rfl]
        · rw [if_neg c2, if_pos rfl] at hA
          refine next hA (fun kk t => ?_)
          rw [hB, if_pos c1, if_neg c2, ob, if_pos rfl]
          cases t
          · rw [e0, if_pos rfl, ob]
          · rw [if_neg e1, ob, if_pos rfl]
      · rw [if_neg c1, if_pos rfl] at hA
        refine next hA (fun kk t => ?_)
        rw [hB, if_neg c1, ob, if_pos rfl]
        cases t
        · rw [e0, if_pos rfl, ob]
        · rw [if_neg e1, ob, if_pos rfl]
    · have e : i = hn := by omega
      subst e
      refine ⟨true, ?_, fun kk t => ?_⟩
      · rw [f0_allows_l3, u1, if_pos (nI_le (Nat.le_refl _) (by omega))]
        rfl
      · rw [f7_mayTurn_l35, u2, if_pos (nI_le (Nat.le_refl _) (by omega)), Bool.and_true]
theorem turn_l {N : Mo} {Sb : MS} {U : He} {nJ nP nW hn w : Nat} {d : Nat → Nat → Nat} (hN : NetR N Sb nJ nP nW d) (hw : w < nW) (hhn : hn ≤ 6) (u1 : U.2 = nI hn) (u2 : Sb.1 30 = nI hn) (hu : ∀ i, i < hn → U.1 0 i = Sb.2.1 31 i ∧ U.1 1 i = Sb.2.1 32 i ∧ U.1 2 i = Sb.2.1 33 i ∧ ∃ q, q < 6 ∧ Sb.2.1 32 i = nI q) : ∀ (n i K : Nat) (M : Mo) (f : Nat → Int32) (y : Bool), 1 ≤ i → i ≤ 10 → 10 < i + n → K + (10 - i) < 2 ^ 31 → MomR K nJ nW M f (19 * 1) → SetR nW M Sb →
    ∃ (b : Bool) (f' : Nat → Int32), f7_mayTurn_l19 (nI w) n (if y then 1 else 0) (nI i) (mA Sb 11 f) = some (if b then 1 else 0, sI (mA Sb 11 f') 24 (-9)) ∧ (∀ k, k < 19 → f' k = f k) ∧ (y = false → b = false) ∧ (y = true → ∀ C : Cs, C.1 1 = M → C.2.2.2.2.2.1.1 = N → C.2.2.2.2.2.2.2.1 = U → ∃ C' : Cs, f6_isAsHeard_l25 (nI w) n (nI i) C = some (if b then 1 else 0, C') ∧ SC C C' ∧ C'.2.2.2.2.2.2.2.2.2 = C.2.2.2.2.2.2.2.2.2) := by
  have hb := hN.1
  intro n
  induction n with
  | zero => intro i K M f y h1 h2 h3; omega
  | succ n ih =>
    intro i K M f y h1 h2 h3 hK hM hT
    by_cases hi : i < 10
    · obtain ⟨M1, f1, a1, a2, a3, a4⟩ := stepon1 hN (by omega) hM hT
      obtain ⟨j, hj, m0, s0⟩ := (a3.1.1 w hw).1
      obtain ⟨b0, c1, c2⟩ := allow_l (U := U) (S := mA Sb 11 f1) (w := w) (nn := i) (j := j) hb.1 hhn u1 u2 (fun q hq => by
        rw [mA_n (show (31 : Nat) ≠ 11 by decide), mA_n (show (32 : Nat) ≠ 11 by decide), mA_n (show (33 : Nat) ≠ 11 by decide)]
        exact hu q hq) hN.2.2.1.1 (by omega) hj (by rw [mA_s]; exact s0) FU 0 (by omega) (by show hn < 0 + 100; omega)
      obtain ⟨b, f', r1, r2, r3, r4⟩ := ih (i + 1) (K + 1) M1 f1 (y && b0) (by omega) (by omega) (by omega) (by omega) a3.1 a4
      have c2' := c2 (fun y4 y5 S6 => f7_mayTurn_l19 (nI w) n y4 y5 S6) y
      rw [nI_1] at c2'
      have c2'' : f7_mayTurn_l35 (nI w) (nI i) (fun y4 y5 S6 => f7_mayTurn_l19 (nI w) n y4 y5 S6) FU (if y then 1 else 0) 0 (mA Sb 11 f1) = f7_mayTurn_l19 (nI w) n (if (y && b0) then 1 else 0) (nI (i + 1)) (mA Sb 11 f1) := c2'
      refine ⟨b, f', ?_, fun q hq => (r2 q hq).trans (a3.2.2.1 q (by omega)), fun hy => r3 (by rw [hy]; rfl), fun hy C hC1 hC2 hC3 => ?_⟩
      · rw [f7_mayTurn_l19, if_neg (show ¬ (10 : Int32) ≤ nI i from nI_ge (b := 10) hi (by decide)), a2, ob]
        exact c2''.trans r1
      · have ea : f2_advance (C.1 1) C.2.2.2.2.2.1.1 = some M1 := by
          rw [adv_eq, hC1, hC2]
          exact a1
        have eb : f0_allows (cM C 1 M1).2.2.2.2.2.2.2.1 (nI w) (nI i) (f6_cell 4 (((cM C 1 M1).1 1).2 0) (nI w)) ((cM C 1 M1).2.2.2.2.2.1.1.1 2) = some (if b0 then 1 else 0) := by
          show f0_allows C.2.2.2.2.2.2.2.1 (nI w) (nI i) (f6_cell 4 (M1.2 0) (nI w)) (C.2.2.2.2.2.1.1.1 2) = _
          rw [hC2, hC3, cell_ok (by omega) (by decide), m0, hN.2.1.1]
          exact c1
        rw [f6_isAsHeard_l25, if_neg (show ¬ (9 : Int32) < nI i from nI_nlt (a := 9) (by omega) (by omega)), ea, ob, bdk, eb, ob, nI_1]
        cases b0
        · have : b = false := r3 (by rw [Bool.and_false])
          subst this
          exact ⟨_, rfl, SC.m1 C M1, rfl⟩
        · obtain ⟨C', p1, p2, p3⟩ := r4 (by rw [hy]; rfl) (cM C 1 M1) rfl hC2 hC3
          rw [if_neg (show ¬ ((if (true : Bool) = true then (1 : Int32) else 0) = 0) by decide)]
          exact ⟨C', p1, (SC.m1 C M1).tr p2, p3⟩
    · have e : i = 10 := by omega
      subst e
      refine ⟨y, f, ?_, fun _ _ => rfl, fun hy => hy, fun hy C _ _ _ => ?_⟩
      · rw [f7_mayTurn_l19, if_pos (show (10 : Int32) ≤ nI 10 by decide), bdk, zbo_b, ob]
      · subst hy
        rw [f6_isAsHeard_l25, if_pos (show (9 : Int32) < nI 10 by decide)]
        exact ⟨C, rfl, SC.rf C, rfl⟩
theorem may_eq {k nJ nP nW : Nat} {d : Nat → Nat → Nat} {C : Cs} {S : MS} (h : RelN k nJ nP nW d C S) (hk : k ≤ 65) {w t : Nat} (hw : w < nW) (ht : t < 4) : ∃ (b : Bool) (C' : Cs) (S' : MS), f6_isAsHeard C (nI w) (nI t) = some (if b then 1 else 0, C') ∧ f7_mayTurn S (nI w) (nI t) = some (if b then 1 else 0, S') ∧ Lk C C' S S' := by
  obtain ⟨M1, f1, m1, l1, hM1, hB1, hR1, -, hf⟩ := lay_tr h
  obtain ⟨hN, -, ⟨h23, h24⟩, -, -, -, ⟨hn, hhn, u1, u2, hu⟩, hz⟩ := id h
  have hb := hN.1
  obtain ⟨Sb, hSb⟩ : ∃ Sb : MS, Sb = sI (sI S 24 (nI w)) 25 (nI t) := ⟨_, rfl⟩
  have q1 : ∀ i, i ≠ 24 → i ≠ 25 → Sb.1 i = S.1 i := fun i h1 h2 => by rw [hSb, sI_n h2, sI_n h1]
  have q2 : Sb.2 = S.2 := by rw [hSb]; rfl
  have q24 : Sb.1 24 = nI w := by rw [hSb, sI_n (show (24 : Nat) ≠ 25 by decide), sI_s]
  have q25 : Sb.1 25 = nI t := by rw [hSb, sI_s]
  have hNb : NetR C.2.2.2.2.2.1.1 Sb nJ nP nW d := hN.fr _ (fun i hi => q1 i (by omega) (by omega)) (fun r _ _ => by rw [q2])
  have hM3 : MomR k nJ nW (sA M1 3 (upd (M1.2 3) w (nI t))) f1 (19 * 1) := hM1
  have hT3 : SetR nW (sA M1 3 (upd (M1.2 3) w (nI t))) Sb := by
    refine ⟨fun x hx => ?_, fun x hx => ?_, hB1.2.2⟩
    · rw [sA_s, q24, q25, q2]
      by_cases hxw : x = w
      · subst hxw
        exact ⟨t, ht, up_s, if_pos rfl⟩
      · obtain ⟨t', g1, g2, g3⟩ := hB1.1 x hx
        exact ⟨t', g1, by rw [up_n hxw]; exact g2, by rw [if_neg (ne_nI hxw (by omega) (by omega))]; exact g3⟩
    · rw [q1 23 (by decide) (by decide), h23, b_15 x (by omega)]
      exact hB1.2.1 x hx
  obtain ⟨b, f', r1, r2, -, r4⟩ := turn_l (U := C.2.2.2.2.2.2.2.1) hNb hw hhn u1 ((q1 30 (by decide) (by decide)).trans u2) (by rw [q2]; exact hu) FU 1 k _ f1 true (by omega) (by omega) (by show 10 < 1 + 100; omega) (by omega) hM3 hT3
  have ep : cM (cM C 1 M1) 1 (sA ((cM C 1 M1).1 1) 3 (f6_put 4 (((cM C 1 M1).1 1).2 3) (nI w) (nI t))) = cM (cM C 1 M1) 1 (sA M1 3 (upd (M1.2 3) w (nI t))) := by
    show cM (cM C 1 M1) 1 (sA M1 3 (f6_put 4 (M1.2 3) (nI w) (nI t))) = _
    rw [put_ok (by omega) (by decide)]
  obtain ⟨C', p1, p2, p3⟩ := r4 rfl (cM (cM C 1 M1) 1 (sA M1 3 (upd (M1.2 3) w (nI t)))) rfl rfl rfl
  refine ⟨b, C', sI (mA Sb 11 f') 24 (-9), ?_, ?_, ((SC.m1 C M1).tr (SC.m1 _ _)).tr p2, ⟨fun i hi => ?_, fun r hr h29 => ?_, fun i hi => ?_⟩, p3, ?_⟩
  · unfold f6_isAsHeard
    rw [m1, ob, bdk, bdk, ep]
    exact p1
  · unfold f7_mayTurn
    rw [l1, ob, bdk, bdk]
    have e : sI (sI (mA S 11 f1) 24 (nI w)) 25 (nI t) = mA Sb 11 f1 := by rw [hSb]; rfl
    rw [e]
    exact r1
  · by_cases h4 : i = 24
    · subst h4
      rw [sI_s, h24]
    · rw [sI_n h4]
      exact q1 i h4 (by omega)
  · show (mA Sb 11 f').2.1 r = _
    rw [mA_n (by omega), q2]
  · show (mA Sb 11 f').2.1 11 i = _
    rw [mA_s, r2 i hi]
    exact hf i hi
  · show Sb.2.2 = S.2.2
    rw [q2]
theorem turning_l {k nJ nP nW : Nat} {d : Nat → Nat → Nat} {C0 : Cs} {S0 : MS} (h0 : RelN k nJ nP nW d C0 S0) (hk : k < 64) {w : Nat} (hw : w < nW) : ∀ (n i : Nat) (y : Int32) (C : Cs) (S : MS), i ≤ 4 → 4 < i + n → Lk C0 C S0 S → ∃ (v : Int32) (C' : Cs) (S' : MS), f6_turning_l31 (nI w) n y (nI i) C = some (v, C') ∧ f7_turning_l26 (nI w) n y (nI i) S = some (v, S') ∧ Lk C0 C' S0 S' := by
  intro n
  induction n with
  | zero => intro i y C S h1 h2; omega
  | succ n ih =>
    intro i y C S h1 h2 g
    rw [f6_turning_l31, f7_turning_l26]
    by_cases hi : i < 4
    · obtain ⟨b, C', S', a1, a2, a3⟩ := may_eq (h0.lk g) (by omega) hw hi
      rw [if_neg (show ¬ (4 : Int32) ≤ nI i from nI_ge (b := 4) hi (by decide)), if_neg (show ¬ (4 : Int32) ≤ nI i from nI_ge (b := 4) hi (by decide)), a1, ob, a2, ob, nI_1]
      cases b
      · rw [if_neg (show ¬ (false : Bool) = true by decide)]
        have q1 := ih (i + 1) y C' S' (by omega) (by omega) (g.tr a3)
        obtain ⟨v, C2, S2, q1, q2, q3⟩ := q1
        refine ⟨v, C2, S2, ?_, ?_, q3⟩
        · show (if (0 : Int32) = 0 then _ else _) = _
          rw [if_pos rfl]
          exact q1
        · show bd (if (0 : Int32) = 0 then _ else _) _ = _
          rw [if_pos rfl, bdk, bdk, or0]
          exact q2
      · rw [if_pos rfl]
        obtain ⟨v, C2, S2, q1, q2, q3⟩ := ih (i + 1) (y ||| (1 : Int32) <<< (nI i &&& 31)) C' S' (by omega) (by omega) (g.tr a3)
        refine ⟨v, C2, S2, ?_, ?_, q3⟩
        · show (if (1 : Int32) = 0 then _ else bd _ _) = _
          rw [if_neg (by decide), bdk, bit_eq (by omega)]
          exact q1
        · show bd (if (1 : Int32) = 0 then _ else _) _ = _
          rw [if_neg (by decide), bdk, bdk]
          exact q2
    · have e : i = 4 := by omega
      subst e
      rw [if_pos (show (4 : Int32) ≤ nI 4 by decide), if_pos (show (4 : Int32) ≤ nI 4 by decide)]
      exact ⟨_, _, _, rfl, rfl, g⟩
theorem r_turning (k : Nat) (C : Cs) (S : MS) (x1 : Int32) (hk : k < 64) (h : Rel k C S) : ∃ (r : Int32) (C2 : Cs) (S2 : MS), f6_turning C x1 = some (r, C2) ∧ f7_turning S x1 = some (r, S2) ∧ Rel (k + 1) C2 S2 := by
  obtain ⟨nJ, nP, nW, d, h⟩ := h
  have hN := h.1
  have hb := hN.1
  unfold f6_turning f7_turning
  rcases isW hN x1 with ⟨a1, a2⟩ | ⟨a1, a2, w, hw, rfl⟩
  · rw [a1, a2, if_neg (by decide), if_pos rfl]
    exact ⟨_, _, _, rfl, rfl, h.rel⟩
  · have so := (h.2.1.1.1 w hw).2.2.2
    have eo : f7_isOut S 0 (nI w) = some (if bt ((C.1 0).1 5) w then 1 else 0) := isout_eq (pl := 0) (by omega) (by omega) so
    rw [a1, a2, if_pos rfl, if_neg (show ¬ (1 : Int32) = 0 by decide), eo, ob, h6_eq (by omega)]
    cases ho : bt ((C.1 0).1 5) w
    · obtain ⟨v, C', S', r1, r2, r3⟩ := turning_l h hk hw FU 0 0 C S (by omega) (by show 4 < 0 + 100; omega) (Lk.rf C S)
      rw [if_neg (show ¬ (false : Bool) = true by decide), if_pos rfl, if_pos rfl]
      exact ⟨_, _, _, r1, r2, h.lkr r3⟩
    · have e1 : ¬ ((if (true : Bool) = true then (1 : Int32) else 0) = 0) := by decide
      rw [if_neg e1, if_neg e1]
      exact ⟨_, _, _, rfl, rfl, h.rel⟩

/-! mathematics: common divisors, shares -/
theorem zrm_ok {a b : Nat} (ha : a < 2 ^ 31) (hb : 0 < b) (hb2 : b < 2 ^ 31) : zrm (nI a) (nI b) = some (nI (a % b)) := by
  unfold zrm
  rw [if_neg (nI_ne0 hb hb2), pk_rem ha hb hb2]
theorem gcd_l : ∀ (k a b n : Nat), b < 2 ^ k → a < 2 ^ 31 → b < 2 ^ 31 → 2 * k < n → ∃ v, v < 2 ^ 31 ∧ (0 < a ∨ 0 < b → 0 < v) ∧ f7_common_l13 n (nI a) (nI b) = some (nI v) := by
  intro k
  induction k with
  | zero =>
    intro a b n hb ha _ hn
    have e : b = 0 := by
      have : (2 : Nat) ^ 0 = 1 := rfl
      omega
    subst e
    cases n with
    | zero => omega
    | succ n =>
      rw [f7_common_l13, if_pos nI_0]
      exact ⟨a, ha, fun h => by omega, rfl⟩
  | succ k ih =>
    intro a b n hb ha hb2 hn
    cases n with
    | zero => omega
    | succ n =>
      rw [f7_common_l13]
      by_cases h0 : b = 0
      · subst h0
        rw [if_pos nI_0]
        exact ⟨a, ha, fun h => by omega, rfl⟩
      · rw [if_neg (nI_ne0 (by omega) hb2), zrm_ok ha (by omega) hb2, ob]
        have hr : a % b < b := Nat.mod_lt _ (by omega)
        cases n with
        | zero => omega
        | succ n =>
          rw [f7_common_l13]
          by_cases h1 : a % b = 0
          · rw [h1, if_pos nI_0]
            exact ⟨b, hb2, fun _ => by omega, rfl⟩
          · rw [if_neg (nI_ne0 (by omega) (by omega)), zrm_ok hb2 (by omega) (by omega), ob]
            have h2 : b % (a % b) < a % b := Nat.mod_lt _ (by omega)
            have h3 : b % (a % b) ≤ b - a % b := by
              rw [Nat.mod_eq_sub_mod (by omega)]
              exact Nat.mod_le _ _
            have h4 : b % (a % b) < 2 ^ k := by
              rw [Nat.pow_succ] at hb
              omega
            obtain ⟨v, v1, v2, v3⟩ := ih (a % b) (b % (a % b)) n h4 (by omega) (by omega) (by omega)
            exact ⟨v, v1, fun _ => v2 (Or.inl (by omega)), v3⟩
theorem cm_mono : ∀ (n : Nat) (a b v : Int32), f7_common_l13 n a b = some v → ∀ m, n ≤ m → f7_common_l13 m a b = some v := by
  intro n
  induction n with
  | zero => intro a b v h; cases h
  | succ n ih =>
    intro a b v h m hm
    cases m with
    | zero => omega
    | succ m =>
      rw [f7_common_l13] at h ⊢
      by_cases h0 : b = 0
      · rw [if_pos h0] at h ⊢; exact h
      · rw [if_neg h0] at h ⊢
        cases hz : zrm a b with
        | none => rw [hz] at h; cases h
        | some r =>
          rw [hz, ob] at h
          rw [ob]
          exact ih b r v h m (by omega)
theorem cd_l : ∀ (n : Nat) (a b v : Int32), f7_common_l13 n a b = some v → ∀ m c, n ≤ m → c + n ≤ 64 → f6_commonDivisor_l7 m a b (nI c) = some v := by
  intro n
  induction n with
  | zero => intro a b v h; cases h
  | succ n ih =>
    intro a b v h m c hm hc
    cases m with
    | zero => omega
    | succ m =>
      rw [f7_common_l13] at h
      rw [f6_commonDivisor_l7, if_neg (show ¬ (64 : Int32) ≤ nI c from nI_ge (b := 64) (by omega) (by decide))]
      by_cases h0 : b = 0
      · rw [if_pos h0] at h ⊢; exact h
      · rw [if_neg h0] at h ⊢
        cases hz : zrm a b with
        | none => rw [hz] at h; cases h
        | some r =>
          rw [hz, ob] at h
          rw [ob, nI_1]
          exact ih b r v h m (c + 1) (by omega) (by omega)
theorem frac_eq {x x4 : Int32} {a b : Nat} (hx : (if 0 ≤ x then x else -x) = nI a) (ha : a < 2 ^ 31) (hb : 0 < b) (hb2 : b < 2 ^ 20) : ∃ v r, f7_common x (nI b) = some v ∧ f6_fraction x (nI b) x4 = some r ∧ zdv (nI b) v = some (nI b / v) ∧ zdv x v = some (x / v) ∧ r = (if x4 = 0 then nI b / v else x / v) := by
  have hb3 : b < 2 ^ 31 := by
    have : (2 : Nat) ^ 20 < 2 ^ 31 := by decide
    omega
  obtain ⟨v, v1, v2, v3⟩ := gcd_l 20 a b 42 hb2 ha hb3 (by omega)
  have hv : ¬ nI v = 0 := nI_ne0 (v2 (Or.inr hb)) v1
  have z1 : ∀ y : Int32, zdv y (nI v) = some (y / nI v) := fun y => by
    unfold zdv
    rw [if_neg hv]
  have e1 : f7_common x (nI b) = some (nI v) := by
    unfold f7_common
    rw [bdk, hx]
    exact cm_mono 42 _ _ _ v3 FU (by show 42 ≤ 100; omega)
  have e2 : f6_commonDivisor (if 0 ≤ x then x else 0 - x) (nI b) = some (nI v) := by
    rw [Int32.zero_sub, hx]
    exact cd_l 42 _ _ _ v3 FU 0 (by show 42 ≤ 100; omega) (by omega)
  refine ⟨nI v, (if x4 = 0 then nI b / nI v else x / nI v), e1, ?_, z1 _, z1 _, rfl⟩
  unfold f6_fraction
  rw [e2, ob, if_neg hv, z1, ob, z1, ob]
  by_cases h : x4 = 0
  · rw [if_pos h, if_pos h]
  · rw [if_neg h, if_neg h]
theorem b_small : ∀ n, n < 5 → ∀ s, s < 2 ^ n → ∀ k, k < 32 → n ≤ k → bt (nI s) k = false := by decide +kernel
theorem or_small : ∀ n, n < 5 → ∀ w, w < n → ∀ s, s < 2 ^ n → nI s ||| (1 : Int32) <<< (nI w &&& 31) = nI (s ||| 1 <<< w) ∧ (s ||| 1 <<< w) < 2 ^ n := by decide +kernel
theorem cnt_small : ∀ n, n < 5 → ∀ w, w < n → ∀ s, s < 2 ^ n → bt (nI s) w = false → wcnt s ≤ n - 1 := by decide +kernel
def zf (c : Nat) : Nat := [1, 1, 2, 6, 24].getD c 0
theorem zf_ok : ∀ c, c < 5 → zFact c = nI (zf c) ∧ zf c ≤ 24 ∧ 0 < zf c ∧ f7_factorial (nI c) = some (nI (zf c)) := by decide +kernel
/-- how many are right, if only these are there -/
theorem right_by {k nJ nP nW : Nat} {d : Nat → Nat → Nat} {C : Cs} {S : MS} (h : RelN k nJ nP nW d C S) (hk : k ≤ 65) {s : Nat} (hs : s < 2 ^ nW) : ∃ (r : Nat) (C' : Cs) (S' : MS), r ≤ 6 ∧ f6_rightAmong C (nI s) = some (nI r, C') ∧ f7_rightBy S (nI s) = some (nI r, S') ∧ Lk C C' S S' := by
  obtain ⟨M1, f1, m1, l1, hM1, hB1, hR1, -, hf⟩ := lay_tr h
  obtain ⟨hN, -, ⟨h23, h24⟩, -⟩ := id h
  have hb := hN.1
  obtain ⟨Sb, hSb⟩ : ∃ Sb : MS, Sb = sI S 23 (nI s) := ⟨_, rfl⟩
  have q1 : ∀ i, i ≠ 23 → Sb.1 i = S.1 i := fun i h1 => by rw [hSb, sI_n h1]
  have q2 : Sb.2 = S.2 := by rw [hSb]; rfl
  have q23 : Sb.1 23 = nI s := by rw [hSb, sI_s]
  have hNb : NetR C.2.2.2.2.2.1.1 Sb nJ nP nW d := hN.fr _ (fun i hi => q1 i (by omega)) (fun r _ _ => by rw [q2])
  obtain ⟨hq, ho, ⟨h6, h7⟩, c, hc, hc1, hc2⟩ := id hM1
  have hM3 : MomR k nJ nW (sI M1 4 (nI s)) f1 (19 * 1) := ⟨hq, ho, ⟨h6, h7⟩, c, hc, hc1, hc2⟩
  have hT3 : SetR nW (sI M1 4 (nI s)) Sb := by
    refine ⟨fun x hx => ?_, fun x hx => ?_, fun x hx hx2 => ?_⟩
    · obtain ⟨t, t1, t2, t3⟩ := hB1.1 x hx
      refine ⟨t, t1, t2, ?_⟩
      rw [q1 24 (by decide), h24, if_neg (n9_ne (by omega)), q2]
      exact t3
    · rw [sI_s, q23]
    · rw [sI_s]
      exact b_small nW (by omega) s hs x hx2 hx
  obtain ⟨M', f', r1, r2, r3, r4⟩ := times_l hNb (x := 20) (by omega) FU 0 k _ f1 (by omega) (by show 20 < 0 + 100; omega) (by omega) hM3 hT3
  have r1' : f2_advanceTimes ((cM (cM C 1 M1) 1 (sI M1 4 (nI s))).1 1) ((cM (cM C 1 M1) 1 (sI M1 4 (nI s))).2.2.2.2.2.1.1) 20 = some M' := r1
  have r2' : f7_goTrial (mA Sb 11 f1) 20 = some (mA Sb 11 f') := r2
  have hS' : NetR C.2.2.2.2.2.1.1 (sI (mA Sb 11 f') 23 15) nJ nP nW d := hNb.fr _ (fun i hi => by rw [sI_n (by omega)]; rfl) (fun r h1 h2 => mA_n (by omega))
  have hM' : MomR (k + (20 - 0)) nJ nW M' ((sI (mA Sb 11 f') 23 15).2.1 11) (19 * 1) := by
    show MomR (k + (20 - 0)) nJ nW M' ((mA Sb 11 f').2.1 11) (19 * 1)
    rw [mA_s]
    exact r3.1
  obtain ⟨u, u1, u2⟩ := outon_eq hS' (pl := 1) (by omega) hM' 1
  have u1' : f7_outOn (sI (mA Sb 11 f') 23 15) 1 1 = some u := u1
  obtain ⟨v, v1, v2⟩ := right_eq M' C.2.2.2.2.2.1.1
  have v1' : f2_right ((cM (cM (cM C 1 M1) 1 (sI M1 4 (nI s))) 1 M').1 1) ((cM (cM (cM C 1 M1) 1 (sI M1 4 (nI s))) 1 M').2.2.2.2.2.1.1) = some v := v1
  have hm4 : M'.1 4 = nI s := r3.2.1.2.1.trans sI_s
  have huv : u &&& nI s = v := by
    apply b_ext
    intro x hx
    rw [b_and, u2 x hx, v2 x hx, hm4, decide_eq_false (show ¬ (1 : Int32) = 0 by decide), Bool.false_or]
    by_cases hxw : x < nW
    · rw [decide_eq_true hxw, decide_eq_true (show x < 4 by omega), Bool.true_and, Bool.true_and]
      cases bt (M'.1 5) x <;> cases bt (nI s) x <;> simp
    · rw [decide_eq_false hxw, Bool.false_and, Bool.false_and, b_small nW (by omega) s hs x hx (by omega), Bool.and_false, Bool.false_and, Bool.and_false]
  obtain ⟨q, hq6, hqv⟩ := sm_eq (x := v) (m := nW) (by omega) (fun x h1 h2 => by
    rw [v2 x h2, hm4, b_small nW (by omega) s hs x h2 h1, Bool.and_false, Bool.false_and, Bool.and_false])
  obtain ⟨w1, w2⟩ := wcnt_ok q hq6
  refine ⟨wcnt q, cM (cM (cM C 1 M1) 1 (sI M1 4 (nI s))) 1 M', sI (mA Sb 11 f') 23 15, w2, ?_, ?_, ((SC.m1 C M1).tr (SC.m1 _ _)).tr (SC.m1 _ _), ⟨fun i hi => ?_, fun r hr h29 => ?_, fun i hi => ?_⟩, rfl, ?_⟩
  · unfold f6_rightAmong
    rw [m1, ob, bdk, bdk]
    show ((f2_advanceTimes ((cM (cM C 1 M1) 1 (sI M1 4 (nI s))).1 1) ((cM (cM C 1 M1) 1 (sI M1 4 (nI s))).2.2.2.2.2.1.1) 20).bind fun M4 => bd (cM (cM (cM C 1 M1) 1 (sI M1 4 (nI s))) 1 M4) fun C5 => (f2_right (C5.1 1) C5.2.2.2.2.2.1.1).bind fun v6 => some (f6_bitCount_0f7a4 v6, C5)) = _
    rw [r1', ob, bdk, v1', ob, hqv, w1]
  · unfold f7_rightBy
    rw [l1, ob, bdk]
    have e : sI (mA S 11 f1) 23 (nI s) = mA Sb 11 f1 := by rw [hSb]; rfl
    rw [e, r2', ob, bdk, u1', ob, huv, hqv, ones_all q hq6, ob, w1]
  · by_cases h4 : i = 23
    · subst h4
      rw [sI_s, h23]
    · rw [sI_n h4]
      exact q1 i h4
  · show (mA Sb 11 f').2.1 r = _
    rw [mA_n (by omega), q2]
  · show (mA Sb 11 f').2.1 11 i = _
    rw [mA_s, r3.2.2.1 i (by omega)]
    exact hf i hi
  · show Sb.2.2 = S.2.2
    rw [q2]
theorem ring1 (P Q O A B : Int32) : P - Q + O * (A - B) = P + O * A - (Q + O * B) := by
  rw [Int32.mul_sub, Int32.sub_eq_add_neg, Int32.sub_eq_add_neg, Int32.sub_eq_add_neg, Int32.neg_add, Int32.sub_eq_add_neg]
  ac_rfl
theorem share_l {k nJ nP nW : Nat} {d : Nat → Nat → Nat} {C0 : Cs} {S0 : MS} (h0 : RelN k nJ nP nW d C0 S0) (hk : k < 64) (x2 : Int32) {w : Nat} (hw : w < nW) : ∀ (n i p q : Nat) (C : Cs) (S : MS), i ≤ 2 ^ nW → 2 ^ nW < i + n → p ≤ 4000 * i → q ≤ 4000 * i → Lk C0 C S0 S → ∃ (v : Int32) (C' : Cs) (S' : MS), f6_share_l15 (nI w) x2 n (nI p - nI q) (nI i) C = some (v, C') ∧ f7_share_l15 (nI w) x2 n (nI p - nI q) (nI i) S = some (v, S') ∧ Lk C0 C' S0 S' := by
  have hb := h0.1.1
  obtain ⟨t1, t2, t3, t4, t5⟩ := p2_all nW (by omega)
  have t6 : 2 ^ nW ≤ 16 := by
    have : ∀ n, n < 5 → 2 ^ n ≤ 16 := by decide
    exact this nW (by omega)
  intro n
  induction n with
  | zero => intro i p q C S h1 h2; omega
  | succ n ih =>
    intro i p q C S h1 h2 hp hq g
    have h := h0.lk g
    rw [f6_share_l15, f7_share_l15, h.1.2.1.2.2, h.1.2.2.1.2.2, t1, t3]
    by_cases hi : i < 2 ^ nW
    · rw [if_neg (nI_nlt (by omega) (by omega)), if_neg (nI_ge hi (by omega)), h6_eq (by omega), h7_eq (by omega), nI_1]
      cases hbt : bt (nI i) w
      · obtain ⟨o1, o2⟩ := or_small nW (by omega) w hw i hi
        have hc := cnt_small nW (by omega) w hw i hi hbt
        obtain ⟨c1, c2⟩ := wcnt_ok i (by omega)
        obtain ⟨r1, C1, S1, a1, a2, a3, a4⟩ := right_by h (by omega) o2
        obtain ⟨r2, C2, S2, b1, b2, b3, b4⟩ := right_by (h0.lk (g.tr a4)) (by omega) hi
        have h2' := h0.lk ((g.tr a4).tr b4)
        obtain ⟨z1, z2, z3, z4⟩ := zf_ok (wcnt i) (by omega)
        obtain ⟨y1, y2, y3, y4⟩ := zf_ok (nW - 1 - wcnt i) (by omega)
        have eo : f6_ordersWith C2 (nI (wcnt i)) = nI (zf (wcnt i) * zf (nW - 1 - wcnt i)) := by
          unfold f6_ordersWith
          rw [h2'.1.2.1.2.2, cell_ok (by omega) (by decide), z1, pk_sub (by omega), show nI (nW - wcnt i) - 1 = nI (nW - wcnt i - 1) from pk_sub (b := 1) (by omega), cell_ok (by omega) (by decide), show nW - wcnt i - 1 = nW - 1 - wcnt i by omega, y1, pk_mul]
        rw [if_neg (show ¬ (false : Bool) = true by decide), if_pos rfl, if_pos rfl, bit_eq (by omega), o1, a2, ob, a3]
        rw [ones_all i (by omega), ob, c1, z4, ob, ob, show nI nW - 1 = nI (nW - 1) from pk_sub (b := 1) (by omega), show nI (nW - 1) - nI (wcnt i) = nI (nW - 1 - wcnt i) from pk_sub (by omega), y4, ob, bdk, ob]
        simp only []
        rw [b2, b3, ob, ob]
        simp only []
        rw [bdk, bdk, bdk, eo, pk_mul, Int32.mul_comm (nI r1 - nI r2), ring1, pk_mul, pk_mul, nI_add, nI_add]
        have m1 : zf (wcnt i) * zf (nW - 1 - wcnt i) ≤ 24 * 24 := Nat.mul_le_mul z2 y2
        have m2 : zf (wcnt i) * zf (nW - 1 - wcnt i) * r1 ≤ 24 * 24 * 6 := Nat.mul_le_mul m1 a1
        have m3 : zf (wcnt i) * zf (nW - 1 - wcnt i) * r2 ≤ 24 * 24 * 6 := Nat.mul_le_mul m1 b1
        exact ih (i + 1) _ _ C2 S2 (by omega) (by omega) (by omega) (by omega) ((g.tr a4).tr b4)
      · have e1 : ¬ ((if (true : Bool) = true then (1 : Int32) else 0) = 0) := by decide
        rw [if_neg e1, if_neg e1]
        exact ih (i + 1) p q C S (by omega) (by omega) (by omega) (by omega) g
    · have e : i = 2 ^ nW := by omega
      rw [← e, if_pos (nI_lt (by omega) (by omega)), if_pos (nI_le (Nat.le_refl _) (by omega))]
      obtain ⟨z1, z2, z3, z4⟩ := zf_ok nW (by omega)
      have hx : ∃ a, a < 2 ^ 31 ∧ (if 0 ≤ nI p - nI q then nI p - nI q else -(nI p - nI q)) = nI a := by
        have et : (nI p - nI q).toInt = (p : Int) - q := pk_sub_toInt (by omega) (by omega)
        have e0 : (0 : Int32).toInt = 0 := by decide
        by_cases hpq : q ≤ p
        · refine ⟨p - q, by omega, ?_⟩
          rw [if_pos (by rw [Int32.le_iff_toInt_le, et]; omega), pk_sub hpq]
        · refine ⟨q - p, by omega, ?_⟩
          rw [if_neg (by rw [Int32.le_iff_toInt_le, et]; omega), Int32.neg_sub, pk_sub (by omega)]
      obtain ⟨a, ha, hxa⟩ := hx
      obtain ⟨v, r, f1, f2, f3, f4, f5⟩ := frac_eq (x4 := x2) hxa ha z3 (show zf nW < 2 ^ 20 by
        have : (24 : Nat) < 2 ^ 20 := by decide
        omega)
      rw [cell_ok (by omega) (by decide), z1, f2, ob, z4, ob, f1, ob, ob, f3, ob, f4, ob]
      by_cases hx2 : x2 = 0
      · rw [if_pos hx2] at f5 ⊢
        rw [f5]
        exact ⟨_, _, _, rfl, rfl, g⟩
      · rw [if_neg hx2] at f5 ⊢
        rw [f5]
        exact ⟨_, _, _, rfl, rfl, g⟩
theorem r_share (k : Nat) (C : Cs) (S : MS) (x1 x2 : Int32) (hk : k < 64) (h : Rel k C S) : ∃ (r : Int32) (C2 : Cs) (S2 : MS), f6_share C x1 x2 = some (r, C2) ∧ f7_share S x1 x2 = some (r, S2) ∧ Rel (k + 1) C2 S2 := by
  obtain ⟨nJ, nP, nW, d, h⟩ := h
  have hN := h.1
  have hb := hN.1
  unfold f6_share f7_share
  rcases isW hN x1 with ⟨a1, a2⟩ | ⟨a1, a2, w, hw, rfl⟩
  · rw [a1, a2, if_neg (by decide), if_pos rfl]
    exact ⟨_, _, _, rfl, rfl, h.rel⟩
  · obtain ⟨v, C', S', r1, r2, r3⟩ := share_l h hk x2 hw FU 0 0 0 C S (Nat.zero_le _) (by
      have : ∀ n, n < 5 → 2 ^ n < 0 + 100 := by decide
      exact this nW (by omega)) (by omega) (by omega) (Lk.rf C S)
    rw [a1, a2, if_pos rfl, if_neg (show ¬ (1 : Int32) = 0 by decide)]
    have e0 : nI 0 - nI 0 = 0 := by decide
    rw [e0] at r1 r2
    exact ⟨_, _, _, r1, r2, h.lkr r3⟩

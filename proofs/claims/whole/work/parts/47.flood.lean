/-! mathematics: tides by chance -/
def wN (n x s : Nat) : Nat := ((f6_weightOf (nI s) (nI n) (nI x)).getD 0).toNatClampNeg
def wtR (n x s : Nat) : Option Int32 := (f7_ones (nI s)).bind fun v17 => (f7_power (nI x) v17).bind fun v18 => (f7_ones (nI s)).bind fun v19 => (f7_power (10 - nI x) (nI n - v19)).bind fun v20 => some (v18 * v20)
def wsum (n x : Nat) : Nat → Nat
  | 0 => 0
  | i + 1 => wsum n x i + wN n x i
set_option maxRecDepth 100000 in
theorem w_all : ∀ n, n < 7 → ∀ x, x < 11 → ∀ s, s < 2 ^ n → f6_weightOf (nI s) (nI n) (nI x) = some (nI (wN n x s)) ∧ wtR n x s = some (nI (wN n x s)) ∧ wN n x s ≤ 1000000 := by decide +kernel
set_option maxRecDepth 100000 in
theorem w_sum : ∀ n, n < 7 → ∀ x, x < 11 → wsum n x (2 ^ n) = 10 ^ n := by decide +kernel
theorem fl_in {k nJ nP nW : Nat} {d : Nat → Nat → Nat} {C0 : Cs} {S0 : MS} (h0 : RelN k nJ nP nW d C0 S0) {w n s : Nat} (hw : w < nW) (hn : n ≤ 6) : ∀ (m j K : Nat) (C : Cs) (S : MS), j ≤ n → n < j + m → K + (n - j) < 2 ^ 31 → Lk C0 C S0 S → TrB K nJ nW C S →
    ∃ (b : Bool) (C' : Cs) (S' : MS), f6_isOutByTides_l14 (nI w) (nI n) (nI s) m (nI j) C = some (if b then 1 else 0, C') ∧ (∀ (x3 y4 y5 : Int32) (kk : Int32 → Int32 → Int32 → MS → Option (Int32 × MS)), f7_flood_l61 (nI w) (nI n) x3 y4 y5 (nI s) kk m (nI j) S = f7_flood_l61 (nI w) (nI n) x3 y4 y5 (nI s) kk 1 (nI n) S') ∧ f7_isOut S' 1 (nI w) = some (if b then 1 else 0) ∧ Lk C0 C' S0 S' := by
  have hb := h0.1.1
  intro m
  induction m with
  | zero => intro j K C S h1 h2; omega
  | succ m ih =>
    intro j K C S h1 h2 hK g ht
    have h := h0.lk g
    by_cases hj : j < n
    · obtain ⟨M', S', y, a1, a2, a3, a4⟩ := adv1B h ht (if bt (nI s) j then C.2.2.2.2.2.1.1.1 0 else C.2.2.2.2.2.1.1.1 1)
      obtain ⟨b, C2, S2, r1, r2, r3, r4⟩ := ih (j + 1) (K + 1) _ _ (by omega) (by omega) (by omega) (g.tr a3) a4
      have e6 : (if f6_has (nI s) (nI j) = 0 then C.2.2.2.2.2.1.1.1 1 else C.2.2.2.2.2.1.1.1 0) = (if bt (nI s) j then C.2.2.2.2.2.1.1.1 0 else C.2.2.2.2.2.1.1.1 1) := by
        rw [h6_eq (by omega)]
        cases bt (nI s) j <;> rfl
      have e7 : (if f7_has (nI s) (nI j) = 0 then S.1 4 else S.1 3) = (if bt (nI s) j then C.2.2.2.2.2.1.1.1 0 else C.2.2.2.2.2.1.1.1 1) := by
        rw [h7_eq (by omega), h.1.2.2.2.1.1, h.1.2.2.2.1.2]
        cases bt (nI s) j <;> rfl
      refine ⟨b, C2, S2, ?_, fun x3 y4 y5 kk => ?_, r3, r4⟩
      · rw [f6_isOutByTides_l14, if_neg (nI_ge hj (by omega)), bdk, e6, a1, ob, bdk, nI_1]
        exact r1
      · rw [f7_flood_l61, if_neg (nI_ge hj (by omega)), bdk, e7, a2, ob, nI_1]
        exact r2 x3 y4 y5 kk
    · have e : j = n := by omega
      subst e
      refine ⟨bt ((C.1 1).1 5) w, C, S, ?_, fun x3 y4 y5 kk => ?_, isout_eq (pl := 1) (by omega) (by omega) (ht.1.1 w hw).2.2.2, g⟩
      · rw [f6_isOutByTides_l14, if_pos (nI_le (Nat.le_refl _) (by omega)), h6_eq (by omega)]
      · rw [f7_flood_l61, f7_flood_l61, if_pos (nI_le (Nat.le_refl _) (by omega)), if_pos (nI_le (Nat.le_refl _) (by omega))]
theorem fl_l {k nJ nP nW : Nat} {d : Nat → Nat → Nat} {C0 : Cs} {S0 : MS} (h0 : RelN k nJ nP nW d C0 S0) (hk : k < 64) {w n x : Nat} (x4 : Int32) (hw : w < nW) (hn : n ≤ 6) (hx : x ≤ 10) : ∀ (m i p : Nat) (C : Cs) (S : MS), i ≤ 2 ^ n → 2 ^ n < i + m → p ≤ wsum n x i → Lk C0 C S0 S →
    ∃ (v : Int32) (C' : Cs) (S' : MS), f6_flood_l65 (nI w) (nI n) (nI x) x4 (nI (10 ^ n)) m (nI p) (nI i) C = some (v, C') ∧ f7_flood_l46 (nI w) (nI n) (nI x) x4 m (nI p) (nI (wsum n x i)) (nI i) S = some (v, S') ∧ Lk C0 C' S0 S' := by
  have hb := h0.1.1
  obtain ⟨t1, t2, t3, t4, t5⟩ := p2_all n (by omega)
  have e1 : ¬ ((if (true : Bool) = true then (1 : Int32) else 0) = 0) := by decide
  have e0 : (if (false : Bool) = true then (1 : Int32) else 0) = 0 := by decide
  intro m
  induction m with
  | zero => intro i p C S h1 h2; omega
  | succ m ih =>
    intro i p C S h1 h2 hp g
    have h := h0.lk g
    rw [f6_flood_l65, f7_flood_l46, t1]
    by_cases hi : i < 2 ^ n
    · obtain ⟨w1, w2, w3⟩ := w_all n (by omega) x (by omega) i hi
      obtain ⟨M1, S1, l1, l2, l3, l4⟩ := lay1 h
      obtain ⟨b, C', S', r1, r2, r3, r4⟩ := fl_in h0 (s := i) hw hn FU 0 (k + 1) (cM C 1 M1) S1 (by omega) (by show n < 0 + 100; omega) (by omega) (g.tr l3) l4
      have hR := w2
      unfold wtR at hR
      obtain ⟨v17, p1, hR⟩ := zob hR
      obtain ⟨v18, p2, hR⟩ := zob hR
      obtain ⟨v19, p3, hR⟩ := zob hR
      obtain ⟨v20, p4, hR⟩ := zob hR
      have p5 := zin hR
      have r2' := r2 (nI x) (nI p) (nI (wsum n x i)) (fun y4 y5 y6 S7 => f7_flood_l46 (nI w) (nI n) (nI x) x4 m y4 y5 y6 S7)
      have r2'' : f7_flood_l61 (nI w) (nI n) (nI x) (nI p) (nI (wsum n x i)) (nI i) (fun y4 y5 y6 S7 => f7_flood_l46 (nI w) (nI n) (nI x) x4 m y4 y5 y6 S7) FU 0 S1 = f7_flood_l46 (nI w) (nI n) (nI x) x4 m (nI p + (if (if b = true then (1 : Int32) else 0) = 0 then 0 else nI (wN n x i))) (nI (wsum n x (i + 1))) (nI (i + 1)) S' := by
        refine Eq.trans r2' ?_
        rw [f7_flood_l61, if_pos (nI_le (Nat.le_refl _) (by omega)), p1, ob, p2, ob]
        rw [p1] at p3
        have p3' := zin p3
        rw [ob, p3', p4, ob, bdk, bdk, p5, r3, ob, bdk, bdk, nI_add, nI_1]
        rfl
      rw [if_neg (nI_ge hi (by omega)), if_neg (nI_ge hi (by omega)), w1, ob, l2, ob, r2'', nI_1]
      by_cases hz : wN n x i = 0
      · have e : (if (if b = true then (1 : Int32) else 0) = 0 then (0 : Int32) else nI (wN n x i)) = 0 := by
          rw [hz]
          cases b <;> decide
        have e3 : nI p + 0 = nI p := nI_add p 0
        rw [e, e3, if_pos (by rw [hz]; decide)]
        refine ih (i + 1) p C S' (by omega) (by omega) (by show p ≤ wsum n x i + wN n x i; omega) ⟨g.1, r4.2.1, g.2.2.1, r4.2.2.2⟩
      · have eo : f6_isOutByTides C (nI w) (nI n) (nI i) = some (if b then 1 else 0, C') := by
          unfold f6_isOutByTides
          rw [l1, ob, bdk]
          exact r1
        rw [if_neg (nI_nle (by omega) (by omega)), eo, ob]
        cases b
        · obtain ⟨v, C2, S2, q1, q2, q3⟩ := ih (i + 1) p C' S' (by omega) (by omega) (by show p ≤ wsum n x i + wN n x i; omega) r4
          refine ⟨v, C2, S2, q1, ?_, q3⟩
          rw [e0, if_pos rfl, show nI p + 0 = nI p from nI_add p 0]
          exact q2
        · obtain ⟨v, C2, S2, q1, q2, q3⟩ := ih (i + 1) (p + wN n x i) C' S' (by omega) (by omega) (by show p + wN n x i ≤ wsum n x i + wN n x i; omega) r4
          refine ⟨v, C2, S2, ?_, ?_, q3⟩
          · show (if (if (true : Bool) = true then (1 : Int32) else 0) = 0 then _ else bd (nI p + nI (wN n x i)) _) = _
            rw [if_neg e1, bdk, nI_add]
            exact q1
          · rw [if_neg e1, nI_add]
            exact q2
    · have e : i = 2 ^ n := by omega
      have hs := w_sum n (by omega) x (by omega)
      have hpw : 10 ^ n ≤ 1000000 ∧ 0 < 10 ^ n := by
        have : ∀ n, n < 7 → 10 ^ n ≤ 1000000 ∧ 0 < 10 ^ n := by decide
        exact this n (by omega)
      rw [← e] at hs ⊢
      have hp2 : p < 2 ^ 31 := by omega
      have c20 : (1000000 : Nat) < 2 ^ 20 := by decide
      obtain ⟨v, r, f1, f2, f3, f4, f5⟩ := frac_eq (x := nI p) (x4 := x4) (if_pos (nI_pos' hp2)) hp2 hpw.2 (show 10 ^ n < 2 ^ 20 by omega)
      rw [if_pos (nI_le (Nat.le_refl _) (by omega)), if_pos (nI_le (Nat.le_refl _) (by omega)), hs, f2, ob, f1, ob, f3, ob, f4, ob]
      by_cases hx2 : x4 = 0
      · rw [if_pos hx2] at f5 ⊢
        rw [f5]
        exact ⟨_, _, _, rfl, rfl, g⟩
      · rw [if_neg hx2] at f5 ⊢
        rw [f5]
        exact ⟨_, _, _, rfl, rfl, g⟩
theorem fl_10 {C : Cs} {n : Nat} (x1 x3 x4 : Int32) (hn : n ≤ 6) : ∀ (m j : Nat), j ≤ n → n < j + m → f6_flood_l43 x1 (nI n) x3 x4 m (nI (10 ^ j)) (nI j) C = f6_flood_l65 x1 (nI n) x3 x4 (nI (10 ^ n)) FU 0 0 C := by
  intro m
  induction m with
  | zero => intro j h1 h2; omega
  | succ m ih =>
    intro j h1 h2
    rw [f6_flood_l43]
    by_cases hj : j < n
    · rw [if_neg (nI_ge hj (by omega)), bdk, show nI (10 ^ j) * 10 = nI (10 ^ j * 10) from pk_mul _ 10, ← Nat.pow_succ, nI_1]
      exact ih (j + 1) (by omega) (by omega)
    · have e : j = n := by omega
      subst e
      rw [if_pos (nI_le (Nat.le_refl _) (by omega))]
theorem r_flood (k : Nat) (C : Cs) (S : MS) (x1 x2 x3 x4 : Int32) (hk : k < 64) (h : Rel k C S) : ∃ (r : Int32) (C2 : Cs) (S2 : MS), f6_flood C x1 x2 x3 x4 = some (r, C2) ∧ f7_flood S x1 x2 x3 x4 = some (r, S2) ∧ Rel (k + 1) C2 S2 := by
  obtain ⟨nJ, nP, nW, d, h⟩ := h
  have hN := h.1
  unfold f6_flood f7_flood
  rcases isW hN x1 with ⟨a1, a2⟩ | ⟨a1, a2, w, hw, rfl⟩
  · rw [a1, a2, if_neg (by decide), if_pos rfl]
    exact ⟨_, _, _, rfl, rfl, h.rel⟩
  · rw [a1, a2, if_pos rfl, if_neg (show ¬ (1 : Int32) = 0 by decide), in_lit x2 1 6 1 6 (by decide) (by decide), in_lit x3 0 10 0 10 (by decide) (by decide)]
    rcases rg_eq x2 (lo := 1) (hi := 6) (by omega) (by omega) with ⟨h1, e⟩ | ⟨h1, h2, e⟩ | ⟨n, h1, h2, rfl, e⟩
    · have e' : (if x2 < 1 then (0 : Int32) else if 6 < x2 then 0 else 1) = 0 := e
      rw [if_pos (show x2 < 1 from h1), e', if_pos rfl]
      exact ⟨_, _, _, rfl, rfl, h.rel⟩
    · have e' : (if x2 < 1 then (0 : Int32) else if 6 < x2 then 0 else 1) = 0 := e
      rw [e', if_neg (show ¬ x2 < 1 from h1), if_pos (show 6 < x2 from h2), if_pos rfl]
      exact ⟨_, _, _, rfl, rfl, h.rel⟩
    · have e' : (if nI n < 1 then (0 : Int32) else if 6 < nI n then 0 else 1) = 1 := e
      have g1 : ¬ nI n < 1 := nI_nlt (b := 1) h1 (by omega)
      have g2 : ¬ 6 < nI n := nI_nlt (a := 6) h2 (by omega)
      rw [e', if_neg g1, if_neg g2, if_neg (show ¬ (1 : Int32) = 0 by decide)]
      rcases rg_eq x3 (lo := 0) (hi := 10) (by omega) (by omega) with ⟨i1, u⟩ | ⟨i1, i2, u⟩ | ⟨x, i1, i2, rfl, u⟩
      · have u' : (if x3 < 0 then (0 : Int32) else if 10 < x3 then 0 else 1) = 0 := u
        rw [u', if_pos (show x3 < 0 from i1), if_pos rfl]
        exact ⟨_, _, _, rfl, rfl, h.rel⟩
      · have u' : (if x3 < 0 then (0 : Int32) else if 10 < x3 then 0 else 1) = 0 := u
        rw [u', if_neg (show ¬ x3 < 0 from i1), if_neg (show ¬ x3 ≤ 10 from fun q => lt_le.mp i2 q), if_pos rfl]
        exact ⟨_, _, _, rfl, rfl, h.rel⟩
      · have u' : (if nI x < 0 then (0 : Int32) else if 10 < nI x then 0 else 1) = 1 := u
        have e10 : f6_flood_l43 (nI w) (nI n) (nI x) x4 FU 1 0 C = f6_flood_l65 (nI w) (nI n) (nI x) x4 (nI (10 ^ n)) FU 0 0 C := fl_10 (nI w) (nI x) x4 h2 FU 0 (by omega) (by show n < 0 + 100; omega)
        obtain ⟨v, C', S', q1, q2, q3⟩ := fl_l h hk x4 hw h2 i2 FU 0 0 C S (Nat.zero_le _) (by
          have : ∀ n, n < 7 → 2 ^ n < 0 + 100 := by decide
          exact this n (by omega)) (Nat.zero_le _) (Lk.rf C S)
        rw [u', if_neg (show ¬ nI x < 0 from nI_pos (by omega)), if_pos (show nI x ≤ 10 from nI_le (b := 10) i2 (by omega)), if_neg (show ¬ (1 : Int32) = 0 by decide), e10]
        exact ⟨_, _, _, q1, q2, h.lkr q3⟩

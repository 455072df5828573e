/-! mathematics: told doings judged; years -/
theorem doing_l {pl : Nat} (hpl : pl < 4) : ∀ (m n y : Nat), m < n → m < 100 → y < 2 ^ 31 → f6_doingOf_l7 (nI pl) n (nI y) (nI (pl + m)) = some (nI (y / 100 ^ m % 100)) := by
  intro m
  induction m with
  | zero =>
    intro n y hn _ hy
    cases n with
    | zero => omega
    | succ n =>
      rw [f6_doingOf_l7, Nat.add_zero, if_pos (nI_le (Nat.le_refl _) (by omega)), if_pos (nI_pos' (by omega)), Nat.pow_zero, Nat.div_one]
      exact congrArg some (pk_rem (d := 100) hy (by omega) (by decide))
  | succ m ih =>
    intro n y hn hm hy
    cases n with
    | zero => omega
    | succ n =>
      rw [f6_doingOf_l7, if_neg (nI_ge (by omega) (by omega))]
      have e : nI (pl + (m + 1)) + (-1) = nI (pl + m) := pk_m1 (pl + m)
      have e2 : nI y / 100 = nI (y / 100) := pk_div (d := 100) hy (by omega) (by decide)
      simp only [bd]
      rw [e, e2, ih n (y / 100) (by omega) (by omega) (by omega), Nat.div_div_eq_div_mul, Nat.pow_succ, Nat.mul_comm 100]
theorem doing_m : ∀ (m n y : Nat), m + 1 < n → m < 100 → y < 2 ^ 31 → f6_doingOf_l7 (-1) n (nI y) (nI m) = some (nI (y / 100 ^ (m + 1))) := by
  intro m
  induction m with
  | zero =>
    intro n y hn _ hy
    cases n with
    | zero => omega
    | succ n =>
      cases n with
      | zero => omega
      | succ n =>
        have e2 : nI y / 100 = nI (y / 100) := pk_div (d := 100) hy (by omega) (by decide)
        rw [f6_doingOf_l7, if_neg (show ¬ nI 0 ≤ -1 by decide)]
        simp only [bd]
        rw [show nI 0 + (-1) = -1 by decide, f6_doingOf_l7, if_pos (show (-1 : Int32) ≤ -1 by decide), if_neg (show ¬ (0 : Int32) ≤ -1 by decide), e2]
  | succ m ih =>
    intro n y hn hm hy
    cases n with
    | zero => omega
    | succ n =>
      have e : nI (m + 1) + (-1) = nI m := pk_m1 m
      have e2 : nI y / 100 = nI (y / 100) := pk_div (d := 100) hy (by omega) (by decide)
      have e3 : ¬ nI (m + 1) ≤ -1 := by
        rw [Int32.le_iff_toInt_le, nI_toInt (by omega)]
        have : (-1 : Int32).toInt = -1 := by decide
        omega
      rw [f6_doingOf_l7, if_neg e3]
      simp only [bd]
      rw [e, e2, ih n (y / 100) (by omega) (by omega) (by omega), Nat.div_div_eq_div_mul, Nat.pow_succ 100 (m + 1), Nat.mul_comm 100]
theorem pow_all : ∀ n, n < 5 → f7_power 100 (nI n) = some (nI (100 ^ n)) := by decide +kernel
theorem judge_l {k nJ nP nW : Nat} {d : Nat → Nat → Nat} {C0 : Cs} {S0 : MS} (h0 : RelN k nJ nP nW d C0 S0) {m r : Nat} (h1 : 1 ≤ m) (h4 : m ≤ 4) (hr : r < 2 ^ 31) : ∀ (n i K : Nat) (C : Cs) (S : MS), i ≤ m → m < i + n → K + (m - i) < 2 ^ 31 → Lk C0 C S0 S → TrB K nJ nW C S → ∃ (v : Int32) (C' : Cs) (S' : MS), f6_judge_l39 (nI m) (nI r) n (nI i) C = some (v, C') ∧ f7_judge_l39 (nI m) (nI r) n (nI i) S = some (v, S') ∧ Lk C0 C' S0 S' := by
  intro n
  induction n with
  | zero => intro i K C S h1 h2; omega
  | succ n ih =>
    intro i K C S hi1 hi2 hK g ht
    rw [f6_judge_l39, f7_judge_l39]
    by_cases hi : i < m
    · have e1 : f6_doingOf (nI r) (nI m) (nI i) = some (nI (r / 100 ^ (m - 1 - i) % 100)) := by
        unfold f6_doingOf
        simp only [bd]
        rw [show nI m - 1 = nI (m - 1) from pk_sub (b := 1) h1]
        have := doing_l (pl := i) (by omega) (m - 1 - i) FU r (by show _ < 100; omega) (by omega) hr
        rw [show i + (m - 1 - i) = m - 1 by omega] at this
        exact this
      have e2 : nI m - 1 - nI i = nI (m - 1 - i) := by
        rw [show nI m - 1 = nI (m - 1) from pk_sub (b := 1) h1, pk_sub (by omega)]
      have hp : 0 < 100 ^ (m - 1 - i) := Nat.pow_pos (by omega)
      have hp2 : 100 ^ (m - 1 - i) < 2 ^ 31 := Nat.lt_of_le_of_lt (Nat.pow_le_pow_right (by omega) (show m - 1 - i ≤ 4 by omega)) (by decide)
      have e3 : zdv (nI r) (nI (100 ^ (m - 1 - i))) = some (nI (r / 100 ^ (m - 1 - i))) := by
        unfold zdv
        rw [if_neg (nI_ne0 hp hp2), pk_div hr hp hp2]
      have hq : r / 100 ^ (m - 1 - i) < 2 ^ 31 := Nat.lt_of_le_of_lt (Nat.div_le_self _ _) hr
      have e4 : nI (r / 100 ^ (m - 1 - i)) - nI (r / 100 ^ (m - 1 - i)) / 100 * 100 = nI (r / 100 ^ (m - 1 - i) % 100) := pk_rem (d := 100) hq (by omega) (by decide)
      have hv : r / 100 ^ (m - 1 - i) % 100 < 100 := Nat.mod_lt _ (by omega)
      rw [if_neg (nI_ge hi (by omega)), if_neg (nI_ge hi (by omega)), e1, ob, e2, pow_all _ (by omega), ob, e3, ob, e4]
      simp only [bd]
      generalize r / 100 ^ (m - 1 - i) % 100 = q at hv
      have e5 : nI q / 10 = nI (q / 10) := pk_div (d := 10) (by omega) (by omega) (by decide)
      have e6 : nI q - nI q / 10 * 10 = nI (q % 10) := pk_rem (d := 10) (by omega) (by omega) (by decide)
      rw [e6, e5]
      obtain ⟨v, C', S', t1, t2, t3, t4⟩ := tried (h0.lk g) (by omega) ht (a := q / 10) (b := q % 10) (by omega) (by omega)
      rw [t1, ob, t2, ob, nI_1]
      by_cases hz : v = 0
      · subst hz
        exact ⟨_, _, _, rfl, rfl, g.tr t3⟩
      · obtain ⟨v', C2, S2, q1, q2, q3⟩ := ih (i + 1) (K + 1) C' S' (by omega) (by omega) (by omega) (g.tr t3) (t4 hz)
        refine ⟨v', C2, S2, ?_, ?_, q3⟩
        · show (if v = 0 then _ else _) = _
          rw [if_neg hz]
          exact q1
        · show (if v = 0 then _ else _) = _
          rw [if_neg hz]
          exact q2
    · have e : i = m := by omega
      subst e
      rw [if_pos (nI_le (Nat.le_refl _) (by omega)), if_pos (nI_le (Nat.le_refl _) (by omega))]
      exact ⟨_, _, _, rfl, rfl, g⟩
theorem r_judge (k : Nat) (C : Cs) (S : MS) (x1 x2 : Int32) (hk : k < 64) (h : Rel k C S) : ∃ (r : Int32) (C2 : Cs) (S2 : MS), f6_judge C x1 x2 = some (r, C2) ∧ f7_judge S x1 x2 = some (r, S2) ∧ Rel (k + 1) C2 S2 := by
  obtain ⟨nJ, nP, nW, d, h⟩ := h
  unfold f6_judge f7_judge
  rw [in_lit x1 1 4 1 4 (by decide) (by decide)]
  rcases rg_eq x1 (lo := 1) (hi := 4) (by omega) (by omega) with ⟨h1, e⟩ | ⟨h1, h2, e⟩ | ⟨m, h1, h2, rfl, e⟩
  · have e' : (if x1 < 1 then (0 : Int32) else if 4 < x1 then 0 else 1) = 0 := e
    rw [if_pos (show x1 < 1 from h1), e', if_pos rfl]
    exact ⟨_, _, _, rfl, rfl, h.rel⟩
  · have e' : (if x1 < 1 then (0 : Int32) else if 4 < x1 then 0 else 1) = 0 := e
    rw [if_neg (show ¬ x1 < 1 from h1), if_pos (show 4 < x1 from h2), e', if_pos rfl]
    exact ⟨_, _, _, rfl, rfl, h.rel⟩
  · have e' : (if nI m < 1 then (0 : Int32) else if 4 < nI m then 0 else 1) = 1 := e
    have g1 : ¬ nI m < 1 := nI_nlt (b := 1) h1 (by omega)
    have g2 : ¬ 4 < nI m := nI_nlt (a := 4) h2 (by omega)
    have hp : 0 < 100 ^ m := Nat.pow_pos (by omega)
    have hp2 : 100 ^ m < 2 ^ 31 := Nat.lt_of_le_of_lt (Nat.pow_le_pow_right (by omega) (show m ≤ 4 by omega)) (by decide)
    rw [e', if_neg (show ¬ (1 : Int32) = 0 by decide), if_neg g1, if_neg g2, pow_all m (by omega), ob, in_lit x2 0 (nI (100 ^ m) - 1) 0 _ (by decide) rfl, show nI (100 ^ m) - 1 = nI (100 ^ m - 1) from pk_sub (b := 1) (by omega)]
    by_cases hx : x2 < 0
    · rw [if_pos hx, if_pos hx, if_pos rfl]
      exact ⟨_, _, _, rfl, rfl, h.rel⟩
    · obtain ⟨r, hr, rfl⟩ := nI_of hx
      have ed : f6_doingOf (nI r) (nI m) (-1) = some (nI (r / 100 ^ m)) := by
        unfold f6_doingOf
        simp only [bd]
        rw [show nI m - 1 = nI (m - 1) from pk_sub (b := 1) h1]
        have := doing_m (m - 1) FU r (by show _ < 100; omega) (by omega) hr
        rw [show m - 1 + 1 = m by omega] at this
        exact this
      rw [if_neg hx, if_neg hx, ed, ob]
      by_cases hq : r < 100 ^ m
      · have e0 : r / 100 ^ m = 0 := Nat.div_eq_of_lt hq
        obtain ⟨M1, S1, l1, l2, l3, l4⟩ := lay1 h
        obtain ⟨v, C', S', q1, q2, q3⟩ := judge_l h h1 h2 hr FU 0 k _ _ (by omega) (by show m < 0 + 100; omega) (by omega) l3 l4
        rw [e0, if_pos (show nI 0 ≤ 0 by decide), if_neg (show ¬ nI (100 ^ m - 1) < nI r from nI_nlt (by omega) (by omega)), if_neg (show ¬ (1 : Int32) = 0 by decide), l1, ob, l2, ob]
        simp only [bd]
        exact ⟨_, _, _, q1, q2, h.lkr q3⟩
      · have e0 : 0 < r / 100 ^ m := Nat.div_pos (by omega) hp
        have e1 : r / 100 ^ m < 2 ^ 31 := Nat.lt_of_le_of_lt (Nat.div_le_self _ _) hr
        rw [if_neg (nI_nle e0 e1), if_pos (show nI (100 ^ m - 1) < nI r from nI_lt (by omega) hr), if_pos rfl]
        exact ⟨_, _, _, rfl, rfl, h.rel⟩
theorem bit_neg {v : Int32} (h : v < 0) : f6_bit v = 0 := by
  unfold f6_bit
  rw [if_pos h]
theorem ones_all : ∀ s, s < 64 → f7_ones (nI s) = some (f6_bitCount_0f7a4 (nI s)) := by decide +kernel
theorem sI_self {β : Type} {S : (Nat → Int32) × β} {k : Nat} : sI S k (S.1 k) = S := by
  have e : upd S.1 k (S.1 k) = S.1 := by
    funext j
    by_cases hj : j = k
    · subst hj; rw [up_s]
    · rw [up_n hj]
  show (upd S.1 k (S.1 k), S.2) = S
  rw [e]

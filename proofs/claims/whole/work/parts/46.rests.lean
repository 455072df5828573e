/-! mathematics: two mothers at lids -/
theorem gain_eq {M : Mo} {S : MS} {K nJ nW p q j e : Nat} (hW : nW ≤ 4) (hJ : nJ ≤ 6) (hM : MomR K nJ nW M (S.2.1 11) (19 * 1)) (hp : p < nW) (hq : q < nW) (hj : j < nJ) : f7_gain S (nI p) (nI q) (nI j) (nI e) = some (f6_gain (nI j) (nI e) (f2_outAt M (nI p)) (f2_outAt M (nI q))) := by
  have piece : ∀ (x : Nat) (c : Int32), x < nW → (f7_isOut S 1 (nI x)).bind (fun v3 => (if v3 = 0 then some 0 else (zrd (S.2.1 11) 38 (19 + nI x)).bind fun v7 => if v7 = nI j then some c else some 0 : Option Int32)) = some (if nI j = f2_outAt M (nI x) then c else 0) := by
    intro x c hx
    obtain ⟨⟨a, ha, m0, s0⟩, -, -, so⟩ := hM.1 x hx
    have eo : f7_isOut S 1 (nI x) = some (if bt (M.1 5) x then 1 else 0) := isout_eq (pl := 1) (by omega) (by omega) so
    have er : zrd (S.2.1 11) 38 (19 + nI x) = some (nI a) := by
      rw [show (19 : Int32) + nI x = nI (19 + x) from nI_add 19 x, rd_ok (by omega) (by decide)]
      exact congrArg some s0
    rw [eo, ob, er, ob]
    unfold f2_outAt
    rw [h6_eq (by omega), cell_ok (by omega) (by decide), m0]
    cases bt (M.1 5) x
    · rw [if_neg (show ¬ (false : Bool) = true by decide), if_pos rfl, if_pos rfl, if_neg (n9_ne (by omega))]
    · have e1 : ¬ ((if (true : Bool) = true then (1 : Int32) else 0) = 0) := by decide
      rw [if_neg e1, if_neg e1]
      by_cases hh : nI a = nI j
      · rw [if_pos hh, if_pos hh.symm]
      · rw [if_neg hh, if_neg (fun q => hh q.symm)]
  have p1 := piece p 3 hp
  have p2 := piece q 2 hq
  have as : ∀ {α β γ : Type} (o : Option α) (f : α → Option β) (g : β → Option γ), (o.bind fun a => (f a).bind g) = (o.bind f).bind g := by
    intro α β γ o f g
    cases o <;> rfl
  unfold f7_gain f6_gain
  rw [bdk, bdk, bdk, bdk, as, p1, ob, bdk, as, p2, ob]
  by_cases c1 : nI j = nI e
  · rw [if_pos c1, if_pos c1]
    by_cases c2 : nI j = f2_outAt M (nI p)
    · rw [if_pos c2]
      by_cases c3 : nI j = f2_outAt M (nI q)
      · rw [if_pos c3]; decide
      · rw [if_neg c3]; decide
    · rw [if_neg c2]
      by_cases c3 : nI j = f2_outAt M (nI q)
      · rw [if_pos c3]; decide
      · rw [if_neg c3]; decide
  · rw [if_neg c1, if_neg c1]
    by_cases c2 : nI j = f2_outAt M (nI p)
    · rw [if_pos c2]
      by_cases c3 : nI j = f2_outAt M (nI q)
      · rw [if_pos c3]; decide
      · rw [if_neg c3]; decide
    · rw [if_neg c2]
      by_cases c3 : nI j = f2_outAt M (nI q)
      · rw [if_pos c3]; decide
      · rw [if_neg c3]; decide
theorem best_l {C : Cs} {nJ : Nat} (hJ : nJ ≤ 6) (n2 : C.2.2.2.2.2.1.1.1 2 = nI nJ) (x2 x3 x4 v1 : Int32) : ∀ (n i : Nat), i ≤ nJ → nJ < i + n → ∃ b : Bool, f6_isBest_l13 x2 x3 x4 v1 C n (nI i) = some (if b then 1 else 0) ∧ (b = true ↔ ∀ j, i ≤ j → j < nJ → bt (C.2.2.2.2.2.1.1.1 5) j = true → f6_gain (nI j) x2 x3 x4 ≤ v1) := by
  intro n
  induction n with
  | zero => intro i h1 h2; omega
  | succ n ih =>
    intro i h1 h2
    rw [f6_isBest_l13, n2]
    by_cases hi : i < nJ
    · obtain ⟨b, b1, b2⟩ := ih (i + 1) (by omega) (by omega)
      rw [if_neg (nI_ge hi (by omega)), h6_eq (by omega), nI_1]
      cases hl : bt (C.2.2.2.2.2.1.1.1 5) i
      · rw [if_neg (show ¬ (false : Bool) = true by decide), if_pos rfl]
        refine ⟨b, b1, b2.trans ⟨fun q j h1 h2 h3 => ?_, fun q j h1 h2 h3 => q j (by omega) h2 h3⟩⟩
        by_cases e : j = i
        · subst e; rw [hl] at h3; cases h3
        · exact q j (by omega) h2 h3
      · rw [if_neg (show ¬ ((if (true : Bool) = true then (1 : Int32) else 0) = 0) by decide)]
        by_cases hg : f6_gain (nI i) x2 x3 x4 ≤ v1
        · rw [if_pos hg]
          refine ⟨b, b1, b2.trans ⟨fun q j h1 h2 h3 => ?_, fun q j h1 h2 h3 => q j (by omega) h2 h3⟩⟩
          by_cases e : j = i
          · subst e; exact hg
          · exact q j (by omega) h2 h3
        · rw [if_neg hg]
          exact ⟨false, rfl, ⟨fun q => (by cases q), fun q => absurd (q i (Nat.le_refl _) hi hl) hg⟩⟩
    · have e : i = nJ := by omega
      subst e
      rw [if_pos (nI_le (Nat.le_refl _) (by omega))]
      exact ⟨true, rfl, ⟨fun _ j h1 h2 => by omega, fun _ => rfl⟩⟩
theorem rest_l {N M : Mo} {S : MS} {nJ nP nW K p q a b : Nat} {d : Nat → Nat → Nat} (hN : NetR N S nJ nP nW d) (hM : MomR K nJ nW M (S.2.1 11) (19 * 1)) (hp : p < nW) (hq : q < nW) (ha : a < nJ) (hb' : b < nJ) : ∀ (n i : Nat) (t : Bool), i ≤ nJ → nJ < i + n →
    ∃ c : Bool, f7_isRest_l6 (nI p) (nI q) (nI a) (nI b) S n (if t then 1 else 0) (nI i) = some (if c then 1 else 0) ∧ (c = true ↔ t = true ∧ ∀ j, i ≤ j → j < nJ → bt (N.1 5) j = true → f6_gain (nI j) (nI b) (f2_outAt M (nI p)) (f2_outAt M (nI q)) ≤ f6_gain (nI a) (nI b) (f2_outAt M (nI p)) (f2_outAt M (nI q)) ∧ f6_gain (nI j) (nI a) (f2_outAt M (nI q)) (f2_outAt M (nI p)) ≤ f6_gain (nI b) (nI a) (f2_outAt M (nI q)) (f2_outAt M (nI p))) := by
  have hb := hN.1
  have e1 : ¬ ((if (true : Bool) = true then (1 : Int32) else 0) = 0) := by decide
  have e0 : (if (false : Bool) = true then (1 : Int32) else 0) = 0 := by decide
  intro n
  induction n with
  | zero => intro i t h1 h2; omega
  | succ n ih =>
    intro i t h1 h2
    rw [f7_isRest_l6, hN.2.2.1.1]
    by_cases hi : i < nJ
    · rw [if_neg (nI_ge hi (by omega)), rd_ok (by omega) (by decide), ob, hN.2.2.2.2.2.1 i hi, gain_eq hb.2.2 hb.1 hM hp hq hi, ob, gain_eq hb.2.2 hb.1 hM hp hq ha, ob, gain_eq hb.2.2 hb.1 hM hq hp hi, ob, gain_eq hb.2.2 hb.1 hM hq hp hb', ob, nI_1]
      cases hl : bt (N.1 5) i
      · rw [e0, if_neg (show ¬ (0 : Int32) = 1 by decide)]
        obtain ⟨c, c1, c2⟩ := ih (i + 1) t (by omega) (by omega)
        refine ⟨c, c1, c2.trans ⟨fun z => ⟨z.1, fun j h1 h2 h3 => ?_⟩, fun z => ⟨z.1, fun j h1 h2 h3 => z.2 j (by omega) h2 h3⟩⟩⟩
        by_cases e : j = i
        · subst e; rw [hl] at h3; cases h3
        · exact z.2 j (by omega) h2 h3
      · rw [if_pos (show (if (true : Bool) = true then (1 : Int32) else 0) = 1 by decide)]
        cases t
        · rw [e0, if_pos rfl, ob]
          obtain ⟨c, c1, c2⟩ := ih (i + 1) false (by omega) (by omega)
          rw [e0] at c1
          exact ⟨c, c1, ⟨fun z => absurd (c2.mp z).1 (by decide), fun z => absurd z.1 (by decide)⟩⟩
        · rw [if_neg e1]
          by_cases g1 : f6_gain (nI a) (nI b) (f2_outAt M (nI p)) (f2_outAt M (nI q)) < f6_gain (nI i) (nI b) (f2_outAt M (nI p)) (f2_outAt M (nI q))
          · rw [if_pos g1, ob]
            obtain ⟨c, c1, c2⟩ := ih (i + 1) false (by omega) (by omega)
            rw [e0] at c1
            exact ⟨c, c1, ⟨fun z => absurd (c2.mp z).1 (by decide), fun z => absurd (z.2 i (Nat.le_refl _) hi hl).1 (lt_le.mp g1)⟩⟩
          · rw [if_neg g1]
            by_cases g2 : f6_gain (nI b) (nI a) (f2_outAt M (nI q)) (f2_outAt M (nI p)) < f6_gain (nI i) (nI a) (f2_outAt M (nI q)) (f2_outAt M (nI p))
            · rw [if_pos g2, ob]
              obtain ⟨c, c1, c2⟩ := ih (i + 1) false (by omega) (by omega)
              rw [e0] at c1
              exact ⟨c, c1, ⟨fun z => absurd (c2.mp z).1 (by decide), fun z => absurd (z.2 i (Nat.le_refl _) hi hl).2 (lt_le.mp g2)⟩⟩
            · rw [if_neg g2, ob]
              obtain ⟨c, c1, c2⟩ := ih (i + 1) true (by omega) (by omega)
              refine ⟨c, c1, c2.trans ⟨fun z => ⟨rfl, fun j h1 h2 h3 => ?_⟩, fun z => ⟨rfl, fun j h1 h2 h3 => z.2 j (by omega) h2 h3⟩⟩⟩
              by_cases e : j = i
              · subst e
                exact ⟨Classical.byContradiction (fun w => g1 (lt_le.mpr w)), Classical.byContradiction (fun w => g2 (lt_le.mpr w))⟩
              · exact z.2 j (by omega) h2 h3
    · have e : i = nJ := by omega
      subst e
      rw [if_pos (nI_le (Nat.le_refl _) (by omega)), zbo_b, ob]
      exact ⟨t, rfl, ⟨fun z => ⟨z, fun j h1 h2 => by omega⟩, fun z => z.1⟩⟩
theorem atrest {C : Cs} {S : MS} {nJ nP nW K p q a b : Nat} {d : Nat → Nat → Nat} (hN : NetR C.2.2.2.2.2.1.1 S nJ nP nW d) {M : Mo} (hM : MomR K nJ nW M (S.2.1 11) (19 * 1)) (hp : p < nW) (hq : q < nW) (ha : a < nJ) (hb' : b < nJ) :
    ∃ c : Bool, f6_isAtRest C (nI a) (nI b) (f2_outAt M (nI p)) (f2_outAt M (nI q)) = some (if c then 1 else 0) ∧ ∀ (L1 L2 : Option (Int32 × MS)), ((zrd (S.2.1 6) 6 (nI a)).bind fun v15 => if v15 = 1 then (zrd (S.2.1 6) 6 (nI b)).bind fun v17 => if v17 = 1 then (f7_isRest S (nI p) (nI q) (nI a) (nI b)).bind fun v19 => if v19 = 0 then L1 else L2 else L1 else L1) = if c then L2 else L1 := by
  have hb := hN.1
  have e1 : ¬ ((if (true : Bool) = true then (1 : Int32) else 0) = 0) := by decide
  have e0 : (if (false : Bool) = true then (1 : Int32) else 0) = 0 := by decide
  obtain ⟨b1, x1, x2⟩ := best_l (C := C) hb.1 hN.2.1.1 (nI b) (f2_outAt M (nI p)) (f2_outAt M (nI q)) (f6_gain (nI a) (nI b) (f2_outAt M (nI p)) (f2_outAt M (nI q))) FU 0 (by omega) (by show nJ < 0 + 100; omega)
  obtain ⟨b2, y1, y2⟩ := best_l (C := C) hb.1 hN.2.1.1 (nI a) (f2_outAt M (nI q)) (f2_outAt M (nI p)) (f6_gain (nI b) (nI a) (f2_outAt M (nI q)) (f2_outAt M (nI p))) FU 0 (by omega) (by show nJ < 0 + 100; omega)
  obtain ⟨c, c1, c2⟩ := rest_l hN hM hp hq ha hb' FU 0 true (by omega) (by show nJ < 0 + 100; omega)
  have x1' : f6_isBest C (nI a) (nI b) (f2_outAt M (nI p)) (f2_outAt M (nI q)) = some (if b1 then 1 else 0) := by
    unfold f6_isBest
    rw [bdk]
    exact x1
  have y1' : f6_isBest C (nI b) (nI a) (f2_outAt M (nI q)) (f2_outAt M (nI p)) = some (if b2 then 1 else 0) := by
    unfold f6_isBest
    rw [bdk]
    exact y1
  have c1' : f7_isRest S (nI p) (nI q) (nI a) (nI b) = some (if c then 1 else 0) := c1
  have hc : c = (b1 && b2) := by
    apply Bool.eq_iff_iff.mpr
    rw [Bool.and_eq_true, c2, x2, y2]
    constructor
    · rintro ⟨-, z⟩
      exact ⟨fun j h1 h2 h3 => (z j h1 h2 h3).1, fun j h1 h2 h3 => (z j h1 h2 h3).2⟩
    · rintro ⟨z1, z2⟩
      exact ⟨rfl, fun j h1 h2 h3 => ⟨z1 j h1 h2 h3, z2 j h1 h2 h3⟩⟩
  refine ⟨bt (C.2.2.2.2.2.1.1.1 5) a && bt (C.2.2.2.2.2.1.1.1 5) b && c, ?_, fun L1 L2 => ?_⟩
  · unfold f6_isAtRest
    rw [h6_eq (by omega), h6_eq (by omega), x1', ob, y1', ob, hc]
    cases bt (C.2.2.2.2.2.1.1.1 5) a
    · rfl
    · cases bt (C.2.2.2.2.2.1.1.1 5) b
      · rfl
      · cases b1
        · rfl
        · cases b2 <;> rfl
  · rw [rd_ok (by omega) (by decide), ob, rd_ok (by omega) (by decide), ob, hN.2.2.2.2.2.1 a ha, hN.2.2.2.2.2.1 b hb', c1', ob]
    cases bt (C.2.2.2.2.2.1.1.1 5) a
    · rfl
    · cases bt (C.2.2.2.2.2.1.1.1 5) b
      · rfl
      · cases c <;> rfl
theorem rests_in {C : Cs} {S : MS} {nJ nP nW K p q a : Nat} {d : Nat → Nat → Nat} (x3 : Int32) (hN : NetR C.2.2.2.2.2.1.1 S nJ nP nW d) {M : Mo} (hM : MomR K nJ nW M (S.2.1 11) (19 * 1)) (hp : p < nW) (hq : q < nW) (ha : a < nJ) : ∀ (n b : Nat) (y7 y8 : Int32), b ≤ nJ → nJ < b + n →
    ∃ y7' y8' : Int32, (∀ kk : Int32 → Int32 → Int32 → Cs → Option (Int32 × Cs), f6_rests_l84 (f2_outAt M (nI p)) (f2_outAt M (nI q)) (nI a) kk n y7 y8 (nI b) C = kk y7' y8' (nI a + 1) C) ∧ (∀ N' : Nat, f7_rests_l56 (nI p) (nI q) x3 (N' + (nJ - b)) y7 y8 (nI (nJ * a + b)) S = f7_rests_l56 (nI p) (nI q) x3 N' y7' y8' (nI (nJ * a + nJ)) S) := by
  have hb := hN.1
  have hs : nJ * a + nJ ≤ nJ * nJ := by
    have : nJ * (a + 1) ≤ nJ * nJ := Nat.mul_le_mul_left _ (by omega)
    rw [Nat.mul_add, Nat.mul_one] at this
    exact this
  have hs2 : nJ * nJ ≤ 6 * 6 := Nat.mul_le_mul hb.1 hb.1
  have e1 : ¬ ((if (true : Bool) = true then (1 : Int32) else 0) = 0) := by decide
  have e0 : (if (false : Bool) = true then (1 : Int32) else 0) = 0 := by decide
  intro n
  induction n with
  | zero => intro b y7 y8 h1 h2; omega
  | succ n ih =>
    intro b y7 y8 h1 h2
    by_cases hi : b < nJ
    · obtain ⟨c, c1, c2⟩ := atrest hN hM hp hq ha hi
      have d1 : (nJ * a + b) / nJ = a := by
        rw [Nat.mul_add_div (by omega), Nat.div_eq_of_lt hi, Nat.add_zero]
      have d2 : (nJ * a + b) % nJ = b := by
        rw [Nat.mul_add_mod, Nat.mod_eq_of_lt hi]
      have z1 : zdv (nI (nJ * a + b)) (nI nJ) = some (nI a) := by
        unfold zdv
        rw [if_neg (nI_ne0 (by omega) (by omega)), pk_div (by omega) (by omega) (by omega), d1]
      have z2 : zrm (nI (nJ * a + b)) (nI nJ) = some (nI b) := by
        rw [zrm_ok (by omega) (by omega) (by omega), d2]
      have key : ∀ N' : Nat, f7_rests_l56 (nI p) (nI q) x3 (N' + (nJ - b)) y7 y8 (nI (nJ * a + b)) S = if c then f7_rests_l56 (nI p) (nI q) x3 (N' + (nJ - (b + 1))) (y7 + 1) (if y7 = 0 then 10 * nI a + nI b else y8) (nI (nJ * a + (b + 1))) S else f7_rests_l56 (nI p) (nI q) x3 (N' + (nJ - (b + 1))) y7 y8 (nI (nJ * a + (b + 1))) S := by
        intro N'
        rw [show N' + (nJ - b) = N' + (nJ - (b + 1)) + 1 by omega, f7_rests_l56, hN.2.2.1.1, pk_mul, if_neg (nI_ge (by omega) (by omega)), z1, ob, z2, ob, nI_1]
        exact c2 _ _
      have hA : ∀ kk : Int32 → Int32 → Int32 → Cs → Option (Int32 × Cs), f6_rests_l84 (f2_outAt M (nI p)) (f2_outAt M (nI q)) (nI a) kk (n + 1) y7 y8 (nI b) C = if c then f6_rests_l84 (f2_outAt M (nI p)) (f2_outAt M (nI q)) (nI a) kk n (y7 + 1) (if y7 = 0 then 10 * nI a + nI b else y8) (nI (b + 1)) C else f6_rests_l84 (f2_outAt M (nI p)) (f2_outAt M (nI q)) (nI a) kk n y7 y8 (nI (b + 1)) C := by
        intro kk
        rw [f6_rests_l84, hN.2.1.1, if_neg (nI_ge hi (by omega)), c1, ob, bdk, nI_1]
        cases c
        · rw [e0, if_pos rfl]
          rfl
        · rw [if_neg e1, if_pos rfl]
          by_cases hy : y7 = 0
          · rw [if_pos hy, if_pos hy]
          · rw [if_neg hy, if_neg hy]
      cases c
      · obtain ⟨y7', y8', r1, r2⟩ := ih (b + 1) y7 y8 (by omega) (by omega)
        refine ⟨y7', y8', fun kk => ?_, fun N' => ?_⟩
        · rw [hA]; exact r1 kk
        · rw [key]; exact r2 N'
      · obtain ⟨y7', y8', r1, r2⟩ := ih (b + 1) (y7 + 1) (if y7 = 0 then 10 * nI a + nI b else y8) (by omega) (by omega)
        refine ⟨y7', y8', fun kk => ?_, fun N' => ?_⟩
        · rw [hA]; exact r1 kk
        · rw [key]; exact r2 N'
    · have e : b = nJ := by omega
      subst e
      refine ⟨y7, y8, fun kk => ?_, fun N' => ?_⟩
      · rw [f6_rests_l84, hN.2.1.1, if_pos (nI_le (Nat.le_refl _) (by omega))]
      · rw [Nat.sub_self, Nat.add_zero]
theorem rests_out {C : Cs} {S : MS} {nJ nP nW K p q : Nat} {d : Nat → Nat → Nat} (x3 : Int32) (hN : NetR C.2.2.2.2.2.1.1 S nJ nP nW d) {M : Mo} (hM : MomR K nJ nW M (S.2.1 11) (19 * 1)) (hp : p < nW) (hq : q < nW) : ∀ (n a : Nat) (y7 y8 : Int32) (N' : Nat), a ≤ nJ → nJ < a + n → nJ * nJ < nJ * a + N' →
    ∃ v : Int32, f6_rests_l69 x3 (f2_outAt M (nI p)) (f2_outAt M (nI q)) n y7 y8 (nI a) C = some (v, C) ∧ f7_rests_l56 (nI p) (nI q) x3 N' y7 y8 (nI (nJ * a)) S = some (v, S) := by
  have hb := hN.1
  intro n
  induction n with
  | zero => intro a y7 y8 N' h1 h2; omega
  | succ n ih =>
    intro a y7 y8 N' h1 h2 h3
    rw [f6_rests_l69, hN.2.1.1]
    by_cases hi : a < nJ
    · have hs : nJ * a + nJ ≤ nJ * nJ := by
        have : nJ * (a + 1) ≤ nJ * nJ := Nat.mul_le_mul_left _ (by omega)
        rw [Nat.mul_add, Nat.mul_one] at this
        exact this
      obtain ⟨y7', y8', r1, r2⟩ := rests_in x3 hN hM hp hq hi FU 0 y7 y8 (by omega) (by show nJ < 0 + 100; omega)
      have r1' := r1 (fun y8 y9 y10 C11 => f6_rests_l69 x3 (f2_outAt M (nI p)) (f2_outAt M (nI q)) n y8 y9 y10 C11)
      rw [nI_1] at r1'
      have r1'' : f6_rests_l84 (f2_outAt M (nI p)) (f2_outAt M (nI q)) (nI a) (fun y8 y9 y10 C11 => f6_rests_l69 x3 (f2_outAt M (nI p)) (f2_outAt M (nI q)) n y8 y9 y10 C11) FU y7 y8 0 C = f6_rests_l69 x3 (f2_outAt M (nI p)) (f2_outAt M (nI q)) n y7' y8' (nI (a + 1)) C := r1'
      have r2' := r2 (N' - nJ)
      rw [show N' - nJ + (nJ - 0) = N' by omega, Nat.add_zero] at r2'
      rw [if_neg (nI_ge hi (by omega)), r1'', r2']
      have := ih (a + 1) y7' y8' (N' - nJ) (by omega) (by omega) (by rw [Nat.mul_add, Nat.mul_one]; omega)
      rw [Nat.mul_add, Nat.mul_one] at this
      exact this
    · have e : a = nJ := by omega
      subst e
      cases N' with
      | zero => omega
      | succ N' =>
        have hs2 : a * a ≤ 6 * 6 := Nat.mul_le_mul hb.1 hb.1
        rw [if_pos (nI_le (Nat.le_refl _) (by omega)), f7_rests_l56, hN.2.2.1.1, pk_mul, if_pos (nI_le (Nat.le_refl _) (by omega))]
        by_cases hx : x3 = 0
        · rw [if_pos hx, if_pos hx]
          exact ⟨_, rfl, rfl⟩
        · rw [if_neg hx, if_neg hx]
          exact ⟨_, rfl, rfl⟩
theorem r_rests (k : Nat) (C : Cs) (S : MS) (x1 x2 x3 : Int32) (hk : k < 64) (h : Rel k C S) : ∃ (r : Int32) (C2 : Cs) (S2 : MS), f6_rests C x1 x2 x3 = some (r, C2) ∧ f7_rests S x1 x2 x3 = some (r, S2) ∧ Rel (k + 1) C2 S2 := by
  obtain ⟨nJ, nP, nW, d, h⟩ := h
  have hN := h.1
  have hb := hN.1
  unfold f6_rests f7_rests
  rcases isW hN x1 with ⟨a1, a2⟩ | ⟨a1, a2, p, hp, rfl⟩
  · rw [a1, a2, if_neg (by decide), if_pos rfl]
    exact ⟨_, _, _, rfl, rfl, h.rel⟩
  · rw [a1, a2, if_pos rfl, if_neg (show ¬ (1 : Int32) = 0 by decide)]
    rcases isW hN x2 with ⟨b1, b2⟩ | ⟨b1, b2, q, hq, rfl⟩
    · rw [b1, b2, if_neg (by decide), if_pos rfl]
      exact ⟨_, _, _, rfl, rfl, h.rel⟩
    · rw [b1, b2, if_pos rfl, if_neg (show ¬ (1 : Int32) = 0 by decide)]
      by_cases hpq : nI p = nI q
      · rw [if_pos hpq, if_pos hpq]
        exact ⟨_, _, _, rfl, rfl, h.rel⟩
      · rw [if_neg hpq, if_neg hpq]
        rcases ch_eq x3 with ⟨c1, c2⟩ | ⟨c1, c2, s, hs, hx3⟩
        · rw [c1, c2, if_neg (by decide), if_pos rfl]
          exact ⟨_, _, _, rfl, rfl, h.rel⟩
        · obtain ⟨C', S3, S', t1, t2, t3, t4, t5, t6⟩ := try_eq h (by omega) (x := 40) (by omega)
          have t1' : f6_tryFromNow C 40 = some C' := t1
          have t3' : f7_goTrial S3 40 = some S' := t3
          have hs2 : nJ * nJ ≤ 6 * 6 := Nat.mul_le_mul hb.1 hb.1
          obtain ⟨v, v1, v2⟩ := rests_out x3 (h.lk t4).1 t5 hp hq FU 0 0 (-9) FU (by omega) (by show nJ < 0 + 100; omega) (by show nJ * nJ < nJ * 0 + 100; omega)
          rw [Nat.mul_zero] at v2
          rw [c1, c2, if_pos rfl, if_neg (show ¬ (1 : Int32) = 0 by decide), t1', ob, t2, ob, t3', ob, bdk, bdk]
          exact ⟨_, _, _, v1, v2, h.lkr t4⟩

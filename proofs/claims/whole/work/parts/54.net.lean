/-! mathematics: the net made anew -/
theorem in47 : ∀ i, i < 19 → (if f7_in (nI i).toInt64 4 7 = 0 then (0 : Int32) else (-9)) = if 4 ≤ i ∧ i ≤ 7 then (-9) else 0 := by decide +kernel
theorem n64_l {S0 : MS} : ∀ (n i : Nat) (S : MS), i ≤ 19 → 19 < i + n → S.1 = S0.1 → (∀ r, r ≠ 11 → S.2.1 r = S0.2.1 r) → S.2.2 = S0.2.2 → (∀ k, k < i → S.2.1 11 k = if 4 ≤ k ∧ k ≤ 7 then (-9) else 0) → ∃ S', f7_net_l64 n (nI i) S = f7_net_l104 FU 0 S' ∧ S'.1 = S0.1 ∧ (∀ r, r ≠ 11 → S'.2.1 r = S0.2.1 r) ∧ S'.2.2 = S0.2.2 ∧ (∀ k, k < 19 → S'.2.1 11 k = if 4 ≤ k ∧ k ≤ 7 then (-9) else 0) := by
  intro n
  induction n with
  | zero => intro i S h1 h2; omega
  | succ n ih =>
    intro i S h1 h2 h3 h4 h5 h6
    rw [f7_net_l64]
    by_cases hi : i < 19
    · rw [if_neg (show ¬ (19 : Int32) ≤ nI i from nI_ge (b := 19) hi (by decide)), bdk, in47 i hi, wr_ok (by omega) (by decide), ob, bdk, nI_1]
      refine ih (i + 1) _ (by omega) (by omega) h3 (fun r hr => (mA_n hr).trans (h4 r hr)) h5 (fun k hk => ?_)
      rw [mA_s]
      by_cases e : k = i
      · subst e; rw [up_s]
      · rw [up_n e]; exact h6 k (by omega)
    · have e : i = 19 := by omega
      subst e
      rw [if_pos (show (19 : Int32) ≤ nI 19 by decide)]
      exact ⟨S, rfl, h3, h4, h5, h6⟩
theorem n104_l {S0 : MS} {nJ : Nat} (hJ : nJ ≤ 6) (s0 : S0.1 0 = nI nJ) : ∀ (n i : Nat) (S : MS), i ≤ nJ → nJ < i + n → S.1 = S0.1 → (∀ r, r ≠ 5 → r ≠ 6 → S.2.1 r = S0.2.1 r) → S.2.2 = S0.2.2 → (∀ k, k < i → S.2.1 5 k = S0.2.1 12 (2 * k) ∧ S.2.1 6 k = S0.2.1 12 (2 * k + 1)) → ∃ S', f7_net_l104 n (nI i) S = f7_net_l150 FU 0 S' ∧ S'.1 = S0.1 ∧ (∀ r, r ≠ 5 → r ≠ 6 → S'.2.1 r = S0.2.1 r) ∧ S'.2.2 = S0.2.2 ∧ (∀ k, k < nJ → S'.2.1 5 k = S0.2.1 12 (2 * k) ∧ S'.2.1 6 k = S0.2.1 12 (2 * k + 1)) := by
  intro n
  induction n with
  | zero => intro i S h1 h2; omega
  | succ n ih =>
    intro i S h1 h2 h3 h4 h5 h6
    rw [f7_net_l104, h3, s0]
    by_cases hi : i < nJ
    · rw [if_neg (nI_ge hi (by omega)), i2, h4 12 (by decide) (by decide), rd_ok (by omega) (by decide), ob, wr_ok (by omega) (by decide), ob, bdk, mA_n (show (12 : Nat) ≠ 5 by decide), h4 12 (by decide) (by decide), nI_1, rd_ok (by omega) (by decide), ob, mA_n (show (6 : Nat) ≠ 5 by decide), wr_ok (by omega) (by decide), ob, bdk, nI_1]
      refine ih (i + 1) _ (by omega) (by omega) h3 (fun r hr hr2 => ?_) h5 (fun k hk => ?_)
      · rw [mA_n hr2, mA_n hr]; exact h4 r hr hr2
      · rw [mA_n (show (5 : Nat) ≠ 6 by decide), mA_s, mA_s]
        by_cases e : k = i
        · subst e; rw [up_s, up_s]; exact ⟨rfl, rfl⟩
        · rw [up_n e, up_n e]; exact h6 k (by omega)
    · have e : i = nJ := by omega
      subst e
      rw [if_pos (nI_le (Nat.le_refl _) (by omega))]
      exact ⟨S, rfl, h3, h4, h5, h6⟩
theorem n150_l {S0 : MS} {nP : Nat} (hP : nP ≤ 8) (s1 : S0.1 1 = nI nP) : ∀ (n i : Nat) (S : MS), i ≤ 2 * nP → 2 * nP < i + n → S.1 = S0.1 → (∀ r, r ≠ 7 → S.2.1 r = S0.2.1 r) → S.2.2 = S0.2.2 → (∀ k, k < i → S.2.1 7 k = S0.2.1 13 k) → ∃ S', f7_net_l150 n (nI i) S = f7_net_l180 FU 0 S' ∧ S'.1 = S0.1 ∧ (∀ r, r ≠ 7 → S'.2.1 r = S0.2.1 r) ∧ S'.2.2 = S0.2.2 ∧ (∀ k, k < 2 * nP → S'.2.1 7 k = S0.2.1 13 k) := by
  intro n
  induction n with
  | zero => intro i S h1 h2; omega
  | succ n ih =>
    intro i S h1 h2 h3 h4 h5 h6
    rw [f7_net_l150, h3, s1, i2]
    by_cases hi : i < 2 * nP
    · rw [if_neg (nI_ge hi (by omega)), h4 13 (by decide), rd_ok (by omega) (by decide), ob, wr_ok (by omega) (by decide), ob, bdk, nI_1]
      refine ih (i + 1) _ (by omega) (by omega) h3 (fun r hr => (mA_n hr).trans (h4 r hr)) h5 (fun k hk => ?_)
      rw [mA_s]
      by_cases e : k = i
      · subst e; rw [up_s]
      · rw [up_n e]; exact h6 k (by omega)
    · have e : i = 2 * nP := by omega
      subst e
      rw [if_pos (nI_le (Nat.le_refl _) (by omega))]
      exact ⟨S, rfl, h3, h4, h5, h6⟩
theorem n180_l {S0 : MS} {nJ nP nW : Nat} (hW : nW ≤ 4) (hP : nP ≤ 8) (s0 : S0.1 0 = nI nJ) (s1 : S0.1 1 = nI nP) (s2 : S0.1 2 = nI nW) : ∀ (n i : Nat) (S : MS), i ≤ nW → nW < i + n → S.1 = S0.1 → (∀ r, r ≠ 8 → r ≠ 9 → r ≠ 10 → r ≠ 11 → S.2.1 r = S0.2.1 r) → S.2.2 = S0.2.2 → (∀ k, k < i → S.2.1 11 k = S0.2.1 14 (4 * k) ∧ S.2.1 9 k = S0.2.1 14 (4 * k + 1) ∧ S.2.1 8 k = S0.2.1 14 (4 * k + 2) ∧ S.2.1 10 k = S0.2.1 14 (4 * k + 3)) → (∀ k, i ≤ k → S.2.1 11 k = S0.2.1 11 k) →
    ∃ S', f7_net_l180 n (nI i) S = some (100 * nI nJ + 10 * nI nP + nI nW, S') ∧ (∀ k, k ≠ 26 → S'.1 k = S0.1 k) ∧ S'.1 26 = 0 ∧ (∀ r, r ≠ 8 → r ≠ 9 → r ≠ 10 → r ≠ 11 → r ≠ 35 → S'.2.1 r = S0.2.1 r) ∧ S'.2.2 = S0.2.2 ∧ (∀ k, k < nW → S'.2.1 11 k = S0.2.1 14 (4 * k) ∧ S'.2.1 9 k = S0.2.1 14 (4 * k + 1) ∧ S'.2.1 8 k = S0.2.1 14 (4 * k + 2) ∧ S'.2.1 10 k = S0.2.1 14 (4 * k + 3)) ∧ (∀ k, nW ≤ k → k ≠ 16 → S'.2.1 11 k = S0.2.1 11 k) ∧ S'.2.1 11 16 = ((1 : Int32) <<< (nI nP &&& 31)) - 1 ∧ S'.2.1 35 0 = 0 ∧ S'.2.1 35 1 = 0 := by
  intro n
  induction n with
  | zero => intro i S h1 h2; omega
  | succ n ih =>
    intro i S h1 h2 h3 h4 h5 h6 h7
    rw [f7_net_l180, h3, s2]
    by_cases hi : i < nW
    · rw [if_neg (nI_ge hi (by omega)), i4, h4 14 (by decide) (by decide) (by decide) (by decide), rd_ok (by omega) (by decide), ob, wr_ok (by omega) (by decide), ob, bdk]
      rw [mA_n (show (14 : Nat) ≠ 11 by decide), h4 14 (by decide) (by decide) (by decide) (by decide), nI_1, rd_ok (by omega) (by decide), ob, mA_n (show (9 : Nat) ≠ 11 by decide), wr_ok (by omega) (by decide), ob, bdk]
      rw [mA_n (show (14 : Nat) ≠ 9 by decide), mA_n (show (14 : Nat) ≠ 11 by decide), h4 14 (by decide) (by decide) (by decide) (by decide), show nI (4 * i) + 2 = nI (4 * i + 2) from nI_add _ 2, rd_ok (by omega) (by decide), ob, mA_n (show (8 : Nat) ≠ 9 by decide), mA_n (show (8 : Nat) ≠ 11 by decide), wr_ok (by omega) (by decide), ob, bdk]
      rw [mA_n (show (14 : Nat) ≠ 8 by decide), mA_n (show (14 : Nat) ≠ 9 by decide), mA_n (show (14 : Nat) ≠ 11 by decide), h4 14 (by decide) (by decide) (by decide) (by decide), show nI (4 * i) + 3 = nI (4 * i + 3) from nI_add _ 3, rd_ok (by omega) (by decide), ob, mA_n (show (10 : Nat) ≠ 8 by decide), mA_n (show (10 : Nat) ≠ 9 by decide), mA_n (show (10 : Nat) ≠ 11 by decide), wr_ok (by omega) (by decide), ob, bdk, nI_1]
      refine ih (i + 1) _ (by omega) (by omega) h3 (fun r r1 r2 r3 r4 => ?_) h5 (fun k hk => ?_) (fun k hk => ?_)
      · rw [mA_n r3, mA_n r1, mA_n r2, mA_n r4]; exact h4 r r1 r2 r3 r4
      · rw [mA_s, mA_n (show (11 : Nat) ≠ 10 by decide), mA_n (show (11 : Nat) ≠ 8 by decide), mA_n (show (11 : Nat) ≠ 9 by decide), mA_s, mA_n (show (9 : Nat) ≠ 10 by decide), mA_n (show (9 : Nat) ≠ 8 by decide), mA_s, mA_n (show (8 : Nat) ≠ 10 by decide), mA_s]
        by_cases e : k = i
        · subst e; rw [up_s, up_s, up_s, up_s]; exact ⟨rfl, rfl, rfl, rfl⟩
        · rw [up_n e, up_n e, up_n e, up_n e]; exact h6 k (by omega)
      · rw [mA_n (show (11 : Nat) ≠ 10 by decide), mA_n (show (11 : Nat) ≠ 8 by decide), mA_n (show (11 : Nat) ≠ 9 by decide), mA_s, up_n (by omega)]
        exact h7 k (by omega)
    · have e : i = nW := by omega
      subst e
      have w16 : ∀ (f : Nat → Int32) (v : Int32), zwr f 38 16 v = some (upd f 16 v) := fun f v => wr_ok (i := 16) (by omega) (by decide)
      have w0 : ∀ (f : Nat → Int32) (v : Int32), zwr f 2 0 v = some (upd f 0 v) := fun f v => wr_ok (i := 0) (by omega) (by decide)
      have w1 : ∀ (f : Nat → Int32) (v : Int32), zwr f 2 1 v = some (upd f 1 v) := fun f v => wr_ok (i := 1) (by omega) (by decide)
      rw [if_pos (nI_le (Nat.le_refl _) (by omega)), s1, w16, ob, bdk, bdk, w0, ob, bdk, w1, ob, bdk, mA_1, mA_1, sI_n (show (0 : Nat) ≠ 26 by decide), sI_n (show (1 : Nat) ≠ 26 by decide), sI_n (show (2 : Nat) ≠ 26 by decide), mA_1, h3, s0, s1, s2, mA_mA]
      refine ⟨_, rfl, fun k hk => ?_, ?_, fun r r1 r2 r3 r4 r5 => ?_, h5, fun k hk => ?_, fun k hk hk2 => ?_, ?_, ?_, ?_⟩
      · rw [mA_1, sI_n hk, mA_1, h3]
      · rw [mA_1, sI_s]
      · rw [mA_n r5, sI_2, mA_n r4]; exact h4 r r1 r2 r3 r4
      · rw [mA_n (show (11 : Nat) ≠ 35 by decide), mA_n (show (9 : Nat) ≠ 35 by decide), mA_n (show (8 : Nat) ≠ 35 by decide), mA_n (show (10 : Nat) ≠ 35 by decide), sI_2, mA_s, mA_n (show (9 : Nat) ≠ 11 by decide), mA_n (show (8 : Nat) ≠ 11 by decide), mA_n (show (10 : Nat) ≠ 11 by decide), up_n (by omega)]
        exact h6 k hk
      · rw [mA_n (show (11 : Nat) ≠ 35 by decide), sI_2, mA_s, up_n hk2]
        exact h7 k hk
      · rw [mA_n (show (11 : Nat) ≠ 35 by decide), sI_2, mA_s, up_s]
      · rw [mA_s, mA_s, up_n (by decide), up_s]
      · rw [mA_s, mA_s, up_s]
theorem begin_l {N : Mo} : ∀ (n i : Nat) (M : Mo), i ≤ 4 → 4 < i + n → (∀ j, j < i → M.2 0 j = N.2 9 j ∧ M.2 1 j = (-9) ∧ M.2 2 j = 0 ∧ M.2 3 j = N.2 11 j) → ∃ M', f2_begin_l2 N n (nI i) M = some M' ∧ (∀ j, j < 4 → M'.2 0 j = N.2 9 j ∧ M'.2 1 j = (-9) ∧ M'.2 2 j = 0 ∧ M'.2 3 j = N.2 11 j) ∧ M'.1 4 = f6_all (N.1 4) ∧ M'.1 5 = 0 ∧ M'.1 6 = f6_all (N.1 3) ∧ M'.1 7 = 0 ∧ M'.1 8 = 0 := by
  intro n
  induction n with
  | zero => intro i M h1 h2; omega
  | succ n ih =>
    intro i M h1 h2 h3
    rw [f2_begin_l2]
    by_cases hi : i < 4
    · rw [if_neg (show ¬ (4 : Int32) ≤ nI i from nI_ge (b := 4) hi (by decide)), bdk, bdk, bdk, bdk, nI_1]
      refine ih (i + 1) _ (by omega) (by omega) (fun j hj => ?_)
      rw [sA_n (show (0 : Nat) ≠ 3 by decide), sA_n (show (0 : Nat) ≠ 2 by decide), sA_n (show (0 : Nat) ≠ 1 by decide), sA_s, sA_n (show (1 : Nat) ≠ 3 by decide), sA_n (show (1 : Nat) ≠ 2 by decide), sA_s, sA_n (show (2 : Nat) ≠ 3 by decide), sA_s, sA_s]
      rw [sA_n (show (1 : Nat) ≠ 0 by decide), sA_n (show (2 : Nat) ≠ 1 by decide), sA_n (show (2 : Nat) ≠ 0 by decide), sA_n (show (3 : Nat) ≠ 2 by decide), sA_n (show (3 : Nat) ≠ 1 by decide), sA_n (show (3 : Nat) ≠ 0 by decide)]
      rw [cell_ok (by omega) (by decide), cell_ok (by omega) (by decide), put_ok (by omega) (by decide), put_ok (by omega) (by decide), put_ok (by omega) (by decide), put_ok (by omega) (by decide)]
      by_cases e : j = i
      · subst e; rw [up_s, up_s, up_s, up_s]; exact ⟨rfl, rfl, rfl, rfl⟩
      · rw [up_n e, up_n e, up_n e, up_n e]; exact h3 j (by omega)
    · have e : i = 4 := by omega
      subst e
      rw [if_pos (by decide), bdk, bdk, bdk, bdk, bdk]
      exact ⟨_, rfl, h3, rfl, rfl, rfl, rfl, rfl⟩
theorem r_net (k : Nat) (C : Cs) (S : MS) (hk : k < 64) (h : Rel k C S) : ∃ (r : Int32) (C2 : Cs) (S2 : MS), f6_net C = some (r, C2) ∧ f7_net S = some (r, S2) ∧ Rel (k + 1) C2 S2 := by
  obtain ⟨len, hl, t1, t2, t3⟩ := h.tx
  obtain ⟨v, R', S1, e1, e2, e3, e4⟩ := read_eq C.2.2.2.2.1 C.2.2.2.1 S ⟨hl, t1, t2, t3⟩
  obtain ⟨v', R5, S1', u1, u2, u3, u4⟩ := read_eq C.2.2.2.2.2.1 C.2.2.2.1 S ⟨hl, t1, t2, t3⟩
  rw [e2] at u2
  obtain ⟨rfl, rfl⟩ := Prod.mk.inj (Option.some.inj u2)
  have u1' : f4_read (cCk C R').2.2.2.2.2.1 (cCk C R').2.2.2.1 = some (v, R5) := u1
  unfold f6_net f7_net
  rw [e1, ob, e2, ob]
  dsimp only
  rw [bdk]
  by_cases hv : v = (-9)
  · rw [if_pos hv, if_pos hv, u1', ob]
    dsimp only
    obtain ⟨-, ⟨hl3, hi0, hi1⟩, nJ, nP, nW, A, B, hR⟩ := u4.resolve_right (fun q => q hv)
    obtain ⟨hb, ⟨n2, n3, n4⟩, ⟨s6, s7, s8⟩, hlv, hlf, hpi, hwk, -, -⟩ := hR
    -- the reference
    obtain ⟨Sz, hSz⟩ : ∃ Sz : MS, Sz = sI (sI (sI (sI (sI S1 0 (nI nJ)) 1 (nI nP)) 2 (nI nW)) 3 (S.2.1 19 1 - 48)) 4 (S.2.1 19 2 - 48) := ⟨_, rfl⟩
    have z2 : Sz.2 = S1.2 := by rw [hSz]; rfl
    have zi : ∀ i, 5 ≤ i → Sz.1 i = S1.1 i := fun i hi => by rw [hSz, sI_n (by omega), sI_n (by omega), sI_n (by omega), sI_n (by omega), sI_n (by omega)]
    have z0 : Sz.1 0 = nI nJ := by rw [hSz, sI_n (by decide), sI_n (by decide), sI_n (by decide), sI_n (by decide), sI_s]
    have z1 : Sz.1 1 = nI nP := by rw [hSz, sI_n (by decide), sI_n (by decide), sI_n (by decide), sI_s]
    have z22 : Sz.1 2 = nI nW := by rw [hSz, sI_n (by decide), sI_n (by decide), sI_s]
    have z3 : Sz.1 3 = S.2.1 19 1 - 48 := by rw [hSz, sI_n (by decide), sI_s]
    have z4 : Sz.1 4 = S.2.1 19 2 - 48 := by rw [hSz, sI_s]
    have r19 : S1.2.1 19 = S.2.1 19 := e3.2.1 19 (by omega)
    have d1 : ∀ f : Nat → Int32, zrd f 60 1 = some (f 1) := fun f => rd_ok (i := 1) (by omega) (by decide)
    have d2 : ∀ f : Nat → Int32, zrd f 60 2 = some (f 2) := fun f => rd_ok (i := 2) (by omega) (by decide)
    rw [bdk, bdk, bdk, bdk, sI_n (show (17 : Nat) ≠ 0 by decide), sI_n (show (18 : Nat) ≠ 1 by decide), sI_n (show (18 : Nat) ≠ 0 by decide), s6, s7, s8, d1, ob, bdk, d2, ob, bdk]
    simp only [sI_2]
    rw [r19, ← hSz]
    obtain ⟨Sa, a0, a1, a2, a3, a4⟩ := n64_l (S0 := Sz) FU 0 Sz (by omega) (by show 19 < 0 + 100; omega) rfl (fun _ _ => rfl) rfl (fun k hk => by omega)
    obtain ⟨Sb, b0, b1, b2, b3, b4⟩ := n104_l (S0 := Sa) hb.1 (by rw [a1]; exact z0) FU 0 Sa (by omega) (by show nJ < 0 + 100; omega) rfl (fun _ _ _ => rfl) rfl (fun k hk => by omega)
    obtain ⟨Sc, c0, c1, c2, c3, c4⟩ := n150_l (S0 := Sb) hb.2.1 (by rw [b1, a1]; exact z1) FU 0 Sb (by omega) (by show 2 * nP < 0 + 100; omega) rfl (fun _ _ => rfl) rfl (fun k hk => by omega)
    obtain ⟨Sd, x0, x1, x2, x3, x4, x5, x6, x7, x8, x9⟩ := n180_l (S0 := Sc) (nJ := nJ) (nP := nP) (nW := nW) hb.2.2 hb.2.1 (by rw [c1, b1, a1]; exact z0) (by rw [c1, b1, a1]; exact z1) (by rw [c1, b1, a1]; exact z22) FU 0 Sc (by omega) (by show nW < 0 + 100; omega) rfl (fun _ _ _ _ _ => rfl) rfl (fun k hk => by omega) (fun _ _ => rfl)
    have a0' : f7_net_l64 FU 0 Sz = f7_net_l104 FU 0 Sa := a0
    have b0' : f7_net_l104 FU 0 Sa = f7_net_l150 FU 0 Sb := b0
    have c0' : f7_net_l150 FU 0 Sb = f7_net_l180 FU 0 Sc := c0
    have x0' : f7_net_l180 FU 0 Sc = some (100 * nI nJ + 10 * nI nP + nI nW, Sd) := x0
    -- the class
    obtain ⟨M8, g1, g2, g3, g4, g5, g6, g7⟩ := begin_l (N := R5.1) FU 0 (C.1 0) (by omega) (by show 4 < 0 + 100; omega) (fun j hj => by omega)
    have g1' : f2_begin ((cMk (cCk C R') R5).1 0) (cMk (cCk C R') R5).2.2.2.2.2.1.1 = some M8 := g1
    rw [a0', b0', c0', x0', g1', ob, bdk, bdk, bdk]
    -- rows of the reference at the end
    have y1 : ∀ i, i ≠ 26 → Sd.1 i = Sz.1 i := fun i hi => by rw [x1 i hi, c1, b1, a1]
    have yS : ∀ i, 5 ≤ i → i ≠ 26 → i ≠ 16 → i ≠ 17 → i ≠ 18 → i ≠ 21 → i ≠ 22 → Sd.1 i = S.1 i := fun i h1 h2 h3 h4 h5 h6 h7 => by rw [y1 i h2, zi i h1, e3.1 i h3 h4 h5 h6 h7]
    have yR : ∀ r, 12 ≤ r → r ≠ 35 → Sd.2.1 r = S1.2.1 r := fun r h1 h2 => by
      rw [x3 r (by omega) (by omega) (by omega) (by omega) h2, c2 r (by omega), b2 r (by omega) (by omega), a2 r (by omega), z2]
    have yRS : ∀ r, 16 ≤ r → r ≠ 35 → Sd.2.1 r = S.2.1 r := fun r h1 h2 => by rw [yR r (by omega) h2, e3.2.1 r (by omega)]
    have w5 : ∀ j, j < nJ → Sd.2.1 5 j = S1.2.1 12 (2 * j) ∧ Sd.2.1 6 j = S1.2.1 12 (2 * j + 1) := fun j hj => by
      rw [x3 5 (by decide) (by decide) (by decide) (by decide) (by decide), x3 6 (by decide) (by decide) (by decide) (by decide) (by decide), c2 5 (by decide), c2 6 (by decide), ← z2, ← a2 12 (by decide)]
      exact b4 j hj
    have w7 : ∀ j, j < 2 * nP → Sd.2.1 7 j = S1.2.1 13 j := fun j hj => by
      rw [x3 7 (by decide) (by decide) (by decide) (by decide) (by decide), c4 j hj, b2 13 (by decide) (by decide), a2 13 (by decide), z2]
    have r14 : Sc.2.1 14 = S1.2.1 14 := by rw [c2 14 (by decide), b2 14 (by decide) (by decide), a2 14 (by decide), z2]
    have w8 : ∀ w, w < nW → Sd.2.1 11 w = S1.2.1 14 (4 * w) ∧ Sd.2.1 9 w = S1.2.1 14 (4 * w + 1) ∧ Sd.2.1 8 w = S1.2.1 14 (4 * w + 2) ∧ Sd.2.1 10 w = S1.2.1 14 (4 * w + 3) := fun w hw => by
      rw [← r14]
      exact x5 w hw
    have w11 : ∀ q, nW ≤ q → q ≠ 16 → q < 19 → Sd.2.1 11 q = if 4 ≤ q ∧ q ≤ 7 then (-9) else 0 := fun q h1 h2 h3 => by
      rw [x6 q h1 h2, c2 11 (by decide), b2 11 (by decide) (by decide)]
      exact a4 q h3
    have hall : f6_all (nI nP) = ((1 : Int32) <<< (nI nP &&& 31)) - 1 := by
      unfold f6_all
      rw [bit_eq (by omega)]
    obtain ⟨nJ0, nP0, nW0, d0, hN0, -, ⟨h23, h24⟩, ⟨a, x, ha, hx, q1, q2, q3, q4, q5, q6⟩, -, hTx, hHe, hz⟩ := id h
    refine ⟨_, _, Sd, rfl, ?_, nJ, nP, nW, (fun r i => (R5.1.2 r i).toNatClampNeg), ?_, ⟨?_, ?_⟩, ⟨?_, ?_⟩, ?_, ?_, ?_, ?_, ?_⟩
    · show some (100 * nI nJ + 10 * nI nP + nI nW, Sd) = some (100 * R5.1.1 2 + 10 * R5.1.1 3 + R5.1.1 4, Sd)
      rw [n2, n3, n4]
    · show NetR R5.1 Sd nJ nP nW _
      refine ⟨hb, ⟨n2, n3, n4⟩, ⟨(y1 0 (by decide)).trans z0, (y1 1 (by decide)).trans z1, (y1 2 (by decide)).trans z22⟩, ⟨?_, ?_⟩, fun j hj => ?_, fun j hj => ?_, hlf, fun p hp => ?_, fun w hw => ?_⟩
      · rw [y1 3 (by decide), z3, hi0]
      · rw [y1 4 (by decide), z4, hi1]
      · obtain ⟨l, l1, l2, l3, l4⟩ := hlv j hj
        dsimp only
        rw [(w5 j hj).1, l2, l3, nI_clamp (by omega)]
        exact ⟨rfl, rfl, l1⟩
      · obtain ⟨l, l1, l2, l3, l4⟩ := hlv j hj
        rw [(w5 j hj).2, l4]
      · obtain ⟨p1, p2, p3, p4, p5, p6, p7⟩ := hpi p hp
        dsimp only
        rw [w7 (2 * p) (by omega), w7 (2 * p + 1) (by omega), p1, p2, p3, p4, nI_clamp (by omega), nI_clamp (by omega)]
        exact ⟨rfl, rfl, rfl, rfl, p5, p6, p7⟩
      · obtain ⟨a, l, t, o, ⟨o1, o2, o3, o4⟩, ⟨m9, m10, m11, m12⟩, k0, k1, k2, k3⟩ := hwk w hw
        obtain ⟨j1, j2, j3, j4⟩ := w8 w hw
        dsimp only
        rw [j2, j3, j4, m10, m11, m12, k1, k2, k3, nI_clamp (by omega), nI_clamp (by omega), nI_clamp (by omega)]
        exact ⟨rfl, rfl, o2, rfl, rfl, o3, rfl, rfl, o4⟩
    · show MomR (k + 1) nJ nW M8 (Sd.2.1 11) 0
      refine ⟨fun w hw => ?_, fun q h1 h2 => ?_, ⟨?_, ?_⟩, 0, by omega, g7, ?_⟩
      · obtain ⟨a, l, t, o, ⟨o1, o2, o3, o4⟩, ⟨m9, m10, m11, m12⟩, k0, k1, k2, k3⟩ := hwk w hw
        obtain ⟨y0, y1, y2, y3⟩ := g2 w (by omega)
        rw [y0, y1, y2, Nat.zero_add, (w8 w hw).1, k0, m9, g4, b_0]
        refine ⟨⟨a, o1, rfl, rfl⟩, ⟨?_, Or.inl rfl⟩, ⟨0, by omega, rfl, ?_⟩, ?_⟩
        · rw [Nat.zero_add, w11 (4 + w) (by omega) (by omega) (by omega), if_pos (by omega)]
        · rw [Nat.zero_add, w11 (8 + w) (by omega) (by omega) (by omega), if_neg (by omega)]
          rfl
        · rw [Nat.zero_add, w11 (12 + w) (by omega) (by omega) (by omega), if_neg (by omega)]
          rfl
      · rw [g4, b_0]
      · rw [Nat.zero_add, x7, g5, n3, hall]
      · rw [Nat.zero_add, w11 17 (by omega) (by omega) (by omega), if_neg (by omega), g6]
      · rw [Nat.zero_add, w11 18 (by omega) (by omega) (by omega), if_neg (by omega)]
        rfl
    · show SetB nW M8 Sd
      refine ⟨fun w hw => ?_, fun w hw => ?_, fun w h1 h2 => ?_⟩
      · obtain ⟨a, l, t, o, ⟨o1, o2, o3, o4⟩, ⟨m9, m10, m11, m12⟩, k0, k1, k2, k3⟩ := hwk w hw
        exact ⟨t, o3, (g2 w (by omega)).2.2.2.trans m11, (w8 w hw).2.2.1.trans k2⟩
      · rw [g3, n4, b_all nW (by omega) w (by omega), decide_eq_true hw]
      · rw [g3, n4, b_all nW (by omega) w h2, decide_eq_false (by omega)]
    · rw [yS 23 (by decide) (by decide) (by decide) (by decide) (by decide) (by decide) (by decide)]; exact h23
    · rw [yS 24 (by decide) (by decide) (by decide) (by decide) (by decide) (by decide) (by decide)]; exact h24
    · refine ⟨0, x, by omega, hx, rfl, x2, ?_, q4, q5, fun i hi => by omega⟩
      rw [yS 27 (by decide) (by decide) (by decide) (by decide) (by decide) (by decide) (by decide)]; exact q3
    · intro s hs
      show Sd.2.1 35 s = (if bt 0 s then 1 else 0) ∧ (bt 0 s = true → _)
      rw [b_0]
      refine ⟨?_, fun q => by cases q⟩
      rcases (show s = 0 ∨ s = 1 by omega) with rfl | rfl
      · exact x8
      · exact x9
    · exact hTx.fr (yS 20 (by decide) (by decide) (by decide) (by decide) (by decide) (by decide) (by decide)) (yRS 19 (by decide) (by decide))
    · exact hHe.fr (yS 30 (by decide) (by decide) (by decide) (by decide) (by decide) (by decide) (by decide)) (yRS 31 (by decide) (by decide)) (yRS 32 (by decide) (by decide)) (yRS 33 (by decide) (by decide))
    · show C.2.2.2.2.2.2.2.2.2 = Sd.2.2
      rw [x4, c3, b3, a3, z2, e3.2.2]
      exact hz
  · rw [if_neg hv, if_neg hv]
    exact ⟨_, _, _, rfl, rfl, h.look ⟨⟨rfl, rfl, rfl⟩, rfl, rfl, rfl, rfl, rfl, rfl⟩ e3.ss rfl e3.2.2⟩

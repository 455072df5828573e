/-! mathematics: a part of the text: a walker (made by wip/gen/mkwalker.py) -/
theorem al_has : ∀ n, n < 7 → ∀ v, v < 10 → f7_has (((1 : Int32) <<< (nI n &&& 31)) - 1) (nI v) = if decide (v < n) then 1 else 0 := by decide +kernel
theorem i4 (p : Nat) : 4 * nI p = nI (4 * p) := by rw [show (4 : Int32) = nI 4 from rfl, pk_mul]
theorem i4k (p k : Nat) : 4 * nI p + nI k = nI (4 * p + k) := by rw [i4, nI_add]
theorem dead_a {S : MS} {i k : Nat} {v : Int32} {f : Nat → Int32} (h : S.1 i = v) : (mA S k f).1 i = v := h
theorem rW_eq {S Sa Sb Sc Sd : MS} {nJ nW p : Nat} {v1 v2 v3 v4 : Int32} (hW : nW < 4) (hJ0 : 0 < nJ) (hJ6 : nJ ≤ 6) (h16 : S.1 16 = nI nJ) (h18 : S.1 18 = nI nW) (h21 : S.1 21 = nI p) (f1 : f7_figureOf (sI S 21 (nI (p + 1))) (((1 : Int32) <<< (nI nJ &&& 31)) - 1) = some (v1, Sa)) (a18 : Sa.1 18 = nI nW) (f2 : f7_figureOf (mA Sa 14 (upd (Sa.2.1 14) (4 * nW) v1)) 1022 = some (v2, Sb)) (b18 : Sb.1 18 = nI nW) (f3 : f7_figureOf (mA Sb 14 (upd (Sb.2.1 14) (4 * nW + 1) v2)) 15 = some (v3, Sc)) (c18 : Sc.1 18 = nI nW) (c16 : Sc.1 16 = nI nJ) (f4 : f7_figureOf (mA Sc 14 (upd (Sc.2.1 14) (4 * nW + 2) v3)) (((1 : Int32) <<< (nI nJ &&& 31)) - 1) = some (v4, Sd)) (d18 : Sd.1 18 = nI nW) :
    f7_readPart S 87 = some (sI (mA Sd 14 (upd (Sd.2.1 14) (4 * nW + 3) v4)) 18 (nI (nW + 1))) := by
  unfold f7_readPart
  rw [if_neg (show ¬ (87 : Int32) = 74 by decide)]
  unfold f7_readPart_j74
  rw [if_neg (show ¬ (87 : Int32) = 80 by decide)]
  unfold f7_readPart_j214
  rw [if_pos rfl, h18, if_neg (show ¬ (4 : Int32) ≤ nI nW from nI_ge (b := 4) hW (by decide)), h16, if_neg (nI_nle hJ0 (by omega)), bdk, h21, nI_1, sI_n (show (16 : Nat) ≠ 21 by decide), h16, f1, ob]
  dsimp only
  rw [sI_n (show (18 : Nat) ≠ 21 by decide), h18, i4, wr_ok (by omega) (by decide), ob, bdk, f2, ob]
  dsimp only
  rw [mA_1, a18, show 4 * nI nW + 1 = nI (4 * nW + 1) from i4k nW 1, wr_ok (by omega) (by decide), ob, bdk, f3, ob]
  dsimp only
  rw [mA_1, b18, show 4 * nI nW + 2 = nI (4 * nW + 2) from i4k nW 2, wr_ok (by omega) (by decide), ob, bdk, mA_1, c16, f4, ob]
  dsimp only
  rw [c18, show 4 * nI nW + 3 = nI (4 * nW + 3) from i4k nW 3, wr_ok (by omega) (by decide), ob, bdk, bdk, mA_1, d18, nI_1]
theorem fitW {R : Rd} {nJ t : Nat} (hJ : nJ ≤ 6) (h2 : R.2.2 2 = 87) (h3 : R.2.2 3 = nI t) (ht : t < 4) (hN : R.1.1 2 = nI nJ) {v : Nat} (hv : v ≤ 9) : f4_fits R (nI v) = some (if (if t = 1 then decide (1 ≤ v) else if t = 2 then decide (v < 4) else decide (v < nJ)) then 1 else 0) := by
  unfold f4_fits f4_fitsWalker
  rw [h2, if_neg (show ¬ (87 : Int32) = 74 by decide), if_neg (show ¬ (87 : Int32) = 80 by decide), if_pos rfl, h3, hN]
  by_cases t1 : t = 1
  · subst t1
    rw [if_pos (show nI 1 = 1 from rfl), if_pos rfl]
    by_cases c : 1 ≤ v
    · rw [if_neg (show ¬ nI v < 1 from nI_nlt (b := 1) c (by omega)), decide_eq_true c]; rfl
    · rw [if_pos (show nI v < 1 from nI_lt (b := 1) (by omega) (by omega)), decide_eq_false c]; rfl
  · rw [if_neg (show ¬ nI t = 1 from ne_nI (b := 1) t1 (by omega) (by omega)), if_neg t1]
    by_cases t2 : t = 2
    · subst t2
      rw [if_pos (show nI 2 = 2 from rfl), if_pos rfl]
      by_cases c : v < 4
      · rw [if_neg (show ¬ (4 : Int32) ≤ nI v from nI_ge (b := 4) c (by omega)), decide_eq_true c]; rfl
      · rw [if_pos (show (4 : Int32) ≤ nI v from nI_le (a := 4) (by omega) (by omega)), decide_eq_false c]; rfl
    · rw [if_neg (show ¬ nI t = 2 from ne_nI (b := 2) t2 (by omega) (by omega)), if_neg t2]
      by_cases c : v < nJ
      · rw [if_neg (nI_ge c (by omega)), decide_eq_true c]; rfl
      · rw [if_pos (nI_le (by omega) (by omega)), decide_eq_false c]; rfl
theorem addw_eq {N : Mo} {nW : Nat} {f : Nat → Int32} (hW : nW < 4) (n4 : N.1 4 = nI nW) : ∃ N', f3_addWalker N f = some N' ∧ N'.1 4 = nI (nW + 1) ∧ (∀ k, k ≠ 4 → N'.1 k = N.1 k) ∧ N'.2 9 = upd (N.2 9) nW (f 0) ∧ N'.2 10 = upd (N.2 10) nW (f 1) ∧ N'.2 11 = upd (N.2 11) nW (f 2) ∧ N'.2 12 = upd (N.2 12) nW (f 3) ∧ (∀ r, r < 9 → N'.2 r = N.2 r) := by
  unfold f3_addWalker
  rw [bdk, bdk, bdk, bdk, bdk]
  have c0 : f6_cell 4 f 0 = f 0 := cell_ok (i := 0) (by omega) (by decide)
  have c1 : f6_cell 4 f 1 = f 1 := cell_ok (i := 1) (by omega) (by decide)
  have c2 : f6_cell 4 f 2 = f 2 := cell_ok (i := 2) (by omega) (by decide)
  have c3 : f6_cell 4 f 3 = f 3 := cell_ok (i := 3) (by omega) (by decide)
  rw [c0, c1, c2, c3]
  simp only [sA_1, n4]
  rw [put_ok hW (by decide), put_ok hW (by decide), put_ok hW (by decide), put_ok hW (by decide)]
  refine ⟨_, rfl, ?_, fun k h1 => sI_n h1, ?_, ?_, ?_, ?_, fun r h1 => ?_⟩
  · rw [sI_s, nI_1]
  · rw [sI_2, sA_n (show (9 : Nat) ≠ 12 by decide), sA_n (show (9 : Nat) ≠ 11 by decide), sA_n (show (9 : Nat) ≠ 10 by decide), sA_s]
  · rw [sI_2, sA_n (show (10 : Nat) ≠ 12 by decide), sA_n (show (10 : Nat) ≠ 11 by decide), sA_s, sA_n (show (10 : Nat) ≠ 9 by decide)]
  · rw [sI_2, sA_n (show (11 : Nat) ≠ 12 by decide), sA_s, sA_n (show (11 : Nat) ≠ 10 by decide), sA_n (show (11 : Nat) ≠ 9 by decide)]
  · rw [sI_2, sA_s, sA_n (show (12 : Nat) ≠ 11 by decide), sA_n (show (12 : Nat) ≠ 10 by decide), sA_n (show (12 : Nat) ≠ 9 by decide)]
  · rw [sI_2, sA_n (by omega), sA_n (by omega), sA_n (by omega), sA_n (by omega)]
theorem partW {T : Le} {R : Rd} {S : MS} {len p nJ nP nW : Nat} {A B : Nat → Nat} (hT : TxR T S len) (hR : ReadR R.1 S nJ nP nW A B) (hW : nW < 4) (hJ0 : 0 < nJ) (hp : p + 1 ≤ len) (h21 : S.1 21 = nI p) (h22 : S.1 22 = (-9)) : PartO T len (p + 1) (rI (rI R 2 87) 3 0) S 87 := by
  obtain ⟨hb, ⟨n2, n3, n4⟩, ⟨s6, s7, s8⟩, hlv, hlf, hpi, hwk, hj, hc⟩ := id hR
  have hl := hT.1
  obtain ⟨R0, hR0⟩ : ∃ R0, R0 = rI (rI R 2 87) 3 0 := ⟨_, rfl⟩
  rw [← hR0]
  have r20 : R0.2.2 2 = 87 := by rw [hR0, rI_n (show (2 : Nat) ≠ 3 by decide), rI_s]
  have r30 : R0.2.2 3 = nI 0 := by rw [hR0, rI_s]; rfl
  have rN0 : R0.1 = R.1 := by rw [hR0]; rfl
  obtain ⟨S0, hS0⟩ : ∃ S0, S0 = sI S 21 (nI (p + 1)) := ⟨_, rfl⟩
  have hF0 : FS S S0 := by rw [hS0]; exact FS.i S 21 _ (by omega)
  have gi0 : ∀ i, i ≠ 21 → S0.1 i = S.1 i := fun i hi => by rw [hS0, sI_n hi]
  have g210 : S0.1 21 = nI (p + 1) := by rw [hS0, sI_s]
  have gr0 : ∀ r, r ≠ 14 → S0.2.1 r = S.2.1 r := fun r hr => by rw [hS0]; rfl
  have g140 : S0.2.1 14 = S.2.1 14 := by rw [hS0]; rfl
  rcases fig (S := S0) (R := R0) (al := (((1 : Int32) <<< (nI nJ &&& 31)) - 1)) (hT.fs hF0) (show p + 1 ≤ len by omega) g210 ((gi0 22 (by decide)).trans h22) (by rw [r20]; decide) (by rw [r20]; decide) (fun v hv => ⟨decide (v < nJ), fitW hb.1 r20 r30 (by omega) (by rw [rN0]; exact n2) hv, al_has nJ (by omega) v (by omega)⟩) with ⟨rd0, no0⟩ | ⟨v0, hv0, hlt0, -, -, hs0, go0, ok0⟩
  · left
    refine ⟨p + 1, _, by omega, fun n hn => ?_, rW_eq hW hJ0 hb.1 s6 s8 h21 (by rw [← hS0]; exact no0) ((sI_n (by decide)).trans ((gi0 18 (by decide)).trans s8)) (fig_dead (q := p + 1) (by omega) (dead_a sI_s) _) (dead_a ((sI_n (by decide)).trans ((gi0 18 (by decide)).trans s8))) (fig_dead (q := p + 1) (by omega) (dead_a (dead_a sI_s)) _) (dead_a (dead_a ((sI_n (by decide)).trans ((gi0 18 (by decide)).trans s8)))) (dead_a (dead_a ((sI_n (by decide)).trans ((gi0 16 (by decide)).trans s6)))) (fig_dead (q := p + 1) (by omega) (dead_a (dead_a (dead_a sI_s))) _) (dead_a (dead_a (dead_a ((sI_n (by decide)).trans ((gi0 18 (by decide)).trans s8))))), ?_, ?_⟩
    · cases n with
      | zero => omega
      | succ n =>
        refine ⟨R0, ?_⟩
        exact rd0 n
    · exact (sI_n (by decide)).trans (dead_a (dead_a (dead_a (dead_a sI_s))))
    · exact (((((hF0.tr (FS.i _ 22 _ (by omega))).tr (FS.a _ 14 _ (by omega))).tr (FS.a _ 14 _ (by omega))).tr (FS.a _ 14 _ (by omega))).tr (FS.a _ 14 _ (by omega))).tr (FS.i _ 18 _ (by omega))
  · have bd0 : v0 < nJ := by
      rw [al_has nJ (by omega) v0 (by omega)] at hs0
      by_cases c : v0 < nJ
      · exact c
      · rw [decide_eq_false c] at hs0
        exact absurd hs0 (by decide)
    obtain ⟨R1, hR1⟩ : ∃ R1, R1 = rI (rF R0 (upd R0.2.1 0 (nI v0))) 3 (nI (0 + 1)) := ⟨_, rfl⟩
    have r21 : R1.2.2 2 = 87 := by rw [hR1, rI_n (show (2 : Nat) ≠ 3 by decide)]; exact r20
    have r31 : R1.2.2 3 = nI 1 := by rw [hR1, rI_s]
    have rf1 : R1.2.1 = upd R0.2.1 0 (nI v0) := by rw [hR1]; rfl
    have rN1 : R1.1 = R.1 := by rw [hR1]; exact rN0
    have hc0 : f4_cont R0 (nI v0) = some R1 := by
      rw [hR1]
      exact cont_go r30 (by omega) (by rw [r20]; decide)
    obtain ⟨S1, hS1⟩ : ∃ S1, S1 = mA (sI S0 21 (nI (p + 1 + 1))) 14 (upd ((sI S0 21 (nI (p + 1 + 1))).2.1 14) (4 * nW) (nI v0)) := ⟨_, rfl⟩
    have hF1 : FS S S1 := by rw [hS1]; exact (hF0.tr (FS.i _ 21 _ (by omega))).tr (FS.a _ 14 _ (by omega))
    have gi1 : ∀ i, i ≠ 21 → S1.1 i = S.1 i := fun i hi => by rw [hS1, mA_1, sI_n hi]; exact gi0 i hi
    have g211 : S1.1 21 = nI (p + 1 + 1) := by rw [hS1, mA_1, sI_s]
    have gr1 : ∀ r, r ≠ 14 → S1.2.1 r = S.2.1 r := fun r hr => by rw [hS1, mA_n hr]; exact gr0 r hr
    have g141 : S1.2.1 14 = upd (S.2.1 14) (4 * nW) (nI v0) := by
      rw [hS1, mA_s, ← g140]
      rfl
    rcases fig (S := S1) (R := R1) (al := 1022) (hT.fs hF1) (show p + 1 + 1 ≤ len by omega) g211 ((gi1 22 (by decide)).trans h22) (by rw [r21]; decide) (by rw [r21]; decide) (fun v hv => ⟨decide (1 ≤ v), fitW hb.1 r21 r31 (by omega) (by rw [rN1]; exact n2) hv, (has_f v (by omega)).2.2.1⟩) with ⟨rd1, no1⟩ | ⟨v1, hv1, hlt1, -, -, hs1, go1, ok1⟩
    · left
      refine ⟨p + 1 + 1, _, by omega, fun n hn => ?_, rW_eq hW hJ0 hb.1 s6 s8 h21 (by rw [← hS0]; exact ok0) ((sI_n (by decide)).trans ((gi0 18 (by decide)).trans s8)) (by rw [← hS1]; exact no1) ((sI_n (by decide)).trans ((gi1 18 (by decide)).trans s8)) (fig_dead (q := p + 1 + 1) (by omega) (dead_a sI_s) _) (dead_a ((sI_n (by decide)).trans ((gi1 18 (by decide)).trans s8))) (dead_a ((sI_n (by decide)).trans ((gi1 16 (by decide)).trans s6))) (fig_dead (q := p + 1 + 1) (by omega) (dead_a (dead_a sI_s)) _) (dead_a (dead_a ((sI_n (by decide)).trans ((gi1 18 (by decide)).trans s8)))), ?_, ?_⟩
      · cases n with
        | zero => omega
        | succ n =>
          cases n with
          | zero => omega
          | succ n =>
            refine ⟨R1, ?_⟩
            rw [go0, hc0, ob]
            exact rd1 n
      · exact (sI_n (by decide)).trans (dead_a (dead_a (dead_a sI_s)))
      · exact ((((hF1.tr (FS.i _ 22 _ (by omega))).tr (FS.a _ 14 _ (by omega))).tr (FS.a _ 14 _ (by omega))).tr (FS.a _ 14 _ (by omega))).tr (FS.i _ 18 _ (by omega))
    · have bd1 : 1 ≤ v1 := by
        rw [(has_f v1 (by omega)).2.2.1] at hs1
        by_cases c : 1 ≤ v1
        · exact c
        · rw [decide_eq_false c] at hs1
          exact absurd hs1 (by decide)
      obtain ⟨R2, hR2⟩ : ∃ R2, R2 = rI (rF R1 (upd R1.2.1 1 (nI v1))) 3 (nI (1 + 1)) := ⟨_, rfl⟩
      have r22 : R2.2.2 2 = 87 := by rw [hR2, rI_n (show (2 : Nat) ≠ 3 by decide)]; exact r21
      have r32 : R2.2.2 3 = nI 2 := by rw [hR2, rI_s]
      have rf2 : R2.2.1 = upd R1.2.1 1 (nI v1) := by rw [hR2]; rfl
      have rN2 : R2.1 = R.1 := by rw [hR2]; exact rN1
      have hc1 : f4_cont R1 (nI v1) = some R2 := by
        rw [hR2]
        exact cont_go r31 (by omega) (by rw [r21]; decide)
      obtain ⟨S2, hS2⟩ : ∃ S2, S2 = mA (sI S1 21 (nI (p + 1 + 1 + 1))) 14 (upd ((sI S1 21 (nI (p + 1 + 1 + 1))).2.1 14) (4 * nW + 1) (nI v1)) := ⟨_, rfl⟩
      have hF2 : FS S S2 := by rw [hS2]; exact (hF1.tr (FS.i _ 21 _ (by omega))).tr (FS.a _ 14 _ (by omega))
      have gi2 : ∀ i, i ≠ 21 → S2.1 i = S.1 i := fun i hi => by rw [hS2, mA_1, sI_n hi]; exact gi1 i hi
      have g212 : S2.1 21 = nI (p + 1 + 1 + 1) := by rw [hS2, mA_1, sI_s]
      have gr2 : ∀ r, r ≠ 14 → S2.2.1 r = S.2.1 r := fun r hr => by rw [hS2, mA_n hr]; exact gr1 r hr
      have g142 : S2.2.1 14 = upd (upd (S.2.1 14) (4 * nW) (nI v0)) (4 * nW + 1) (nI v1) := by
        rw [hS2, mA_s, ← g141]
        rfl
      rcases fig (S := S2) (R := R2) (al := 15) (hT.fs hF2) (show p + 1 + 1 + 1 ≤ len by omega) g212 ((gi2 22 (by decide)).trans h22) (by rw [r22]; decide) (by rw [r22]; decide) (fun v hv => ⟨decide (v < 4), fitW hb.1 r22 r32 (by omega) (by rw [rN2]; exact n2) hv, (has_f v (by omega)).2.2.2⟩) with ⟨rd2, no2⟩ | ⟨v2, hv2, hlt2, -, -, hs2, go2, ok2⟩
      · left
        refine ⟨p + 1 + 1 + 1, _, by omega, fun n hn => ?_, rW_eq hW hJ0 hb.1 s6 s8 h21 (by rw [← hS0]; exact ok0) ((sI_n (by decide)).trans ((gi0 18 (by decide)).trans s8)) (by rw [← hS1]; exact ok1) ((sI_n (by decide)).trans ((gi1 18 (by decide)).trans s8)) (by rw [← hS2]; exact no2) ((sI_n (by decide)).trans ((gi2 18 (by decide)).trans s8)) ((sI_n (by decide)).trans ((gi2 16 (by decide)).trans s6)) (fig_dead (q := p + 1 + 1 + 1) (by omega) (dead_a sI_s) _) (dead_a ((sI_n (by decide)).trans ((gi2 18 (by decide)).trans s8))), ?_, ?_⟩
        · cases n with
          | zero => omega
          | succ n =>
            cases n with
            | zero => omega
            | succ n =>
              cases n with
              | zero => omega
              | succ n =>
                refine ⟨R2, ?_⟩
                rw [go0, hc0, ob, go1, hc1, ob]
                exact rd2 n
        · exact (sI_n (by decide)).trans (dead_a (dead_a sI_s))
        · exact (((hF2.tr (FS.i _ 22 _ (by omega))).tr (FS.a _ 14 _ (by omega))).tr (FS.a _ 14 _ (by omega))).tr (FS.i _ 18 _ (by omega))
      · have bd2 : v2 < 4 := by
          rw [(has_f v2 (by omega)).2.2.2] at hs2
          by_cases c : v2 < 4
          · exact c
          · rw [decide_eq_false c] at hs2
            exact absurd hs2 (by decide)
        obtain ⟨R3, hR3⟩ : ∃ R3, R3 = rI (rF R2 (upd R2.2.1 2 (nI v2))) 3 (nI (2 + 1)) := ⟨_, rfl⟩
        have r23 : R3.2.2 2 = 87 := by rw [hR3, rI_n (show (2 : Nat) ≠ 3 by decide)]; exact r22
        have r33 : R3.2.2 3 = nI 3 := by rw [hR3, rI_s]
        have rf3 : R3.2.1 = upd R2.2.1 2 (nI v2) := by rw [hR3]; rfl
        have rN3 : R3.1 = R.1 := by rw [hR3]; exact rN2
        have hc2 : f4_cont R2 (nI v2) = some R3 := by
          rw [hR3]
          exact cont_go r32 (by omega) (by rw [r22]; decide)
        obtain ⟨S3, hS3⟩ : ∃ S3, S3 = mA (sI S2 21 (nI (p + 1 + 1 + 1 + 1))) 14 (upd ((sI S2 21 (nI (p + 1 + 1 + 1 + 1))).2.1 14) (4 * nW + 2) (nI v2)) := ⟨_, rfl⟩
        have hF3 : FS S S3 := by rw [hS3]; exact (hF2.tr (FS.i _ 21 _ (by omega))).tr (FS.a _ 14 _ (by omega))
        have gi3 : ∀ i, i ≠ 21 → S3.1 i = S.1 i := fun i hi => by rw [hS3, mA_1, sI_n hi]; exact gi2 i hi
        have g213 : S3.1 21 = nI (p + 1 + 1 + 1 + 1) := by rw [hS3, mA_1, sI_s]
        have gr3 : ∀ r, r ≠ 14 → S3.2.1 r = S.2.1 r := fun r hr => by rw [hS3, mA_n hr]; exact gr2 r hr
        have g143 : S3.2.1 14 = upd (upd (upd (S.2.1 14) (4 * nW) (nI v0)) (4 * nW + 1) (nI v1)) (4 * nW + 2) (nI v2) := by
          rw [hS3, mA_s, ← g142]
          rfl
        rcases fig (S := S3) (R := R3) (al := (((1 : Int32) <<< (nI nJ &&& 31)) - 1)) (hT.fs hF3) (show p + 1 + 1 + 1 + 1 ≤ len by omega) g213 ((gi3 22 (by decide)).trans h22) (by rw [r23]; decide) (by rw [r23]; decide) (fun v hv => ⟨decide (v < nJ), fitW hb.1 r23 r33 (by omega) (by rw [rN3]; exact n2) hv, al_has nJ (by omega) v (by omega)⟩) with ⟨rd3, no3⟩ | ⟨v3, hv3, hlt3, -, -, hs3, go3, ok3⟩
        · left
          refine ⟨p + 1 + 1 + 1 + 1, _, by omega, fun n hn => ?_, rW_eq hW hJ0 hb.1 s6 s8 h21 (by rw [← hS0]; exact ok0) ((sI_n (by decide)).trans ((gi0 18 (by decide)).trans s8)) (by rw [← hS1]; exact ok1) ((sI_n (by decide)).trans ((gi1 18 (by decide)).trans s8)) (by rw [← hS2]; exact ok2) ((sI_n (by decide)).trans ((gi2 18 (by decide)).trans s8)) ((sI_n (by decide)).trans ((gi2 16 (by decide)).trans s6)) (by rw [← hS3]; exact no3) ((sI_n (by decide)).trans ((gi3 18 (by decide)).trans s8)), ?_, ?_⟩
          · cases n with
            | zero => omega
            | succ n =>
              cases n with
              | zero => omega
              | succ n =>
                cases n with
                | zero => omega
                | succ n =>
                  cases n with
                  | zero => omega
                  | succ n =>
                    refine ⟨R3, ?_⟩
                    rw [go0, hc0, ob, go1, hc1, ob, go2, hc2, ob]
                    exact rd3 n
          · exact (sI_n (by decide)).trans (dead_a sI_s)
          · exact ((hF3.tr (FS.i _ 22 _ (by omega))).tr (FS.a _ 14 _ (by omega))).tr (FS.i _ 18 _ (by omega))
        · have bd3 : v3 < nJ := by
            rw [al_has nJ (by omega) v3 (by omega)] at hs3
            by_cases c : v3 < nJ
            · exact c
            · rw [decide_eq_false c] at hs3
              exact absurd hs3 (by decide)
          right
          obtain ⟨N', m1, m2, m3, m4, m5, m6, m7, m8⟩ := addw_eq (N := R.1) (f := (upd (upd (upd (upd R0.2.1 0 (nI v0)) 1 (nI v1)) 2 (nI v2)) 3 (nI v3))) hW n4
          have had : f4_addPart (rI (rF R3 (upd R3.2.1 3 (nI v3))) 3 (nI (3 + 1))) = some (rN (rI (rF R3 (upd R3.2.1 3 (nI v3))) 3 (nI (3 + 1))) N') := by
            unfold f4_addPart
            have k2 : (rI (rF R3 (upd R3.2.1 3 (nI v3))) 3 (nI (3 + 1))).2.2 2 = 87 := by rw [rI_n (show (2 : Nat) ≠ 3 by decide)]; exact r23
            have kf : (rI (rF R3 (upd R3.2.1 3 (nI v3))) 3 (nI (3 + 1))).2.1 = (upd (upd (upd (upd R0.2.1 0 (nI v0)) 1 (nI v1)) 2 (nI v2)) 3 (nI v3)) := by rw [← rf1, ← rf2, ← rf3]; rfl
            have kN : (rI (rF R3 (upd R3.2.1 3 (nI v3))) 3 (nI (3 + 1))).1 = R.1 := rN3
            rw [bdk, bdk, k2, if_neg (show ¬ (87 : Int32) = 74 by decide), if_neg (show ¬ (87 : Int32) = 80 by decide), if_pos rfl, kf, kN, m1, ob, bdk]
          refine ⟨p + 1 + 1 + 1 + 1 + 1, rI (rN (rI (rF R3 (upd R3.2.1 3 (nI v3))) 3 (nI (3 + 1))) N') 2 0, (sI (mA (sI S3 21 (nI (p + 1 + 1 + 1 + 1 + 1))) 14 (upd ((sI S3 21 (nI (p + 1 + 1 + 1 + 1 + 1))).2.1 14) (4 * nW + 3) (nI v3))) 18 (nI (nW + 1))), nJ, nP, nW + 1, A, B, by omega, by omega, fun n => ?_, rW_eq hW hJ0 hb.1 s6 s8 h21 (by rw [← hS0]; exact ok0) ((sI_n (by decide)).trans ((gi0 18 (by decide)).trans s8)) (by rw [← hS1]; exact ok1) ((sI_n (by decide)).trans ((gi1 18 (by decide)).trans s8)) (by rw [← hS2]; exact ok2) ((sI_n (by decide)).trans ((gi2 18 (by decide)).trans s8)) ((sI_n (by decide)).trans ((gi2 16 (by decide)).trans s6)) (by rw [← hS3]; exact ok3) ((sI_n (by decide)).trans ((gi3 18 (by decide)).trans s8)), ?_, ?_, rI_s, ?_, ?_, ?_, ?_⟩
          · rw [show p + 1 + 1 + 1 + 1 + 1 - (p + 1) = 4 by omega, go0, hc0, ob, go1, hc1, ob, go2, hc2, ob, go3, cont_end r33 (by omega) (by rw [r23]; decide), had, ob, ob]
          · rw [sI_n (show (21 : Nat) ≠ 18 by decide), mA_1, sI_s]
          · rw [sI_n (show (22 : Nat) ≠ 18 by decide), mA_1, sI_n (show (22 : Nat) ≠ 21 by decide)]; exact (gi3 22 (by decide)).trans h22
          · show ReadR N' (sI (mA (sI S3 21 (nI (p + 1 + 1 + 1 + 1 + 1))) 14 (upd ((sI S3 21 (nI (p + 1 + 1 + 1 + 1 + 1))).2.1 14) (4 * nW + 3) (nI v3))) 18 (nI (nW + 1))) nJ nP (nW + 1) A B
            have z14 : (sI (mA (sI S3 21 (nI (p + 1 + 1 + 1 + 1 + 1))) 14 (upd ((sI S3 21 (nI (p + 1 + 1 + 1 + 1 + 1))).2.1 14) (4 * nW + 3) (nI v3))) 18 (nI (nW + 1))).2.1 14 = upd (upd (upd (upd (S.2.1 14) (4 * nW) (nI v0)) (4 * nW + 1) (nI v1)) (4 * nW + 2) (nI v2)) (4 * nW + 3) (nI v3) := by
              rw [sI_2, mA_s, sI_2, g143]
            have zr : ∀ r, r ≠ 14 → (sI (mA (sI S3 21 (nI (p + 1 + 1 + 1 + 1 + 1))) 14 (upd ((sI S3 21 (nI (p + 1 + 1 + 1 + 1 + 1))).2.1 14) (4 * nW + 3) (nI v3))) 18 (nI (nW + 1))).2.1 r = S.2.1 r := by
              intro r hr
              rw [sI_2, mA_n hr, sI_2]
              exact gr3 r hr
            have zi : ∀ i, i ≠ 18 → i ≠ 21 → (sI (mA (sI S3 21 (nI (p + 1 + 1 + 1 + 1 + 1))) 14 (upd ((sI S3 21 (nI (p + 1 + 1 + 1 + 1 + 1))).2.1 14) (4 * nW + 3) (nI v3))) 18 (nI (nW + 1))).1 i = S.1 i := by
              intro i h1 h2
              rw [sI_n h1, mA_1, sI_n h2]
              exact gi3 i h2
            refine ⟨by omega, ⟨(m3 2 (by decide)).trans n2, (m3 3 (by decide)).trans n3, m2⟩, ⟨(zi 16 (by decide) (by decide)).trans s6, (zi 17 (by decide) (by decide)).trans s7, sI_s⟩, fun j hj' => ?_, fun j hj' => ?_, fun q hq => ?_, fun w hw => ?_, ?_, ?_⟩
            · rw [zr 12 (by decide), m8 6 (by decide), m3 5 (by decide)]
              exact hlv j hj'
            · rw [m3 5 (by decide)]
              exact hlf j hj'
            · rw [m8 7 (by decide), m8 8 (by decide), zr 13 (by decide)]
              exact hpi q hq
            · rw [m4, m5, m6, m7, z14]
              by_cases e : w = nW
              · subst e
                refine ⟨v0, v1, v2, v3, ⟨bd0, hv1, bd2, bd3⟩, ⟨?_, ?_, ?_, ?_⟩, ?_, ?_, ?_, ?_⟩
                · rw [up_s, up_n (by decide), up_n (by decide), up_n (by decide), up_s]
                · rw [up_s, up_n (by decide), up_n (by decide), up_s]
                · rw [up_s, up_n (by decide), up_s]
                · rw [up_s, up_s]
                · rw [up_n (by omega), up_n (by omega), up_n (by omega), up_s]
                · rw [up_n (by omega), up_n (by omega), up_s]
                · rw [up_n (by omega), up_s]
                · rw [up_s]
              · obtain ⟨a, l, t, o, w1, w5, w6⟩ := hwk w (by omega)
                rw [up_n e, up_n e, up_n e, up_n e]
                rw [up_n (j := 4 * w) (k := 4 * nW + 3) (by omega), up_n (j := 4 * w) (k := 4 * nW + 2) (by omega), up_n (j := 4 * w) (k := 4 * nW + 1) (by omega), up_n (j := 4 * w) (k := 4 * nW) (by omega)]
                rw [up_n (j := 4 * w + 1) (k := 4 * nW + 3) (by omega), up_n (j := 4 * w + 1) (k := 4 * nW + 2) (by omega), up_n (j := 4 * w + 1) (k := 4 * nW + 1) (by omega), up_n (j := 4 * w + 1) (k := 4 * nW) (by omega)]
                rw [up_n (j := 4 * w + 2) (k := 4 * nW + 3) (by omega), up_n (j := 4 * w + 2) (k := 4 * nW + 2) (by omega), up_n (j := 4 * w + 2) (k := 4 * nW + 1) (by omega), up_n (j := 4 * w + 2) (k := 4 * nW) (by omega)]
                rw [up_n (j := 4 * w + 3) (k := 4 * nW + 3) (by omega), up_n (j := 4 * w + 3) (k := 4 * nW + 2) (by omega), up_n (j := 4 * w + 3) (k := 4 * nW + 1) (by omega), up_n (j := 4 * w + 3) (k := 4 * nW) (by omega)]
                exact ⟨a, l, t, o, w1, w5, w6⟩
            · rw [zr 15 (by decide)]; exact hj
            · rw [zr 15 (by decide)]; exact hc
          · exact ((hF3.tr (FS.i _ 21 _ (by omega))).tr (FS.a _ 14 _ (by omega))).tr (FS.i _ 18 _ (by omega))
          · show N'.1 0 = R0.1.1 0
            rw [rN0]
            exact m3 0 (by decide)
          · show N'.1 1 = R0.1.1 1
            rw [rN0]
            exact m3 1 (by decide)

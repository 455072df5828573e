/-! mathematics: a part of the text: a joint -/
def PartO (T : Le) (len p1 : Nat) (R1 : Rd) (S : MS) (x : Int32) : Prop :=
  (∃ (q : Nat) (S' : MS), q ≤ 60 ∧ (∀ n, len < p1 + n → ∃ R', f4_read_l14 T n (nI p1) R1 = some (nI q, R')) ∧ f7_readPart S x = some S' ∧ S'.1 22 = nI q ∧ FS S S') ∨
  (∃ (p2 : Nat) (R2 : Rd) (S' : MS) (nJ nP nW : Nat) (A B : Nat → Nat), p1 < p2 ∧ p2 ≤ len ∧ (∀ n, f4_read_l14 T (n + (p2 - p1)) (nI p1) R1 = f4_read_l14 T n (nI p2) R2) ∧ f7_readPart S x = some S' ∧ S'.1 21 = nI p2 ∧ S'.1 22 = (-9) ∧ R2.2.2 2 = 0 ∧ ReadR R2.1 S' nJ nP nW A B ∧ FS S S' ∧ R2.1.1 0 = R1.1.1 0 ∧ R2.1.1 1 = R1.1.1 1)
theorem cont_go {R : Rd} {t : Nat} {v : Int32} (h3 : R.2.2 3 = nI t) (ht : t < 4) (hne : ¬ nI (t + 1) = (if R.2.2 2 = 87 then (4 : Int32) else 2)) : f4_cont R v = some (rI (rF R (upd R.2.1 t v)) 3 (nI (t + 1))) := by
  unfold f4_cont
  rw [h3, nI_1, if_neg hne, put_ok ht (by decide)]
theorem cont_end {R : Rd} {t : Nat} {v : Int32} (h3 : R.2.2 3 = nI t) (ht : t < 4) (he : nI (t + 1) = (if R.2.2 2 = 87 then (4 : Int32) else 2)) : f4_cont R v = (f4_addPart (rI (rF R (upd R.2.1 t v)) 3 (nI (t + 1)))).bind fun R15 => some (rI R15 2 0) := by
  unfold f4_cont
  rw [h3, nI_1, if_pos he, put_ok ht (by decide)]
theorem has_f : ∀ v, v < 10 → f7_has 1023 (nI v) = 1 ∧ f7_has 3 (nI v) = (if decide (v ≤ 1) then 1 else 0) ∧ f7_has 1022 (nI v) = (if decide (1 ≤ v) then 1 else 0) ∧ f7_has 15 (nI v) = (if decide (v < 4) then 1 else 0) := by decide +kernel
theorem addj_eq {N : Mo} {nJ v u : Nat} (hJ : nJ < 6) (n2 : N.1 2 = nI nJ) (hu : u ≤ 1) : ∃ N', f3_addJoint N (nI v) (nI u) = some N' ∧ N'.1 2 = nI (nJ + 1) ∧ (∀ k, k ≠ 2 → k ≠ 5 → N'.1 k = N.1 k) ∧ N'.2 6 = upd (N.2 6) nJ (nI v) ∧ (∀ r, r ≠ 6 → N'.2 r = N.2 r) ∧ (∀ k, bt (N'.1 5) k = (bt (N.1 5) k || (decide (u = 1) && decide (k = nJ)))) := by
  unfold f3_addJoint
  rw [bdk, bdk, bdk, bdk, n2, put_ok (by omega) (by decide)]
  rcases (show u = 0 ∨ u = 1 by omega) with rfl | rfl
  · rw [if_neg (show ¬ nI 0 = 1 by decide)]
    refine ⟨_, rfl, ?_, fun k h1 h2 => sI_n h1, by rw [sI_2, sA_s], fun r hr => by rw [sI_2, sA_n hr], fun k => ?_⟩
    · rw [sI_s, sA_1, n2, nI_1]
    · rw [sI_n (show (5 : Nat) ≠ 2 by decide), sA_1]
      simp
  · rw [if_pos (show nI 1 = 1 from rfl)]
    refine ⟨_, rfl, ?_, fun k h1 h2 => (sI_n h1).trans (sI_n h2), by rw [sI_2, sI_2, sA_s], fun r hr => by rw [sI_2, sI_2, sA_n hr], fun k => ?_⟩
    · rw [sI_s, sI_n (show (2 : Nat) ≠ 5 by decide), sA_1, n2, nI_1]
    · rw [sI_n (show (5 : Nat) ≠ 2 by decide), sI_s, b_or, sA_1, n2]
      by_cases hk : k < 32
      · rw [b_bit (by omega) hk]
        simp
      · rw [b_big (by omega), b_big (by omega), decide_eq_false (show ¬ k = nJ by omega)]
        rfl
theorem rJ_eq {S Sa Sb : MS} {nJ p : Nat} {v u : Int32} (hJ : nJ < 6) (h16 : S.1 16 = nI nJ) (h21 : S.1 21 = nI p) (f1 : f7_figureOf (sI S 21 (nI (p + 1))) 1023 = some (v, Sa)) (ha : Sa.1 16 = nI nJ) (f2 : f7_figureOf (mA Sa 12 (upd (Sa.2.1 12) (2 * nJ) v)) 3 = some (u, Sb)) (hb : Sb.1 16 = nI nJ) : f7_readPart S 74 = some (sI (mA Sb 12 (upd (Sb.2.1 12) (2 * nJ + 1) u)) 16 (nI (nJ + 1))) := by
  unfold f7_readPart
  rw [if_pos rfl, h16, if_neg (show ¬ (6 : Int32) ≤ nI nJ from nI_ge (b := 6) hJ (by decide)), bdk, h21, nI_1, f1, ob]
  dsimp only
  rw [sI_n (show (16 : Nat) ≠ 21 by decide), h16, i2, wr_ok (by omega) (by decide), ob, bdk, f2, ob]
  dsimp only
  rw [mA_1, ha, i2, nI_1, wr_ok (by omega) (by decide), ob, bdk, bdk, mA_1, hb, nI_1]
theorem partJ {T : Le} {R : Rd} {S : MS} {len p nJ nP nW : Nat} {A B : Nat → Nat} (hT : TxR T S len) (hR : ReadR R.1 S nJ nP nW A B) (hJ : nJ < 6) (hp : p + 1 ≤ len) (h21 : S.1 21 = nI p) (h22 : S.1 22 = (-9)) : PartO T len (p + 1) (rI (rI R 2 74) 3 0) S 74 := by
  obtain ⟨hb, ⟨n2, n3, n4⟩, ⟨s6, s7, s8⟩, hlv, hlf, hpi, hwk, hj, hc⟩ := id hR
  have hl := hT.1
  obtain ⟨R1, hR1⟩ : ∃ R1, R1 = rI (rI R 2 74) 3 0 := ⟨_, rfl⟩
  rw [← hR1]
  have r2 : R1.2.2 2 = 74 := by rw [hR1, rI_n (show (2 : Nat) ≠ 3 by decide), rI_s]
  have r3 : R1.2.2 3 = nI 0 := by rw [hR1, rI_s]; rfl
  have rN1 : R1.1 = R.1 := by rw [hR1]; rfl
  have hF1 : FS S (sI S 21 (nI (p + 1))) := FS.i S 21 _ (by omega)
  have e74 : (if R1.2.2 2 = 87 then (4 : Int32) else 2) = 2 := by rw [r2]; decide
  rcases fig (S := sI S 21 (nI (p + 1))) (R := R1) (al := 1023) (hT.fs hF1) hp sI_s ((sI_n (by decide)).trans h22) (by rw [r2]; decide) (by rw [r2]; decide) (fun v hv => ⟨true, by
      unfold f4_fits
      rw [r2, if_pos rfl, r3, if_pos nI_0, if_pos rfl], by rw [(has_f v (by omega)).1, if_pos rfl]⟩) with ⟨a1, a2⟩ | ⟨v, hv, hlt, hx, a1, a2, a3, a4⟩
  · left
    have hd := fig_dead (S := mA (sI (sI S 21 (nI (p + 1))) 22 (nI (p + 1))) 12 (upd ((sI (sI S 21 (nI (p + 1))) 22 (nI (p + 1))).2.1 12) (2 * nJ) 0)) (q := p + 1) (by omega) (by rw [mA_1, sI_s]) 3
    refine ⟨p + 1, _, by omega, fun n hn => ?_, rJ_eq hJ s6 h21 a2 ?_ hd ?_, ?_, ?_⟩
    · cases n with
      | zero => omega
      | succ n => exact ⟨R1, a1 n⟩
    · rw [sI_n (show (16 : Nat) ≠ 22 by decide), sI_n (show (16 : Nat) ≠ 21 by decide)]; exact s6
    · rw [mA_1, sI_n (show (16 : Nat) ≠ 22 by decide), sI_n (show (16 : Nat) ≠ 21 by decide)]; exact s6
    · rw [sI_n (show (22 : Nat) ≠ 16 by decide), mA_1, mA_1, sI_s]
    · exact (((hF1.tr (FS.i _ 22 _ (by omega))).tr (FS.a _ 12 _ (by omega))).tr (FS.a _ 12 _ (by omega))).tr (FS.i _ 16 _ (by omega))
  · obtain ⟨R2, hR2⟩ : ∃ R2, R2 = rI (rF R1 (upd R1.2.1 0 (nI v))) 3 (nI (0 + 1)) := ⟨_, rfl⟩
    have q2 : R2.2.2 2 = 74 := by rw [hR2, rI_n (show (2 : Nat) ≠ 3 by decide)]; exact r2
    have q3 : R2.2.2 3 = nI 1 := by rw [hR2, rI_s]
    have qf : R2.2.1 = upd R1.2.1 0 (nI v) := by rw [hR2]; rfl
    have qN : R2.1 = R.1 := by rw [hR2]; exact rN1
    have e74' : (if R2.2.2 2 = 87 then (4 : Int32) else 2) = 2 := by rw [q2]; decide
    have hc1 : f4_cont R1 (nI v) = some R2 := by
      rw [hR2]
      exact cont_go r3 (by omega) (by rw [e74]; decide)
    obtain ⟨S2, hS2⟩ : ∃ S2, S2 = mA (sI (sI S 21 (nI (p + 1))) 21 (nI (p + 1 + 1))) 12 (upd ((sI (sI S 21 (nI (p + 1))) 21 (nI (p + 1 + 1))).2.1 12) (2 * nJ) (nI v)) := ⟨_, rfl⟩
    have hF2 : FS S S2 := by
      rw [hS2]
      exact (hF1.tr (FS.i _ 21 _ (by omega))).tr (FS.a _ 12 _ (by omega))
    have g16 : S2.1 16 = nI nJ := by rw [hS2, mA_1, sI_n (show (16 : Nat) ≠ 21 by decide), sI_n (show (16 : Nat) ≠ 21 by decide)]; exact s6
    have g21 : S2.1 21 = nI (p + 1 + 1) := by rw [hS2, mA_1, sI_s]
    have g22 : S2.1 22 = (-9) := by rw [hS2, mA_1, sI_n (show (22 : Nat) ≠ 21 by decide), sI_n (show (22 : Nat) ≠ 21 by decide)]; exact h22
    have g12 : S2.2.1 12 = upd (S.2.1 12) (2 * nJ) (nI v) := by rw [hS2, mA_s]; rfl
    have gr : ∀ r, r ≠ 12 → S2.2.1 r = S.2.1 r := fun r hr => by rw [hS2, mA_n hr]; rfl
    have gi : ∀ i, i ≠ 21 → S2.1 i = S.1 i := fun i hi => by rw [hS2, mA_1, sI_n hi, sI_n hi]
    have hS2' : ∀ x y, f7_figureOf S2 3 = some (x, y) → f7_figureOf (mA (sI (sI S 21 (nI (p + 1))) 21 (nI (p + 1 + 1))) 12 (upd ((sI (sI S 21 (nI (p + 1))) 21 (nI (p + 1 + 1))).2.1 12) (2 * nJ) (nI v))) 3 = some (x, y) := fun x y h => by rw [← hS2]; exact h
    have h16a : (sI (sI S 21 (nI (p + 1))) 21 (nI (p + 1 + 1))).1 16 = nI nJ := by rw [sI_n (show (16 : Nat) ≠ 21 by decide), sI_n (show (16 : Nat) ≠ 21 by decide)]; exact s6
    rcases fig (S := S2) (R := R2) (al := 3) (hT.fs hF2) (show p + 1 + 1 ≤ len by omega) g21 g22 (by rw [q2]; decide) (by rw [q2]; decide) (fun v hv => ⟨decide (v ≤ 1), by
        unfold f4_fits
        rw [q2, if_pos rfl, q3, if_neg (show ¬ nI 1 = 0 by decide)]
        by_cases c : v ≤ 1
        · rw [if_neg (show ¬ (1 : Int32) < nI v from nI_nlt (a := 1) c (by omega)), decide_eq_true c, if_pos rfl]
        · rw [if_pos (show (1 : Int32) < nI v from nI_lt (a := 1) (by omega) (by omega)), decide_eq_false c]
          rfl, (has_f v (by omega)).2.1⟩) with ⟨b1, b2⟩ | ⟨u, hu, hlt2, hx2, b1, b2, b3, b4⟩
    · left
      refine ⟨p + 1 + 1, _, by omega, fun n hn => ?_, rJ_eq hJ s6 h21 a4 h16a (hS2' _ _ b2) ?_, ?_, ?_⟩
      · cases n with
        | zero => omega
        | succ n =>
          cases n with
          | zero => omega
          | succ n =>
            refine ⟨R2, ?_⟩
            rw [a3, hc1, ob]
            exact b1 n
      · rw [sI_n (show (16 : Nat) ≠ 22 by decide)]; exact g16
      · rw [sI_n (show (22 : Nat) ≠ 16 by decide), mA_1, sI_s]
      · exact ((hF2.tr (FS.i _ 22 _ (by omega))).tr (FS.a _ 12 _ (by omega))).tr (FS.i _ 16 _ (by omega))
    · right
      have hu1 : u ≤ 1 := by
        rw [(has_f u (by omega)).2.1] at b2
        by_cases c : u ≤ 1
        · exact c
        · rw [decide_eq_false c] at b2
          exact absurd b2 (by decide)
      obtain ⟨N', m1, m2, m3, m4, m5, m6⟩ := addj_eq (N := R.1) (v := v) hJ n2 hu1
      have had : f4_addPart (rI (rF R2 (upd R2.2.1 1 (nI u))) 3 (nI (1 + 1))) = some (rN (rI (rF R2 (upd R2.2.1 1 (nI u))) 3 (nI (1 + 1))) N') := by
        unfold f4_addPart
        have k2 : (rI (rF R2 (upd R2.2.1 1 (nI u))) 3 (nI (1 + 1))).2.2 2 = 74 := by rw [rI_n (show (2 : Nat) ≠ 3 by decide)]; exact q2
        have kf : (rI (rF R2 (upd R2.2.1 1 (nI u))) 3 (nI (1 + 1))).2.1 = upd (upd R1.2.1 0 (nI v)) 1 (nI u) := by rw [← qf]; rfl
        have kN : (rI (rF R2 (upd R2.2.1 1 (nI u))) 3 (nI (1 + 1))).1 = R.1 := qN
        have k0 : f6_cell 4 (upd (upd R1.2.1 0 (nI v)) 1 (nI u)) 0 = nI v := (cell_ok (i := 0) (by omega) (by decide)).trans ((up_n (by decide)).trans up_s)
        have k1 : f6_cell 4 (upd (upd R1.2.1 0 (nI v)) 1 (nI u)) 1 = nI u := (cell_ok (i := 1) (by omega) (by decide)).trans up_s
        rw [bdk, bdk, k2, if_pos rfl, kf, kN, k0, k1, m1, ob, bdk]
      refine ⟨p + 1 + 1 + 1, rI (rN (rI (rF R2 (upd R2.2.1 1 (nI u))) 3 (nI (1 + 1))) N') 2 0, _, nJ + 1, nP, nW, A, B, by omega, by omega, fun n => ?_, rJ_eq hJ s6 h21 a4 h16a (hS2' _ _ b4) ?_, ?_, ?_, rI_s, ?_, ?_, ?_, ?_⟩
      · rw [show p + 1 + 1 + 1 - (p + 1) = 2 by omega, a3, hc1, ob, b3, cont_end q3 (by omega) (by rw [e74']; decide), had, ob, ob]
      · rw [sI_n (show (16 : Nat) ≠ 21 by decide)]; exact g16
      · rw [sI_n (show (21 : Nat) ≠ 16 by decide), mA_1, sI_s]
      · rw [sI_n (show (22 : Nat) ≠ 16 by decide), mA_1, sI_n (show (22 : Nat) ≠ 21 by decide)]; exact g22
      · show ReadR N' _ (nJ + 1) nP nW A B
        have z12 : (sI (mA (sI S2 21 (nI (p + 1 + 1 + 1))) 12 (upd ((sI S2 21 (nI (p + 1 + 1 + 1))).2.1 12) (2 * nJ + 1) (nI u))) 16 (nI (nJ + 1))).2.1 12 = upd (upd (S.2.1 12) (2 * nJ) (nI v)) (2 * nJ + 1) (nI u) := by
          show (mA (sI S2 21 (nI (p + 1 + 1 + 1))) 12 (upd (S2.2.1 12) (2 * nJ + 1) (nI u))).2.1 12 = _
          rw [mA_s, g12]
        have zr : ∀ r, r ≠ 12 → (sI (mA (sI S2 21 (nI (p + 1 + 1 + 1))) 12 (upd ((sI S2 21 (nI (p + 1 + 1 + 1))).2.1 12) (2 * nJ + 1) (nI u))) 16 (nI (nJ + 1))).2.1 r = S.2.1 r := by
          intro r hr
          show (mA (sI S2 21 (nI (p + 1 + 1 + 1))) 12 (upd (S2.2.1 12) (2 * nJ + 1) (nI u))).2.1 r = _
          rw [mA_n hr]
          exact gr r hr
        have zi : ∀ i, i ≠ 16 → i ≠ 21 → (sI (mA (sI S2 21 (nI (p + 1 + 1 + 1))) 12 (upd ((sI S2 21 (nI (p + 1 + 1 + 1))).2.1 12) (2 * nJ + 1) (nI u))) 16 (nI (nJ + 1))).1 i = S.1 i := by
          intro i h1 h2
          rw [sI_n h1, mA_1, sI_n h2]
          exact gi i h2
        refine ⟨by omega, ⟨m2, (m3 3 (by decide) (by decide)).trans n3, (m3 4 (by decide) (by decide)).trans n4⟩, ⟨sI_s, (zi 17 (by decide) (by decide)).trans s7, (zi 18 (by decide) (by decide)).trans s8⟩, fun j hj' => ?_, fun j hj' => ?_, fun q hq => ?_, fun w hw => ?_, ?_, ?_⟩
        · rw [z12, m4, m6]
          by_cases e : j = nJ
          · subst e
            rw [up_s, up_n (show 2 * j ≠ 2 * j + 1 by omega), up_s, up_s, hlf j (Nat.le_refl _), decide_eq_true rfl, Bool.and_true, Bool.false_or]
            refine ⟨v, hv, rfl, rfl, ?_⟩
            rcases (show u = 0 ∨ u = 1 by omega) with rfl | rfl
            · rfl
            · rfl
          · obtain ⟨l, l1, l2, l3, l4⟩ := hlv j (by omega)
            rw [up_n e, up_n (by omega), up_n (by omega), up_n (by omega), up_n (by omega), decide_eq_false e, Bool.and_false, Bool.or_false]
            exact ⟨l, l1, l2, l3, l4⟩
        · rw [m6, hlf j (by omega), decide_eq_false (show ¬ j = nJ by omega), Bool.and_false]
          rfl
        · obtain ⟨y1, y2, y3, y4, y5, y6, y7⟩ := hpi q hq
          rw [m5 7 (by decide), m5 8 (by decide), zr 13 (by decide)]
          exact ⟨y1, y2, y3, y4, by omega, by omega, y7⟩
        · obtain ⟨a, l, t, o, ⟨w1, w2, w3, w4⟩, w5, w6⟩ := hwk w hw
          rw [m5 9 (by decide), m5 10 (by decide), m5 11 (by decide), m5 12 (by decide), zr 14 (by decide)]
          exact ⟨a, l, t, o, ⟨by omega, w2, w3, by omega⟩, w5, w6⟩
        · rw [zr 15 (by decide)]; exact hj
        · rw [zr 15 (by decide)]; exact hc
      · exact ((hF2.tr (FS.i _ 21 _ (by omega))).tr (FS.a _ 12 _ (by omega))).tr (FS.i _ 16 _ (by omega))
      · show N'.1 0 = R1.1.1 0
        rw [rN1]
        exact m3 0 (by decide) (by decide)
      · show N'.1 1 = R1.1.1 1
        rw [rN1]
        exact m3 1 (by decide) (by decide)

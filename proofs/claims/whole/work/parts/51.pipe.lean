/-! mathematics: a part of the text: a pipe -/
theorem rP_eq {S Sa Sb : MS} {nP p i j : Nat} {fl lv : Int32} (hP : nP < 8) (h17 : S.1 17 = nI nP) (h21 : S.1 21 = nI p) (hfl : f7_firstsLeft S = some fl) (hfl0 : ¬ fl = 0) (hfl2 : f7_firstsLeft (sI S 21 (nI (p + 1))) = some fl) (f1 : f7_figureOf (sI S 21 (nI (p + 1))) fl = some (nI i, Sa)) (hl : f7_left Sa (nI i) = some lv) (f2 : f7_figureOf Sa lv = some (nI j, Sb)) (hi : i < 6) (hj : j < 6) (hb17 : Sb.1 17 = nI nP) :
    f7_readPart S 80 = some (sI (mA (mA Sb 15 (upd (upd (Sb.2.1 15) i (Sb.2.1 15 i ||| (if Sb.1 22 = (-9) then (1 : Int32) <<< (nI j &&& 31) else 0))) j (upd (Sb.2.1 15) i (Sb.2.1 15 i ||| (if Sb.1 22 = (-9) then (1 : Int32) <<< (nI j &&& 31) else 0)) j ||| (if Sb.1 22 = (-9) then (1 : Int32) <<< (nI i &&& 31) else 0)))) 13 (upd (upd (Sb.2.1 13) (2 * nP) (nI i)) (2 * nP + 1) (nI j))) 17 (nI (nP + 1))) := by
  unfold f7_readPart
  rw [if_neg (show ¬ (80 : Int32) = 74 by decide)]
  unfold f7_readPart_j74
  rw [if_pos rfl, h17, if_neg (show ¬ (8 : Int32) ≤ nI nP from nI_ge (b := 8) hP (by decide)), hfl, ob, if_neg hfl0, bdk, h21, nI_1, hfl2, ob, f1, ob]
  dsimp only
  rw [hl, ob, f2, ob]
  dsimp only
  rw [rd_ok hi (by decide), ob, bdk, wr_ok hi (by decide), ob, bdk, mA_s, rd_ok hj (by decide), ob, bdk, mA_1, wr_ok hj (by decide), ob, bdk, mA_mA, mA_n (show (13 : Nat) ≠ 15 by decide), mA_1, hb17, i2, wr_ok (by omega) (by decide), ob, bdk, mA_s, mA_1, mA_1, hb17, i2, nI_1, wr_ok (by omega) (by decide), ob, bdk, mA_mA, bdk, mA_1, mA_1, hb17, nI_1]
theorem addp_eq {N : Mo} {nP : Nat} {v u : Int32} (hP : nP < 8) (n3 : N.1 3 = nI nP) : ∃ N', f3_addPipe N v u = some N' ∧ N'.1 3 = nI (nP + 1) ∧ (∀ k, k ≠ 3 → N'.1 k = N.1 k) ∧ N'.2 7 = upd (N.2 7) nP v ∧ N'.2 8 = upd (N.2 8) nP u ∧ (∀ r, r ≠ 7 → r ≠ 8 → N'.2 r = N.2 r) := by
  unfold f3_addPipe
  rw [bdk, bdk, bdk]
  refine ⟨_, rfl, ?_, fun k h1 => sI_n h1, ?_, ?_, fun r h1 h2 => ?_⟩
  · rw [sI_s, sA_1, sA_1, n3, nI_1]
  · rw [sI_2, sA_n (show (7 : Nat) ≠ 8 by decide), sA_s, n3, put_ok hP (by decide)]
  · rw [sI_2, sA_s, sA_1, n3, sA_n (show (8 : Nat) ≠ 7 by decide), put_ok hP (by decide)]
  · rw [sI_2, sA_n h2, sA_n h1]
theorem first_21 {S : MS} {nJ : Nat} {fl x : Int32} (h16 : S.1 16 = nI nJ) (hJ : nJ ≤ 6) (h : f7_firstsLeft S = some fl) : f7_firstsLeft (sI S 21 x) = some fl := by
  obtain ⟨v, v1, v2⟩ := first_eq h16 hJ
  obtain ⟨u, u1, u2⟩ := first_eq (S := sI S 21 x) (nJ := nJ) (by rw [sI_n (by decide)]; exact h16) hJ
  have e : u = v := by
    apply b_ext
    intro k hk
    rw [u2 k hk, v2 k hk]
    rfl
  rw [u1, e, ← v1, h]
theorem partP {T : Le} {R : Rd} {S : MS} {len p nJ nP nW : Nat} {A B : Nat → Nat} {fl : Int32} (hT : TxR T S len) (hR : ReadR R.1 S nJ nP nW A B) (hP : nP < 8) (hfl : f7_firstsLeft S = some fl) (hflb : ∀ k, k < 32 → bt fl k = (decide (k < nJ) && !decide (lvI nJ (S.2.1 15) k = 0))) (hfl0 : ¬ fl = 0) (hp : p + 1 ≤ len) (h21 : S.1 21 = nI p) (h22 : S.1 22 = (-9)) : PartO T len (p + 1) (rI (rI R 2 80) 3 0) S 80 := by
  obtain ⟨hb, ⟨n2, n3, n4⟩, ⟨s6, s7, s8⟩, hlv, hlf, hpi, hwk, hj, hc⟩ := id hR
  have hl := hT.1
  have hfl2 : f7_firstsLeft (sI S 21 (nI (p + 1))) = some fl := first_21 s6 hb.1 hfl
  obtain ⟨R1, hR1⟩ : ∃ R1, R1 = rI (rI R 2 80) 3 0 := ⟨_, rfl⟩
  rw [← hR1]
  have r2 : R1.2.2 2 = 80 := by rw [hR1, rI_n (show (2 : Nat) ≠ 3 by decide), rI_s]
  have r3 : R1.2.2 3 = nI 0 := by rw [hR1, rI_s]; rfl
  have rN1 : R1.1 = R.1 := by rw [hR1]; rfl
  have hF1 : FS S (sI S 21 (nI (p + 1))) := FS.i S 21 _ (by omega)
  have e80 : (if R1.2.2 2 = 87 then (4 : Int32) else 2) = 2 := by rw [r2]; decide
  rcases fig (S := sI S 21 (nI (p + 1))) (R := R1) (al := fl) (hT.fs hF1) hp sI_s ((sI_n (by decide)).trans h22) (by rw [r2]; decide) (by rw [r2]; decide) (fun v hv => ⟨(decide (v < nJ) && !decide (lvI nJ (S.2.1 15) v = 0)), by
      unfold f4_fits
      rw [r2, if_neg (show ¬ (80 : Int32) = 74 by decide), if_pos rfl, r3, if_pos nI_0, rN1, joinable_eq hR (by omega), ob]
      by_cases c : v < nJ
      · rw [if_pos c, decide_eq_true c, Bool.true_and]
        by_cases c2 : lvI nJ (S.2.1 15) v = 0
        · rw [if_pos c2, decide_eq_true c2]; rfl
        · rw [if_neg c2, decide_eq_false c2]; rfl
      · rw [if_neg c, decide_eq_false c, if_pos rfl]; rfl, by rw [h7_eq (by omega), hflb v (by omega)]⟩) with ⟨a1, a2⟩ | ⟨v, hv, hlt, hx, a1, a2, a3, a4⟩
  · left
    have hle : f7_left (sI (sI S 21 (nI (p + 1))) 22 (nI (p + 1))) (nI 0) = some (lvI nJ ((sI (sI S 21 (nI (p + 1))) 22 (nI (p + 1))).2.1 15) 0) := left_eq (by rw [sI_n (show (16 : Nat) ≠ 22 by decide), sI_n (show (16 : Nat) ≠ 21 by decide)]; exact s6) (by omega)
    have hd := fig_dead (S := sI (sI S 21 (nI (p + 1))) 22 (nI (p + 1))) (q := p + 1) (by omega) sI_s (lvI nJ ((sI (sI S 21 (nI (p + 1))) 22 (nI (p + 1))).2.1 15) 0)
    refine ⟨p + 1, _, by omega, fun n hn => ?_, rP_eq (i := 0) (j := 0) hP s7 h21 hfl hfl0 hfl2 a2 hle hd (by omega) (by omega) ?_, ?_, ?_⟩
    · cases n with
      | zero => omega
      | succ n => exact ⟨R1, a1 n⟩
    · rw [sI_n (show (17 : Nat) ≠ 22 by decide), sI_n (show (17 : Nat) ≠ 21 by decide)]; exact s7
    · rw [sI_n (show (22 : Nat) ≠ 17 by decide), mA_1, mA_1, sI_s]
    · exact (((hF1.tr (FS.i _ 22 _ (by omega))).tr (FS.a _ 15 _ (by omega))).tr (FS.a _ 13 _ (by omega))).tr (FS.i _ 17 _ (by omega))
  · have hvJ : v < nJ ∧ ¬ lvI nJ (S.2.1 15) v = 0 := by
      rw [h7_eq (by omega), hflb v (by omega)] at a2
      by_cases c : v < nJ
      · refine ⟨c, fun c2 => ?_⟩
        rw [decide_eq_true c, decide_eq_true c2] at a2
        exact absurd a2 (by decide)
      · rw [decide_eq_false c, Bool.false_and] at a2
        exact absurd a2 (by decide)
    obtain ⟨R2, hR2⟩ : ∃ R2, R2 = rI (rF R1 (upd R1.2.1 0 (nI v))) 3 (nI (0 + 1)) := ⟨_, rfl⟩
    have q2 : R2.2.2 2 = 80 := by rw [hR2, rI_n (show (2 : Nat) ≠ 3 by decide)]; exact r2
    have q3 : R2.2.2 3 = nI 1 := by rw [hR2, rI_s]
    have qf : R2.2.1 = upd R1.2.1 0 (nI v) := by rw [hR2]; rfl
    have qN : R2.1 = R.1 := by rw [hR2]; exact rN1
    have e80' : (if R2.2.2 2 = 87 then (4 : Int32) else 2) = 2 := by rw [q2]; decide
    have hc1 : f4_cont R1 (nI v) = some R2 := by
      rw [hR2]
      exact cont_go r3 (by omega) (by rw [e80]; decide)
    obtain ⟨S2, hS2⟩ : ∃ S2, S2 = sI (sI S 21 (nI (p + 1))) 21 (nI (p + 1 + 1)) := ⟨_, rfl⟩
    rw [← hS2] at a4
    have hF2 : FS S S2 := by
      rw [hS2]
      exact hF1.tr (FS.i _ 21 _ (by omega))
    have gi : ∀ i, i ≠ 21 → S2.1 i = S.1 i := fun i hi => by rw [hS2, sI_n hi, sI_n hi]
    have g21 : S2.1 21 = nI (p + 1 + 1) := by rw [hS2, sI_s]
    have g2 : S2.2 = S.2 := by rw [hS2]; rfl
    have hle : f7_left S2 (nI v) = some (lvI nJ (S.2.1 15) v) := by
      rw [left_eq (nJ := nJ) ((gi 16 (by decide)).trans s6) (by omega), g2]
    rcases fig (S := S2) (R := R2) (al := lvI nJ (S.2.1 15) v) (hT.fs hF2) (show p + 1 + 1 ≤ len by omega) g21 ((gi 22 (by decide)).trans h22) (by rw [q2]; decide) (by rw [q2]; decide) (fun u hu => ⟨bt (lvI nJ (S.2.1 15) v) u, by
        unfold f4_fits
        have k0 : f6_cell 4 (upd R1.2.1 0 (nI v)) 0 = nI v := (cell_ok (i := 0) (by omega) (by decide)).trans up_s
        rw [q2, if_neg (show ¬ (80 : Int32) = 74 by decide), if_pos rfl, q3, if_neg (show ¬ nI 1 = 0 by decide), qf, k0, qN, joinable_eq hR (by omega), ob, if_pos hvJ.1, h6_eq (by omega)], h7_eq (by omega) _⟩) with ⟨b1, b2⟩ | ⟨u, hu, hlt2, hx2, b1, b2, b3, b4⟩
    · left
      refine ⟨p + 1 + 1, _, by omega, fun n hn => ?_, rP_eq hP s7 h21 hfl hfl0 hfl2 a4 hle (j := 0) b2 (by omega) (by omega) ?_, ?_, ?_⟩
      · cases n with
        | zero => omega
        | succ n =>
          cases n with
          | zero => omega
          | succ n =>
            refine ⟨R2, ?_⟩
            rw [a3, hc1, ob]
            exact b1 n
      · rw [sI_n (show (17 : Nat) ≠ 22 by decide)]; exact (gi 17 (by decide)).trans s7
      · rw [sI_n (show (22 : Nat) ≠ 17 by decide), mA_1, mA_1, sI_s]
      · exact (((hF2.tr (FS.i _ 22 _ (by omega))).tr (FS.a _ 15 _ (by omega))).tr (FS.a _ 13 _ (by omega))).tr (FS.i _ 17 _ (by omega))
    · right
      have hb2 : bt (lvI nJ (S.2.1 15) v) u = true := by
        rw [h7_eq (by omega)] at b2
        cases q : bt (lvI nJ (S.2.1 15) v) u
        · rw [q] at b2; exact absurd b2 (by decide)
        · rfl
      rw [lv_b _ hb.1 (by omega) (by omega)] at hb2
      have hu3 : u < nJ ∧ bt (S.2.1 15 v) u = false ∧ u ≠ v := by
        simp only [Bool.and_eq_true, decide_eq_true_eq, Bool.not_eq_true', decide_eq_false_iff_not] at hb2
        exact ⟨hb2.1.1, hb2.1.2, hb2.2⟩
      obtain ⟨huJ, hvu, huv⟩ := hu3
      have huv2 : bt (S.2.1 15 u) v = false := by
        cases q : bt (S.2.1 15 u) v
        · rfl
        · obtain ⟨p', y1, y2⟩ := (hj u (by omega) v (by omega)).mp q
          have := (hj v (by omega) u (by omega)).mpr ⟨p', y1, y2.elim (fun z => Or.inr ⟨z.2, z.1⟩) (fun z => Or.inl ⟨z.2, z.1⟩)⟩
          rw [hvu] at this
          cases this
      obtain ⟨N', m1, m2, m3, m4, m5, m6⟩ := addp_eq (N := R.1) (v := nI v) (u := nI u) hP n3
      have had : f4_addPart (rI (rF R2 (upd R2.2.1 1 (nI u))) 3 (nI (1 + 1))) = some (rN (rI (rF R2 (upd R2.2.1 1 (nI u))) 3 (nI (1 + 1))) N') := by
        unfold f4_addPart
        have k2 : (rI (rF R2 (upd R2.2.1 1 (nI u))) 3 (nI (1 + 1))).2.2 2 = 80 := by rw [rI_n (show (2 : Nat) ≠ 3 by decide)]; exact q2
        have kf : (rI (rF R2 (upd R2.2.1 1 (nI u))) 3 (nI (1 + 1))).2.1 = upd (upd R1.2.1 0 (nI v)) 1 (nI u) := by rw [← qf]; rfl
        have kN : (rI (rF R2 (upd R2.2.1 1 (nI u))) 3 (nI (1 + 1))).1 = R.1 := qN
        have k0 : f6_cell 4 (upd (upd R1.2.1 0 (nI v)) 1 (nI u)) 0 = nI v := (cell_ok (i := 0) (by omega) (by decide)).trans ((up_n (by decide)).trans up_s)
        have k1 : f6_cell 4 (upd (upd R1.2.1 0 (nI v)) 1 (nI u)) 1 = nI u := (cell_ok (i := 1) (by omega) (by decide)).trans up_s
        rw [bdk, bdk, k2, if_neg (show ¬ (80 : Int32) = 74 by decide), if_pos rfl, kf, kN, k0, k1, m1, ob, bdk]
      have hpart := rP_eq hP s7 h21 hfl hfl0 hfl2 a4 hle b4 (by omega) (by omega) (by rw [sI_n (show (17 : Nat) ≠ 21 by decide)]; exact (gi 17 (by decide)).trans s7)
      have k22 : (sI S2 21 (nI (p + 1 + 1 + 1))).1 22 = (-9) := by rw [sI_n (show (22 : Nat) ≠ 21 by decide)]; exact (gi 22 (by decide)).trans h22
      rw [k22, if_pos rfl, if_pos rfl, sI_2, g2, up_n (f := S.2.1 15) huv] at hpart
      obtain ⟨A', pA, pA'⟩ : ∃ A' : Nat → Nat, A' nP = v ∧ ∀ q, q ≠ nP → A' q = A q := ⟨fun q => if q = nP then v else A q, if_pos rfl, fun q h => if_neg h⟩
      obtain ⟨B', pB, pB'⟩ : ∃ B' : Nat → Nat, B' nP = u ∧ ∀ q, q ≠ nP → B' q = B q := ⟨fun q => if q = nP then u else B q, if_pos rfl, fun q h => if_neg h⟩
      refine ⟨p + 1 + 1 + 1, rI (rN (rI (rF R2 (upd R2.2.1 1 (nI u))) 3 (nI (1 + 1))) N') 2 0, _, nJ, nP + 1, nW, A', B', by omega, by omega, fun n => ?_, hpart, ?_, ?_, rI_s, ?_, ?_, ?_, ?_⟩
      · rw [show p + 1 + 1 + 1 - (p + 1) = 2 by omega, a3, hc1, ob, b3, cont_end q3 (by omega) (by rw [e80']; decide), had, ob, ob]
      · rw [sI_n (show (21 : Nat) ≠ 17 by decide), mA_1, mA_1, sI_s]
      · rw [sI_n (show (22 : Nat) ≠ 17 by decide), mA_1, mA_1]; exact k22
      · show ReadR N' _ nJ (nP + 1) nW _ _
        have z15 : (sI (mA (mA (sI S2 21 (nI (p + 1 + 1 + 1))) 15 (upd (upd (S.2.1 15) v (S.2.1 15 v ||| (1 : Int32) <<< (nI u &&& 31))) u (S.2.1 15 u ||| (1 : Int32) <<< (nI v &&& 31)))) 13 (upd (upd (S.2.1 13) (2 * nP) (nI v)) (2 * nP + 1) (nI u))) 17 (nI (nP + 1))).2.1 15 = upd (upd (S.2.1 15) v (S.2.1 15 v ||| (1 : Int32) <<< (nI u &&& 31))) u (S.2.1 15 u ||| (1 : Int32) <<< (nI v &&& 31)) := by
          rw [sI_2, mA_n (show (15 : Nat) ≠ 13 by decide), mA_s]
        have z13 : (sI (mA (mA (sI S2 21 (nI (p + 1 + 1 + 1))) 15 (upd (upd (S.2.1 15) v (S.2.1 15 v ||| (1 : Int32) <<< (nI u &&& 31))) u (S.2.1 15 u ||| (1 : Int32) <<< (nI v &&& 31)))) 13 (upd (upd (S.2.1 13) (2 * nP) (nI v)) (2 * nP + 1) (nI u))) 17 (nI (nP + 1))).2.1 13 = upd (upd (S.2.1 13) (2 * nP) (nI v)) (2 * nP + 1) (nI u) := by
          rw [sI_2, mA_s]
        have zr : ∀ r, r ≠ 13 → r ≠ 15 → (sI (mA (mA (sI S2 21 (nI (p + 1 + 1 + 1))) 15 (upd (upd (S.2.1 15) v (S.2.1 15 v ||| (1 : Int32) <<< (nI u &&& 31))) u (S.2.1 15 u ||| (1 : Int32) <<< (nI v &&& 31)))) 13 (upd (upd (S.2.1 13) (2 * nP) (nI v)) (2 * nP + 1) (nI u))) 17 (nI (nP + 1))).2.1 r = S.2.1 r := by
          intro r h1 h2
          rw [sI_2, mA_n h1, mA_n h2, sI_2, g2]
        have zi : ∀ i, i ≠ 17 → i ≠ 21 → (sI (mA (mA (sI S2 21 (nI (p + 1 + 1 + 1))) 15 (upd (upd (S.2.1 15) v (S.2.1 15 v ||| (1 : Int32) <<< (nI u &&& 31))) u (S.2.1 15 u ||| (1 : Int32) <<< (nI v &&& 31)))) 13 (upd (upd (S.2.1 13) (2 * nP) (nI v)) (2 * nP + 1) (nI u))) 17 (nI (nP + 1))).1 i = S.1 i := by
          intro i h1 h2
          rw [sI_n h1, mA_1, mA_1, sI_n h2]
          exact gi i h2
        refine ⟨by omega, ⟨(m3 2 (by decide)).trans n2, m2, (m3 4 (by decide)).trans n4⟩, ⟨(zi 16 (by decide) (by decide)).trans s6, sI_s, (zi 18 (by decide) (by decide)).trans s8⟩, fun j hj' => ?_, fun j hj' => ?_, fun q hq => ?_, fun w hw => ?_, fun i hi k hk => ?_, ?_⟩
        · rw [zr 12 (by decide) (by decide), m6 6 (by decide) (by decide), m3 5 (by decide)]
          exact hlv j hj'
        · rw [m3 5 (by decide)]
          exact hlf j hj'
        · rw [m4, m5, z13]
          by_cases e : q = nP
          · subst e
            rw [up_s, up_s, up_n (show 2 * q ≠ 2 * q + 1 by omega), up_s, up_s, pA, pB]
            exact ⟨rfl, rfl, rfl, rfl, by omega, by omega, fun z => huv z.symm⟩
          · obtain ⟨y1, y2, y3, y4, y5, y6, y7⟩ := hpi q (by omega)
            rw [up_n e, up_n e, up_n (by omega), up_n (by omega), up_n (by omega), up_n (by omega), pA' q e, pB' q e]
            exact ⟨y1, y2, y3, y4, y5, y6, y7⟩
        · obtain ⟨a, l, t, o, w1, w5, w6⟩ := hwk w hw
          rw [m6 9 (by decide) (by decide), m6 10 (by decide) (by decide), m6 11 (by decide) (by decide), m6 12 (by decide) (by decide), zr 14 (by decide) (by decide)]
          exact ⟨a, l, t, o, w1, w5, w6⟩
        · rw [z15]
          have hL : bt (upd (upd (S.2.1 15) v (S.2.1 15 v ||| (1 : Int32) <<< (nI u &&& 31))) u (S.2.1 15 u ||| (1 : Int32) <<< (nI v &&& 31)) i) k = true ↔ bt (S.2.1 15 i) k = true ∨ (i = v ∧ k = u) ∨ (i = u ∧ k = v) := by
            by_cases iu : i = u
            · subst iu
              rw [up_s, b_or, Bool.or_eq_true, b_one (by omega) hk, decide_eq_true_eq]
              constructor
              · rintro (z | z)
                · exact Or.inl z
                · exact Or.inr (Or.inr ⟨rfl, z⟩)
              · rintro (z | ⟨z1, z2⟩ | ⟨z1, z2⟩)
                · exact Or.inl z
                · exact absurd z1 huv
                · exact Or.inr z2
            · rw [up_n iu]
              by_cases iv : i = v
              · subst iv
                rw [up_s, b_or, Bool.or_eq_true, b_one (by omega) hk, decide_eq_true_eq]
                constructor
                · rintro (z | z)
                  · exact Or.inl z
                  · exact Or.inr (Or.inl ⟨rfl, z⟩)
                · rintro (z | ⟨z1, z2⟩ | ⟨z1, z2⟩)
                  · exact Or.inl z
                  · exact Or.inr z2
                  · exact absurd z1 iu
              · rw [up_n iv]
                constructor
                · exact fun z => Or.inl z
                · rintro (z | ⟨z1, z2⟩ | ⟨z1, z2⟩)
                  · exact z
                  · exact absurd z1 iv
                  · exact absurd z1 iu
          rw [hL, hj i hi k hk]
          constructor
          · rintro (⟨q, y1, y2⟩ | ⟨z1, z2⟩ | ⟨z1, z2⟩)
            · refine ⟨q, by omega, ?_⟩
              rw [pA' q (by omega), pB' q (by omega)]
              exact y2
            · refine ⟨nP, by omega, ?_⟩
              rw [pA, pB]
              exact Or.inl ⟨z1.symm, z2.symm⟩
            · refine ⟨nP, by omega, ?_⟩
              rw [pA, pB]
              exact Or.inr ⟨z1.symm, z2.symm⟩
          · rintro ⟨q, y1, y2⟩
            by_cases e : q = nP
            · rw [e, pA, pB] at y2
              rcases y2 with ⟨z1, z2⟩ | ⟨z1, z2⟩
              · exact Or.inr (Or.inl ⟨z1.symm, z2.symm⟩)
              · exact Or.inr (Or.inr ⟨z1.symm, z2.symm⟩)
            · rw [pA' q e, pB' q e] at y2
              exact Or.inl ⟨q, by omega, y2⟩
        · rw [z15]
          have x1 := ec_one (r := S.2.1 15) (a := v) (b := u) (by omega) (by omega) hvu
          have x2 := ec_one (r := upd (S.2.1 15) v (S.2.1 15 v ||| (1 : Int32) <<< (nI u &&& 31))) (a := u) (b := v) (by omega) (by omega) (by rw [up_n huv]; exact huv2)
          rw [up_n (f := S.2.1 15) huv] at x2
          rw [x2, x1, hc]
          omega
      · exact (((hF2.tr (FS.i _ 21 _ (by omega))).tr (FS.a _ 15 _ (by omega))).tr (FS.a _ 13 _ (by omega))).tr (FS.i _ 17 _ (by omega))
      · show N'.1 0 = R1.1.1 0
        rw [rN1]
        exact m3 0 (by decide)
      · show N'.1 1 = R1.1.1 1
        rw [rN1]
        exact m3 1 (by decide)

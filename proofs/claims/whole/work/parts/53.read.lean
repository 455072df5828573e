/-! mathematics: the whole text read -/
theorem takes0 {R : Rd} {x : Int32} (h : R.2.2 2 = 0 ∨ R.2.2 2 = (-1)) : f4_takes R x = if f4_mayBegin R x = 0 then some (0, R) else some (1, rI (rI R 2 x) 3 0) := by
  unfold f4_takes f4_takes_j15
  rcases h with h | h
  · rw [h, if_neg (show ¬ (0 : Int32) = -1 by decide), if_pos rfl, bdk, bdk]
  · rw [h, if_pos rfl, bdk, bdk]
theorem read_step {T : Le} {S : MS} {R : Rd} {len p : Nat} (hT : TxR T S len) (hp : p < len) (h : R.2.2 2 = 0 ∨ R.2.2 2 = (-1)) (n : Nat) : f4_read_l14 T (n + 1) (nI p) R = if f4_mayBegin R (S.2.1 19 p) = 0 then some (nI p, R) else f4_read_l14 T n (nI (p + 1)) (rI (rI R 2 (S.2.1 19 p)) 3 0) := by
  obtain ⟨hl, t1, t2, t3⟩ := hT
  have etx : f1_at T (nI p) = S.2.1 19 p := by
    unfold f1_at
    rw [cell_ok (by omega) (by decide)]
    exact t3 p hp
  rw [f4_read_l14, t1, if_neg (nI_ge hp (by omega)), etx, nI_1, takes0 h]
  by_cases c : f4_mayBegin R (S.2.1 19 p) = 0
  · rw [if_pos c, if_pos c]
    rfl
  · rw [if_neg c, if_neg c]
    rfl
theorem text_end {S : MS} {q n : Nat} (hq : q < 2 ^ 31) (h : S.1 22 = nI q) : f7_readText_l88 (n + 1) S = some (nI q, S) := by
  rw [f7_readText_l88, h, if_neg (n9_ne hq)]
def ReadO (S : MS) (R : Rd) (v : Int32) (R' : Rd) (S' : MS) : Prop :=
  (v = (-9) ∧ (R'.1.1 0 = R.1.1 0 ∧ R'.1.1 1 = R.1.1 1) ∧ ∃ (nJ nP nW : Nat) (A B : Nat → Nat), ReadR R'.1 S' nJ nP nW A B) ∨ ∃ q, q ≤ 60 ∧ v = nI q
theorem read_l {T : Le} {len : Nat} : ∀ (m p : Nat) (R : Rd) (S : MS) (n n' nJ nP nW : Nat) (A B : Nat → Nat), len - p < m → p ≤ len → len < p + n → len < p + n' → TxR T S len → R.2.2 2 = 0 → S.1 21 = nI p → S.1 22 = (-9) → ReadR R.1 S nJ nP nW A B →
    ∃ (v : Int32) (R' : Rd) (S' : MS), f4_read_l14 T n (nI p) R = some (v, R') ∧ f7_readText_l88 n' S = some (v, S') ∧ FS S S' ∧ ReadO S R v R' S' := by
  intro m
  induction m with
  | zero => intro p R S n n' nJ nP nW A B h1; omega
  | succ m ih =>
    intro p R S n n' nJ nP nW A B h1 h2 h3 h4 hT hR2 h21 h22 hR
    obtain ⟨hb, ⟨n2, n3, n4⟩, ⟨s6, s7, s8⟩, -⟩ := id hR
    have hl := hT.1
    cases n with
    | zero => omega
    | succ n =>
    cases n' with
    | zero => omega
    | succ n' =>
    by_cases hp : p < len
    · have hs := read_step hT hp (Or.inl hR2) n
      have hr : f7_readText_l88 (n' + 1) S = (f7_readPart S (S.2.1 19 p)).bind fun S21 => f7_readText_l88 n' S21 := by
        rw [f7_readText_l88, h22, if_pos rfl, hT.2.2.1, h21, if_neg (nI_ge hp (by omega)), rd_ok (by omega) (by decide), ob]
      generalize S.2.1 19 p = x at hs hr
      have hbad : f4_mayBegin R x = 0 → f7_readPart S x = some (sI S 22 (nI p)) → ∃ (v : Int32) (R' : Rd) (S' : MS), f4_read_l14 T (n + 1) (nI p) R = some (v, R') ∧ f7_readText_l88 (n' + 1) S = some (v, S') ∧ FS S S' ∧ ReadO S R v R' S' := by
        intro b1 b2
        rw [hs, if_pos b1, hr, b2, ob]
        cases n' with
        | zero => omega
        | succ n' => exact ⟨_, _, _, rfl, text_end (by omega) sI_s, FS.i S 22 _ (by omega), Or.inr ⟨p, by omega, rfl⟩⟩
      have hgood : ¬ f4_mayBegin R x = 0 → PartO T len (p + 1) (rI (rI R 2 x) 3 0) S x → ∃ (v : Int32) (R' : Rd) (S' : MS), f4_read_l14 T (n + 1) (nI p) R = some (v, R') ∧ f7_readText_l88 (n' + 1) S = some (v, S') ∧ FS S S' ∧ ReadO S R v R' S' := by
        intro b1 b2
        rw [hs, if_neg b1, hr]
        rcases b2 with ⟨q, S', c1, c2, c3, c4, c5⟩ | ⟨p2, R2, S', nJ', nP', nW', A', B', c1, c2, c3, c4, c5, c6, c7, c8, c9, c10, c11⟩
        · obtain ⟨R', d1⟩ := c2 n (by omega)
          rw [d1, c3, ob]
          cases n' with
          | zero => omega
          | succ n' => exact ⟨_, _, _, rfl, text_end (by omega) c4, c5, Or.inr ⟨q, c1, rfl⟩⟩
        · have d1 := c3 (n - (p2 - (p + 1)))
          rw [show n - (p2 - (p + 1)) + (p2 - (p + 1)) = n by omega] at d1
          rw [d1, c4, ob]
          obtain ⟨v, R', S2, e1, e2, e3, e4⟩ := ih p2 R2 S' (n - (p2 - (p + 1))) n' nJ' nP' nW' A' B' (by omega) c2 (by omega) (by omega) (hT.fs c9) c7 c5 c6 c8
          refine ⟨v, R', S2, e1, e2, c9.tr e3, ?_⟩
          rcases e4 with ⟨f1, ⟨f2, f3⟩, f4⟩ | f
          · exact Or.inl ⟨f1, ⟨f2.trans c10, f3.trans c11⟩, f4⟩
          · exact Or.inr f
      have hm : f4_mayBegin R x = if x = 74 then (if (6 : Int32) ≤ nI nJ then 0 else 1) else if x = 80 then (if (8 : Int32) ≤ nI nP then 0 else if nI nJ * (nI nJ - 1) ≤ 2 * nI nP then 0 else 1) else if x = 87 then (if (4 : Int32) ≤ nI nW then 0 else if nI nJ ≤ 0 then 0 else 1) else 0 := by
        unfold f4_mayBegin f3_hasRoomForPipe
        rw [hR2, if_neg (show ¬ (0 : Int32) = -1 by decide), n2, n3, n4]
      by_cases x74 : x = 74
      · subst x74
        rw [if_pos rfl] at hm
        by_cases c : nJ < 6
        · rw [if_neg (show ¬ (6 : Int32) ≤ nI nJ from nI_ge (b := 6) c (by decide))] at hm
          exact hgood (by rw [hm]; decide) (partJ hT hR c (by omega) h21 h22)
        · rw [if_pos (show (6 : Int32) ≤ nI nJ from nI_le (a := 6) (by omega) (by omega))] at hm
          refine hbad hm ?_
          unfold f7_readPart f7_readPart_j74 f7_readPart_j214
          rw [if_pos rfl, s6, if_pos (show (6 : Int32) ≤ nI nJ from nI_le (a := 6) (by omega) (by omega)), if_neg (show ¬ (74 : Int32) = 80 by decide), if_neg (show ¬ (74 : Int32) = 87 by decide), bdk, h21]
      rw [if_neg x74] at hm
      by_cases x80 : x = 80
      · subst x80
        rw [if_pos rfl] at hm
        obtain ⟨fl, u1, u2⟩ := first_eq s6 hb.1
        have hroom := room_eq hR u2
        by_cases c : nP < 8
        · rw [if_neg (show ¬ (8 : Int32) ≤ nI nP from nI_ge (b := 8) c (by decide)), (jj_all nJ (by omega)).1, i2] at hm
          have hjj : nJ * (nJ - 1) < 2 ^ 31 := by
            have : nJ * (nJ - 1) ≤ 6 * 6 := Nat.mul_le_mul hb.1 (by omega)
            omega
          by_cases c2 : fl = 0
          · rw [if_pos (nI_le (hroom.mp c2) (by omega))] at hm
            refine hbad hm ?_
            unfold f7_readPart f7_readPart_j74 f7_readPart_j214
            rw [if_neg (show ¬ (80 : Int32) = 74 by decide), if_pos rfl, s7, if_neg (show ¬ (8 : Int32) ≤ nI nP from nI_ge (b := 8) c (by decide)), u1, ob, if_pos c2, if_neg (show ¬ (80 : Int32) = 87 by decide), bdk, h21]
          · have c3 : ¬ nJ * (nJ - 1) ≤ 2 * nP := fun q => c2 (hroom.mpr q)
            rw [if_neg (nI_ge (by omega) hjj)] at hm
            exact hgood (by rw [hm]; decide) (partP hT hR c u1 u2 c2 (by omega) h21 h22)
        · rw [if_pos (show (8 : Int32) ≤ nI nP from nI_le (a := 8) (by omega) (by omega))] at hm
          refine hbad hm ?_
          unfold f7_readPart f7_readPart_j74 f7_readPart_j214
          rw [if_neg (show ¬ (80 : Int32) = 74 by decide), if_pos rfl, s7, if_pos (show (8 : Int32) ≤ nI nP from nI_le (a := 8) (by omega) (by omega)), if_neg (show ¬ (80 : Int32) = 87 by decide), bdk, h21]
      rw [if_neg x80] at hm
      by_cases x87 : x = 87
      · subst x87
        rw [if_pos rfl] at hm
        by_cases c : nW < 4
        · rw [if_neg (show ¬ (4 : Int32) ≤ nI nW from nI_ge (b := 4) c (by decide))] at hm
          by_cases c2 : 0 < nJ
          · rw [if_neg (nI_nle c2 (by omega))] at hm
            exact hgood (by rw [hm]; decide) (partW hT hR c c2 (by omega) h21 h22)
          · have e : nJ = 0 := by omega
            subst e
            rw [if_pos (show nI 0 ≤ 0 by decide)] at hm
            refine hbad hm ?_
            unfold f7_readPart f7_readPart_j74 f7_readPart_j214
            rw [if_neg (show ¬ (87 : Int32) = 74 by decide), if_neg (show ¬ (87 : Int32) = 80 by decide), if_pos rfl, s8, if_neg (show ¬ (4 : Int32) ≤ nI nW from nI_ge (b := 4) c (by decide)), s6, if_pos (show nI 0 ≤ 0 by decide), bdk, h21]
        · rw [if_pos (show (4 : Int32) ≤ nI nW from nI_le (a := 4) (by omega) (by omega))] at hm
          refine hbad hm ?_
          unfold f7_readPart f7_readPart_j74 f7_readPart_j214
          rw [if_neg (show ¬ (87 : Int32) = 74 by decide), if_neg (show ¬ (87 : Int32) = 80 by decide), if_pos rfl, s8, if_pos (show (4 : Int32) ≤ nI nW from nI_le (a := 4) (by omega) (by omega)), bdk, h21]
      rw [if_neg x87] at hm
      refine hbad hm ?_
      unfold f7_readPart f7_readPart_j74 f7_readPart_j214
      rw [if_neg x74, if_neg x80, if_neg x87, bdk, h21]
    · have e : p = len := by omega
      subst e
      refine ⟨-9, R, S, ?_, ?_, FS.rf S, Or.inl ⟨rfl, ⟨rfl, rfl⟩, nJ, nP, nW, A, B, hR⟩⟩
      · rw [f4_read_l14, hT.2.1, if_pos (nI_le (Nat.le_refl _) (by omega)), if_pos hR2]
      · rw [f7_readText_l88, h22, if_pos rfl, hT.2.2.1, h21, if_pos (nI_le (Nat.le_refl _) (by omega))]
theorem clr_l {S : MS} : ∀ (n i : Nat) (f : Nat → Int32), i ≤ 6 → 6 < i + n → (∀ k, k < i → f k = 0) → ∃ f', f7_readText_l28 n (nI i) (mA S 15 f) = f7_readText_l28 1 (nI 6) (mA S 15 f') ∧ ∀ k, k < 6 → f' k = 0 := by
  intro n
  induction n with
  | zero => intro i f h1 h2; omega
  | succ n ih =>
    intro i f h1 h2 h3
    by_cases hi : i < 6
    · rw [f7_readText_l28, if_neg (show ¬ (6 : Int32) ≤ nI i from nI_ge (b := 6) hi (by decide)), mA_s, wr_ok (by omega) (by decide), ob, bdk, mA_mA, nI_1]
      refine ih (i + 1) _ (by omega) (by omega) (fun k hk => ?_)
      by_cases e : k = i
      · subst e; rw [up_s]
      · rw [up_n e]; exact h3 k (by omega)
    · have e : i = 6 := by omega
      subst e
      refine ⟨f, ?_, h3⟩
      rw [f7_readText_l28, f7_readText_l28, if_pos (show (6 : Int32) ≤ nI 6 by decide), if_pos (show (6 : Int32) ≤ nI 6 by decide)]
theorem clear_eq (N : Mo) : ∃ N', f3_clear N = some N' ∧ N'.1 2 = 0 ∧ N'.1 3 = 0 ∧ N'.1 4 = 0 ∧ N'.1 5 = 0 := ⟨_, rfl, rfl, rfl, rfl, rfl⟩
theorem read_eq (R : Rd) (T : Le) (S : MS) {len : Nat} (hT : TxR T S len) : ∃ (v : Int32) (R' : Rd) (S' : MS), f4_read R T = some (v, R') ∧ f7_readText S = some (v, S') ∧ FS S S' ∧ ((v = (-9) ∧ (3 ≤ len ∧ R'.1.1 0 = S.2.1 19 1 - 48 ∧ R'.1.1 1 = S.2.1 19 2 - 48) ∧ ∃ (nJ nP nW : Nat) (A B : Nat → Nat), ReadR R'.1 S' nJ nP nW A B) ∨ ¬ v = (-9)) := by
  have hl := hT.1
  obtain ⟨N1, k1, k2, k3, k4, k5⟩ := clear_eq R.1
  obtain ⟨R3, hR3⟩ : ∃ R3, R3 = rI (rN R N1) 2 (-1) := ⟨_, rfl⟩
  have hread : f4_read R T = f4_read_l14 T (99 + 1) (nI 0) R3 := by
    unfold f4_read
    rw [k1, ob, bdk, bdk, ← hR3]
    rfl
  have p3 : R3.2.2 2 = (-1) := by rw [hR3, rI_s]
  have pN : R3.1 = N1 := by rw [hR3]; rfl
  obtain ⟨S5, hS5⟩ : ∃ S5, S5 = sI (sI (sI (sI (sI S 21 0) 22 (-9)) 16 0) 17 0) 18 0 := ⟨_, rfl⟩
  have hF5 : FS S S5 := by
    rw [hS5]
    exact ((((FS.i S 21 _ (by omega)).tr (FS.i _ 22 _ (by omega))).tr (FS.i _ 16 _ (by omega))).tr (FS.i _ 17 _ (by omega))).tr (FS.i _ 18 _ (by omega))
  obtain ⟨f', c1, c2⟩ := clr_l (S := S5) FU 0 (S5.2.1 15) (by omega) (by show 6 < 0 + 100; omega) (fun k hk => by omega)
  rw [mA_self] at c1
  obtain ⟨S6, hS6⟩ : ∃ S6, S6 = mA S5 15 f' := ⟨_, rfl⟩
  have htext : f7_readText S = f7_readText_l28 1 (nI 6) S6 := by
    unfold f7_readText
    rw [bdk, bdk, bdk, bdk, bdk, ← hS5, hS6]
    exact c1
  have hF6 : FS S S6 := by rw [hS6]; exact hF5.tr (FS.a _ 15 _ (by omega))
  have i16 : S6.1 16 = nI 0 := by rw [hS6, mA_1, hS5, sI_n (by decide), sI_n (by decide), sI_s]; rfl
  have i17 : S6.1 17 = nI 0 := by rw [hS6, mA_1, hS5, sI_n (by decide), sI_s]; rfl
  have i18 : S6.1 18 = nI 0 := by rw [hS6, mA_1, hS5, sI_s]; rfl
  have i22 : S6.1 22 = (-9) := by rw [hS6, mA_1, hS5, sI_n (by decide), sI_n (by decide), sI_n (by decide), sI_s]
  have r15 : ∀ k, k < 6 → S6.2.1 15 k = 0 := by rw [hS6, mA_s]; exact c2
  have hT6 := hT.fs hF6
  have h19 : S6.2.1 19 = S.2.1 19 := hF6.2.1 19 (by omega)
  rw [hread, htext, f7_readText_l28, if_pos (show (6 : Int32) ≤ nI 6 by decide), hT6.2.2.1]
  by_cases h0 : len = 0
  · subst h0
    rw [if_pos nI_0]
    refine ⟨0, R3, S6, ?_, rfl, hF6, Or.inr (by decide)⟩
    rw [f4_read_l14, hT.2.1, if_pos (nI_le (Nat.le_refl _) (by omega)), p3, if_neg (show ¬ (-1 : Int32) = 0 by decide)]
    rfl
  rw [if_neg (nI_ne0 (by omega) (by omega)), show zrd (S6.2.1 19) 60 0 = some (S6.2.1 19 0) from rd_ok (i := 0) (by omega) (by decide), ob, read_step hT6 (show 0 < len by omega) (Or.inr p3) 99]
  have hm : f4_mayBegin R3 (S6.2.1 19 0) = if S6.2.1 19 0 = 66 then 1 else 0 := by
    unfold f4_mayBegin
    rw [p3, if_pos rfl]
  rw [hm]
  by_cases h66 : S6.2.1 19 0 = 66
  · rw [if_pos h66, if_neg (show ¬ (1 : Int32) = 0 by decide), if_pos h66, bdk, h66]
    obtain ⟨R4, hR4⟩ : ∃ R4, R4 = rI (rI R3 2 66) 3 0 := ⟨_, rfl⟩
    have q2 : R4.2.2 2 = 66 := by rw [hR4, rI_n (show (2 : Nat) ≠ 3 by decide), rI_s]
    have q3 : R4.2.2 3 = nI 0 := by rw [hR4, rI_s]; rfl
    have qN : R4.1 = N1 := by rw [hR4]; exact pN
    rw [← hR4]
    obtain ⟨S7, hS7⟩ : ∃ S7, S7 = sI S6 21 1 := ⟨_, rfl⟩
    rw [← hS7]
    have hF7 : FS S S7 := by rw [hS7]; exact hF6.tr (FS.i _ 21 _ (by omega))
    have j21 : S7.1 21 = nI 1 := by rw [hS7, sI_s]; rfl
    have ji : ∀ i, i ≠ 21 → S7.1 i = S6.1 i := fun i hi => by rw [hS7, sI_n hi]
    have j2 : S7.2 = S6.2 := by rw [hS7]; rfl
    have e66 : (if R4.2.2 2 = 87 then (4 : Int32) else 2) = 2 := by rw [q2]; decide
    have fits66 : ∀ R : Rd, R.2.2 2 = 66 → ∀ v, v ≤ 9 → ∃ b : Bool, f4_fits R (nI v) = some (if b then 1 else 0) ∧ f7_has 1023 (nI v) = if b then 1 else 0 := fun R h v hv => ⟨true, by
      unfold f4_fits
      rw [h, if_neg (show ¬ (66 : Int32) = 74 by decide), if_neg (show ¬ (66 : Int32) = 80 by decide), if_neg (show ¬ (66 : Int32) = 87 by decide), if_pos rfl], by rw [(has_f v (by omega)).1, if_pos rfl]⟩
    rcases fig (S := S7) (R := R4) (al := 1023) (hT.fs hF7) (show 1 ≤ len by omega) j21 ((ji 22 (by decide)).trans i22) (by rw [q2]; decide) (by rw [q2]; decide) (fits66 R4 q2) with ⟨a1, a2⟩ | ⟨v, hv, hlt, hx, -, -, a3, a4⟩
    · have hd := fig_dead (S := sI S7 22 (nI 1)) (q := 1) (by omega) sI_s 1023
      refine ⟨nI 1, R4, sI S7 22 (nI 1), a1 98, ?_, hF7.tr (FS.i _ 22 _ (by omega)), Or.inr (n9_ne (by omega))⟩
      rw [a2, ob]
      dsimp only
      rw [hd, ob]
      exact text_end (n := 99) (by omega) sI_s
    · obtain ⟨R5, hR5⟩ : ∃ R5, R5 = rI (rF R4 (upd R4.2.1 0 (nI v))) 3 (nI (0 + 1)) := ⟨_, rfl⟩
      have x2 : R5.2.2 2 = 66 := by rw [hR5, rI_n (show (2 : Nat) ≠ 3 by decide)]; exact q2
      have x3 : R5.2.2 3 = nI 1 := by rw [hR5, rI_s]
      have xf : R5.2.1 = upd R4.2.1 0 (nI v) := by rw [hR5]; rfl
      have xN : R5.1 = N1 := by rw [hR5]; exact qN
      have hc1 : f4_cont R4 (nI v) = some R5 := by
        rw [hR5]
        exact cont_go q3 (by omega) (by rw [e66]; decide)
      obtain ⟨S8, hS8⟩ : ∃ S8, S8 = sI S7 21 (nI (1 + 1)) := ⟨_, rfl⟩
      rw [← hS8] at a4
      have hF8 : FS S S8 := by rw [hS8]; exact hF7.tr (FS.i _ 21 _ (by omega))
      have l21 : S8.1 21 = nI (1 + 1) := by rw [hS8, sI_s]
      have li : ∀ i, i ≠ 21 → S8.1 i = S6.1 i := fun i hi => by rw [hS8, sI_n hi]; exact ji i hi
      have l2 : S8.2 = S6.2 := by rw [hS8]; exact j2
      rw [a4, ob]
      dsimp only
      rcases fig (S := S8) (R := R5) (al := 1023) (hT.fs hF8) (show 1 + 1 ≤ len by omega) l21 ((li 22 (by decide)).trans i22) (by rw [x2]; decide) (by rw [x2]; decide) (fits66 R5 x2) with ⟨b1, b2⟩ | ⟨u, hu, hlt2, hx2, -, -, b3, b4⟩
      · refine ⟨nI (1 + 1), R5, sI S8 22 (nI (1 + 1)), ?_, ?_, hF8.tr (FS.i _ 22 _ (by omega)), Or.inr (n9_ne (by omega))⟩
        · show f4_read_l14 T (98 + 1) (nI 1) R4 = _
          rw [a3, hc1, ob]
          exact b1 97
        · rw [b2, ob]
          exact text_end (n := 99) (by omega) sI_s
      · obtain ⟨N', hN'⟩ : ∃ N', N' = sI (sI N1 0 (nI v)) 1 (nI u) := ⟨_, rfl⟩
        have had : f4_addPart (rI (rF R5 (upd R5.2.1 1 (nI u))) 3 (nI (1 + 1))) = some (rN (rI (rF R5 (upd R5.2.1 1 (nI u))) 3 (nI (1 + 1))) N') := by
          unfold f4_addPart
          have k2 : (rI (rF R5 (upd R5.2.1 1 (nI u))) 3 (nI (1 + 1))).2.2 2 = 66 := by rw [rI_n (show (2 : Nat) ≠ 3 by decide)]; exact x2
          have kf : (rI (rF R5 (upd R5.2.1 1 (nI u))) 3 (nI (1 + 1))).2.1 = upd (upd R4.2.1 0 (nI v)) 1 (nI u) := by rw [← xf]; rfl
          have kN : (rI (rF R5 (upd R5.2.1 1 (nI u))) 3 (nI (1 + 1))).1 = N1 := xN
          have k0 : f6_cell 4 (upd (upd R4.2.1 0 (nI v)) 1 (nI u)) 0 = nI v := (cell_ok (i := 0) (by omega) (by decide)).trans ((up_n (by decide)).trans up_s)
          have k1 : f6_cell 4 (upd (upd R4.2.1 0 (nI v)) 1 (nI u)) 1 = nI u := (cell_ok (i := 1) (by omega) (by decide)).trans up_s
          have ks : f3_setTides N1 (nI v) (nI u) = some N' := by
            unfold f3_setTides
            rw [bdk, bdk, hN']
          rw [bdk, bdk, k2, if_neg (show ¬ (66 : Int32) = 74 by decide), if_neg (show ¬ (66 : Int32) = 80 by decide), if_neg (show ¬ (66 : Int32) = 87 by decide), kf, kN, k0, k1, ks, ob, bdk]
        have mi : ∀ k, k ≠ 0 → k ≠ 1 → N'.1 k = N1.1 k := fun k h1 h2 => by rw [hN', sI_n h2, sI_n h1]
        have hRR : ReadR N' (sI S8 21 (nI (1 + 1 + 1))) 0 0 0 (fun _ => 0) (fun _ => 0) := by
          refine ⟨by omega, ⟨(mi 2 (by decide) (by decide)).trans k2, (mi 3 (by decide) (by decide)).trans k3, (mi 4 (by decide) (by decide)).trans k4⟩, ⟨?_, ?_, ?_⟩, fun j hj => by omega, fun j _ => ?_, fun q hq => by omega, fun w hw => by omega, fun i hi k hk => ?_, ?_⟩
          · rw [sI_n (by decide)]; exact (li 16 (by decide)).trans i16
          · rw [sI_n (by decide)]; exact (li 17 (by decide)).trans i17
          · rw [sI_n (by decide)]; exact (li 18 (by decide)).trans i18
          · rw [mi 5 (by decide) (by decide), k5, b_0]
          · rw [sI_2, l2, r15 i hi, b_0]
            constructor
            · intro z; cases z
            · rintro ⟨q, z, -⟩; omega
          · rw [sI_2, l2]
            have : ec (S6.2.1 15) = ec (fun _ => 0) := by
              refine sm_cong 6 _ _ (fun i hi => sm_cong 6 _ _ (fun k hk => ?_))
              rw [r15 i hi]
            rw [this]
            decide
        obtain ⟨w, R', S', e1, e2, e3, e4⟩ := read_l (T := T) (len := len) (len + 1) (1 + 1 + 1) (rI (rN (rI (rF R5 (upd R5.2.1 1 (nI u))) 3 (nI (1 + 1))) N') 2 0) (sI S8 21 (nI (1 + 1 + 1))) 97 FU 0 0 0 (fun _ => 0) (fun _ => 0) (by omega) (by omega) (by omega) (by show len < 1 + 1 + 1 + 100; omega) (hT.fs (hF8.tr (FS.i _ 21 _ (by omega)))) rI_s sI_s (by rw [sI_n (by decide)]; exact (li 22 (by decide)).trans i22) hRR
        refine ⟨w, R', S', ?_, ?_, (hF8.tr (FS.i _ 21 _ (by omega))).tr e3, ?_⟩
        · show f4_read_l14 T (97 + 1 + 1) (nI 1) R4 = _
          rw [a3, hc1, ob, b3, cont_end x3 (by omega) (by rw [x2]; decide), had, ob, ob]
          exact e1
        · rw [b4, ob]
          exact e2
        · rcases e4 with ⟨z1, ⟨z2, z3⟩, z4⟩ | ⟨q, z1, z2⟩
          · refine Or.inl ⟨z1, ⟨by omega, z2.trans ?_, z3.trans ?_⟩, z4⟩
            · show N'.1 0 = _
              rw [hN', sI_n (by decide), sI_s, ← hx, j2, h19]
            · show N'.1 1 = _
              rw [hN', sI_s, ← hx2, l2, h19]
          · exact Or.inr (by rw [z2]; exact n9_ne (by omega))
  · rw [if_neg h66, if_pos rfl, if_neg h66]
    exact ⟨_, _, _, rfl, rfl, hF6, Or.inr (by decide)⟩
theorem r_fault (k : Nat) (C : Cs) (S : MS) (hk : k < 64) (h : Rel k C S) : ∃ (r : Int32) (C2 : Cs) (S2 : MS), f6_fault C = some (r, C2) ∧ f7_fault S = some (r, S2) ∧ Rel (k + 1) C2 S2 := by
  obtain ⟨len, hl, t1, t2, t3⟩ := h.tx
  obtain ⟨v, R', S', e1, e2, e3, -⟩ := read_eq C.2.2.2.2.1 C.2.2.2.1 S ⟨hl, t1, t2, t3⟩
  unfold f6_fault f7_fault
  rw [e1, ob, e2, ob]
  refine ⟨v, cCk C R', S', rfl, rfl, h.look ⟨⟨rfl, rfl, rfl⟩, rfl, rfl, rfl, rfl, rfl, rfl⟩ e3.ss rfl e3.2.2⟩

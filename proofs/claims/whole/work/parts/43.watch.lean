/-! mathematics: the fewest joints to watch -/
theorem adv1x {k K nJ nP nW : Nat} {d : Nat → Nat → Nat} {C : Cs} {S : MS} (h : RelN k nJ nP nW d C S) (hK : K < 2 ^ 31) (ht : TrB K nJ nW C S) : ∃ (M' : Mo) (f' : Nat → Int32) (y : Int32), f2_advance (C.1 1) C.2.2.2.2.2.1.1 = some M' ∧ f7_stepOn S 1 = some (y, mA S 11 f') ∧ Lk C (cM C 1 M') S (mA S 11 f') ∧ TrB (K + 1) nJ nW (cM C 1 M') (mA S 11 f') := by
  have hb := h.1.1
  obtain ⟨M', f', a1, a2, a3, a4⟩ := stepon1 h.1 hK ht.1 (ht.2.r hb.2.2 h.2.2.1.1 h.2.2.1.2)
  rw [mA_self] at a2
  refine ⟨M', f', _, (adv_eq _ _).trans a1, a2, Lk.m M' (fun i hi => a3.2.2.1 i (by omega)), ?_, (ht.2.same a3.2.1.1 a3.2.1.2.1).fr (mA_n (by decide))⟩
  rw [mA_s]
  exact a3.1
theorem fill_l : ∀ (n i : Nat) (f : Nat → Int32), i ≤ 4 → 4 < i + n → (∀ j, j < i → f j = 0) → ∃ f', f7_fill_53178_l5 0 n (nI i) f = some f' ∧ ∀ j, j < 4 → f' j = 0 := by
  intro n
  induction n with
  | zero => intro i f h1 h2; omega
  | succ n ih =>
    intro i f h1 h2 h3
    rw [f7_fill_53178_l5]
    by_cases hi : i < 4
    · rw [if_neg (show ¬ (4 : Int32) ≤ nI i from nI_ge (b := 4) hi (by decide)), wr_ok (by omega) (by decide), ob, bdk, nI_1]
      refine ih (i + 1) _ (by omega) (by omega) (fun j hj => ?_)
      by_cases hji : j = i
      · subst hji; rw [up_s]
      · rw [up_n hji]; exact h3 j (by omega)
    · have e : i = 4 := by omega
      subst e
      rw [if_pos (by decide)]
      exact ⟨f, rfl, h3⟩
theorem clear_l {S : MS} {nW : Nat} (hW : nW ≤ 4) (h2 : S.1 2 = nI nW) : ∀ (n i : Nat) (f : Nat → Int32), i ≤ nW → nW < i + n → (∀ j, j < i → f j = 0) → ∃ f', f7_watch_l6 n (nI i) (mA S 29 f) = f7_watch_l29 FU 0 (mA S 29 f') ∧ ∀ j, j < nW → f' j = 0 := by
  intro n
  induction n with
  | zero => intro i f h1 h2; omega
  | succ n ih =>
    intro i f h1 h2' h3
    rw [f7_watch_l6, mA_1, h2]
    by_cases hi : i < nW
    · rw [if_neg (nI_ge hi (by omega)), mA_s, wr_ok (by omega) (by decide), ob, bdk, mA_mA, nI_1]
      refine ih (i + 1) _ (by omega) (by omega) (fun j hj => ?_)
      by_cases hji : j = i
      · subst hji; rw [up_s]
      · rw [up_n hji]; exact h3 j (by omega)
    · have e : i = nW := by omega
      subst e
      rw [if_pos (nI_le (Nat.le_refl _) (by omega))]
      exact ⟨f, rfl, h3⟩
def PsR (nJ nW : Nat) (f g : Nat → Int32) : Prop := ∀ w, w < nW → f w = g w
def PsN (nJ nW : Nat) (g : Nat → Int32) : Prop := ∀ w, w < nW → ∃ b, b < nJ ∧ bt (g w) b = true
theorem pass_l {k nJ nP nW : Nat} {d : Nat → Nat → Nat} {C0 : Cs} {S0 : MS} (h0 : RelN k nJ nP nW d C0 S0) (y : Int32) {K : Nat} (hK : K < 2 ^ 31) : ∀ (n i : Nat) (C : Cs) (S : MS), i ≤ nW → nW < i + n → Lk C0 C S0 S → TrB K nJ nW C S → PsR nJ nW C.2.2.2.2.2.2.1 (S.2.1 29) → PsN nJ i (S.2.1 29) →
    ∃ (C' : Cs) (S' : MS), (∀ kk : Int32 → Cs → Option Cs, f6_findPassed_l29 y kk n (nI i) C = kk (y + 1) C') ∧ (∀ kk : Int32 → MS → Option (Int32 × MS), f7_watch_l37 y kk n (nI i) S = kk (y + 1) S') ∧ Lk C0 C' S0 S' ∧ TrB (K + 1) nJ nW C' S' ∧ PsR nJ nW C'.2.2.2.2.2.2.1 (S'.2.1 29) ∧ PsN nJ nW (S'.2.1 29) := by
  have hb := h0.1.1
  intro n
  induction n with
  | zero => intro i C S h1 h2; omega
  | succ n ih =>
    intro i C S h1 h2 g ht hp hn
    have h := h0.lk g
    by_cases hi : i < nW
    · obtain ⟨j, hj, m0, s0⟩ := (ht.1.1 i hi).1
      have s0' : S.2.1 11 (19 + i) = nI j := s0
      have hpi := hp i hi
      obtain ⟨v, hv⟩ : ∃ v, v = S.2.1 29 i ||| (1 : Int32) <<< (nI j &&& 31) := ⟨_, rfl⟩
      have gl : Lk C (cPs C (upd C.2.2.2.2.2.2.1 i v)) S (mA S 29 (upd (S.2.1 29) i v)) := ⟨⟨⟨rfl, rfl, rfl⟩, rfl, rfl, rfl, rfl, rfl, rfl⟩, ⟨fun _ _ => rfl, fun r _ h2 => mA_n h2, fun q hq => by rw [mA_n (show (11 : Nat) ≠ 29 by decide)]⟩, rfl, rfl⟩
      have ht1 : TrB K nJ nW (cPs C (upd C.2.2.2.2.2.2.1 i v)) (mA S 29 (upd (S.2.1 29) i v)) := by
        refine ⟨?_, ht.2.fr (mA_n (by decide))⟩
        rw [mA_n (show (11 : Nat) ≠ 29 by decide)]
        exact ht.1
      have hp1 : PsR nJ nW (cPs C (upd C.2.2.2.2.2.2.1 i v)).2.2.2.2.2.2.1 ((mA S 29 (upd (S.2.1 29) i v)).2.1 29) := by
        rw [mA_s]
        intro w hw
        show upd C.2.2.2.2.2.2.1 i v w = _
        by_cases hwi : w = i
        · subst hwi; rw [up_s, up_s]
        · rw [up_n hwi, up_n hwi]; exact hp w hw
      have hn1 : PsN nJ (i + 1) ((mA S 29 (upd (S.2.1 29) i v)).2.1 29) := by
        rw [mA_s]
        intro w hw
        by_cases hwi : w = i
        · subst hwi
          rw [up_s, hv]
          exact ⟨j, hj, by rw [b_or, b_one (by omega) (by omega), decide_eq_true rfl, Bool.or_true]⟩
        · rw [up_n hwi]; exact hn w (by omega)
      obtain ⟨C', S', r1, r2, r3⟩ := ih (i + 1) _ _ (by omega) (by omega) (g.tr gl) ht1 hp1 hn1
      refine ⟨C', S', fun kk => ?_, fun kk => ?_, r3⟩
      · rw [f6_findPassed_l29, h.1.2.1.2.2, if_neg (nI_ge hi (by omega)), bdk, cell_ok (f := C.2.2.2.2.2.2.1) (by omega) (by decide), cell_ok (f := (C.1 1).2 0) (by omega) (by decide), m0, put_ok (by omega) (by decide), hpi, bit_eq (by omega), ← hv, nI_1]
        exact r1 kk
      · rw [f7_watch_l37, h.1.2.2.1.2.2, if_neg (nI_ge hi (by omega)), rd_ok (f := S.2.1 29) (by omega) (by decide), ob, show (19 : Int32) + nI i = nI (19 + i) from nI_add 19 i, rd_ok (f := S.2.1 11) (by omega) (by decide), ob, s0', ← hv, wr_ok (by omega) (by decide), ob, bdk, nI_1]
        exact r2 kk
    · have e : i = nW := by omega
      subst e
      obtain ⟨M', f', y', a1, a2, a3, a4⟩ := adv1x h hK ht
      refine ⟨_, _, fun kk => ?_, fun kk => ?_, g.tr a3, a4, ?_, ?_⟩
      · rw [f6_findPassed_l29, h.1.2.1.2.2, if_pos (nI_le (Nat.le_refl _) (by omega)), a1, ob, bdk]
      · rw [f7_watch_l37, h.1.2.2.1.2.2, if_pos (nI_le (Nat.le_refl _) (by omega)), a2, ob]
      · rw [mA_n (show (29 : Nat) ≠ 11 by decide)]
        exact hp
      · rw [mA_n (show (29 : Nat) ≠ 11 by decide)]
        exact hn
theorem passo_l {k nJ nP nW : Nat} {d : Nat → Nat → Nat} {C0 : Cs} {S0 : MS} (h0 : RelN k nJ nP nW d C0 S0) : ∀ (n i K : Nat) (C : Cs) (S : MS), i ≤ 9 → 9 < i + n → K + (9 - i) < 2 ^ 31 → Lk C0 C S0 S → TrB K nJ nW C S → PsR nJ nW C.2.2.2.2.2.2.1 (S.2.1 29) → (1 ≤ i → PsN nJ nW (S.2.1 29)) →
    ∃ (C' : Cs) (S' : MS), f6_findPassed_l21 n (nI i) C = some C' ∧ f7_watch_l29 n (nI i) S = f7_watch_l88 FU (-9) 0 S' ∧ Lk C0 C' S0 S' ∧ PsR nJ nW C'.2.2.2.2.2.2.1 (S'.2.1 29) ∧ PsN nJ nW (S'.2.1 29) := by
  have hb := h0.1.1
  intro n
  induction n with
  | zero => intro i K C S h1 h2; omega
  | succ n ih =>
    intro i K C S h1 h2 hK g ht hp hn
    rw [f6_findPassed_l21, f7_watch_l29]
    by_cases hi : i < 9
    · obtain ⟨C', S', r1, r2, r3, r4, r5, r6⟩ := pass_l h0 (nI i) (K := K) (by omega) FU 0 C S (by omega) (by show nW < 0 + 100; omega) g ht hp (fun w hw => by omega)
      have r1' := r1 (fun y5 C6 => f6_findPassed_l21 n y5 C6)
      have r2' := r2 (fun y5 S6 => f7_watch_l29 n y5 S6)
      rw [nI_1] at r1' r2'
      have r1'' : f6_findPassed_l29 (nI i) (fun y5 C6 => f6_findPassed_l21 n y5 C6) FU 0 C = f6_findPassed_l21 n (nI (i + 1)) C' := r1'
      have r2'' : f7_watch_l37 (nI i) (fun y5 S6 => f7_watch_l29 n y5 S6) FU 0 S = f7_watch_l29 n (nI (i + 1)) S' := r2'
      rw [if_neg (show ¬ (8 : Int32) < nI i from nI_nlt (a := 8) (by omega) (by omega)), if_neg (show ¬ (8 : Int32) < nI i from nI_nlt (a := 8) (by omega) (by omega)), r1'', r2'']
      exact ih (i + 1) (K + 1) C' S' (by omega) (by omega) (by omega) r3 r4 r5 (fun _ => r6)
    · have e : i = 9 := by omega
      subst e
      rw [if_pos (show (8 : Int32) < nI 9 by decide), if_pos (show (8 : Int32) < nI 9 by decide)]
      exact ⟨C, S, rfl, rfl, g, hp, hn (by omega)⟩
theorem meet_l {C : Cs} {S : MS} {nJ nW : Nat} (hW : nW ≤ 4) (n4 : C.2.2.2.2.2.1.1.1 4 = nI nW) (s2 : S.1 2 = nI nW) (ho : ∀ w, w < nW → f7_isOut S 0 (nI w) = some (if bt ((C.1 0).1 5) w then 1 else 0)) (hp : PsR nJ nW C.2.2.2.2.2.2.1 (S.2.1 29)) (s : Nat) : ∀ (n i : Nat), i ≤ nW → nW < i + n →
    ∃ b : Bool, f6_meetsAll_l2 (nI s) C n (nI i) = some (if b then 1 else 0) ∧ (∀ (y8 : Int32) (kk : Int32 → Int32 → MS → Option (Int32 × MS)) (t : Bool), f7_watch_l124 y8 (nI s) kk n (if t then 1 else 0) (nI i) S = kk (if (t && b) then nI s else y8) (nI s + 1) S) ∧ ((∀ w, i ≤ w → w < nW → ¬ (S.2.1 29 w &&& nI s = 0)) → b = true) := by
  have e1 : ¬ ((if (true : Bool) = true then (1 : Int32) else 0) = 0) := by decide
  have e0 : (if (false : Bool) = true then (1 : Int32) else 0) = 0 := by decide
  intro n
  induction n with
  | zero => intro i h1 h2; omega
  | succ n ih =>
    intro i h1 h2
    rw [f6_meetsAll_l2, n4]
    by_cases hi : i < nW
    · obtain ⟨b, b1, b2, b3⟩ := ih (i + 1) (by omega) (by omega)
      have eo := ho i hi
      have hpi := hp i hi
      rw [if_neg (nI_ge hi (by omega)), h6_eq (by omega), cell_ok (by omega) (by decide), hpi, nI_1]
      have key : ∀ (y8 : Int32) (kk : Int32 → Int32 → MS → Option (Int32 × MS)) (t : Bool), f7_watch_l124 y8 (nI s) kk (n + 1) (if t then 1 else 0) (nI i) S = (if (if t = true then (1 : Int32) else 0) = 0 then some 0 else if (if bt ((C.1 0).1 5) i then (1 : Int32) else 0) = 0 then if (S.2.1 29 i &&& nI s) = 0 then some 0 else some 1 else some 1 : Option Int32).bind fun v24 => f7_watch_l124 y8 (nI s) kk n v24 (nI (i + 1)) S := by
        intro y8 kk t
        rw [f7_watch_l124, s2, if_neg (nI_ge hi (by omega)), eo, ob, rd_ok (by omega) (by decide), ob, nI_1]
      cases hout : bt ((C.1 0).1 5) i
      · rw [e0, if_pos rfl]
        rw [hout, e0] at key
        by_cases hz : S.2.1 29 i &&& nI s = 0
        · refine ⟨false, ?_, fun y8 kk t => ?_, fun q => absurd hz (q i (Nat.le_refl _) hi)⟩
          · rw [if_pos hz, e0]
          · have b2' := b2 y8 kk false
            rw [e0] at b2'
            rw [key, if_pos rfl, if_pos hz]
            cases t
            · rw [e0, if_pos rfl, ob, b2']
              rfl
            · rw [if_neg e1, ob, b2']
              rfl
        · refine ⟨b, ?_, fun y8 kk t => ?_, fun q => b3 (fun w h1 h2 => q w (by omega) h2)⟩
          · rw [if_neg hz]; exact b1
          · rw [key, if_pos rfl, if_neg hz]
            cases t
            · rw [e0, if_pos rfl, ob]
              exact b2 y8 kk false
            · rw [if_neg e1, ob]
              exact b2 y8 kk true
      · rw [if_neg e1]
        rw [hout] at key
        refine ⟨b, b1, fun y8 kk t => ?_, fun q => b3 (fun w h1 h2 => q w (by omega) h2)⟩
        rw [key, if_neg e1]
        cases t
        · rw [e0, if_pos rfl, ob]
          exact b2 y8 kk false
        · rw [if_neg e1, ob]
          exact b2 y8 kk true
    · have e : i = nW := by omega
      subst e
      rw [if_pos (nI_le (Nat.le_refl _) (by omega))]
      refine ⟨true, rfl, fun y8 kk t => ?_, fun _ => rfl⟩
      rw [f7_watch_l124, s2, if_pos (nI_le (Nat.le_refl _) (by omega)), bdk]
      cases t
      · rfl
      · rfl
def wcnt (s : Nat) : Nat := (f6_bitCount_0f7a4 (nI s)).toNatClampNeg
theorem wcnt_ok : ∀ s, s < 64 → f6_bitCount_0f7a4 (nI s) = nI (wcnt s) ∧ wcnt s ≤ 6 := by decide +kernel
def WB (pm : Nat → Bool) (lo hi b : Nat) : Prop := ∀ s, lo ≤ s → s < hi → pm s = true → wcnt b < wcnt s ∨ (wcnt b = wcnt s ∧ b ≤ s)
theorem dn_l {C : Cs} {pm : Nat → Bool} {m : Nat} (hm : m ≤ 64) (hpm : ∀ s, s < m → f6_meetsAll C (nI s) = some (if pm s then 1 else 0)) : ∀ (t n b : Nat), t < n → t ≤ m → b < m → pm b = true → WB pm t m b → ∃ b', f6_watch_l17 n (nI b) (nI t + (-1)) C = some (nI b', C) ∧ b' < m ∧ pm b' = true ∧ WB pm 0 m b' := by
  intro t
  induction t with
  | zero =>
    intro n b hn ht hb hp hw
    cases n with
    | zero => omega
    | succ n =>
      rw [f6_watch_l17, if_pos (show nI 0 + (-1) < 0 by decide)]
      exact ⟨b, rfl, hb, hp, hw⟩
  | succ t ih =>
    intro n b hn ht hb hp hw
    cases n with
    | zero => omega
    | succ n =>
      obtain ⟨c1, c2⟩ := wcnt_ok b (by omega)
      obtain ⟨d1, d2⟩ := wcnt_ok t (by omega)
      rw [f6_watch_l17, pk_m1, if_neg (nI_pos (by omega)), c1, d1, hpm t (by omega), ob]
      by_cases hlt : wcnt b < wcnt t
      · rw [if_pos (nI_lt hlt (by omega))]
        refine ih n b (by omega) (by omega) hb hp (fun s h1 h2 h3 => ?_)
        by_cases hs : s = t
        · subst hs; exact Or.inl hlt
        · exact hw s (by omega) h2 h3
      · rw [if_neg (nI_nlt (by omega) (by omega))]
        cases hq : pm t
        · rw [if_neg (show ¬ (false : Bool) = true by decide), if_pos rfl]
          refine ih n b (by omega) (by omega) hb hp (fun s h1 h2 h3 => ?_)
          by_cases hs : s = t
          · subst hs; rw [hq] at h3; cases h3
          · exact hw s (by omega) h2 h3
        · rw [if_neg (show ¬ ((if (true : Bool) = true then (1 : Int32) else 0) = 0) by decide)]
          refine ih n t (by omega) (by omega) (by omega) hq (fun s h1 h2 h3 => ?_)
          by_cases hs : s = t
          · subst hs; exact Or.inr ⟨rfl, Nat.le_refl _⟩
          · rcases hw s (by omega) h2 h3 with q | ⟨q1, q2⟩
            · exact Or.inl (by omega)
            · by_cases h5 : wcnt t < wcnt s
              · exact Or.inl h5
              · exact Or.inr ⟨by omega, by omega⟩
theorem up_l {S : MS} {pm : Nat → Bool} {m : Nat} (hm : m ≤ 64) (hlim : (1 : Int32) <<< (S.1 0 &&& 31) = nI m) (hpm : ∀ s, s < m → ∀ (y8 : Int32) (kk : Int32 → Int32 → MS → Option (Int32 × MS)) (t : Bool), f7_watch_l124 y8 (nI s) kk FU (if t then 1 else 0) 0 S = kk (if (t && pm s) then nI s else y8) (nI s + 1) S) : ∀ (n i : Nat) (y : Int32), i ≤ m → m < i + n → ((y = (-9) ∧ ∀ s, s < i → pm s = false) ∨ ∃ b, b < i ∧ y = nI b ∧ pm b = true ∧ WB pm 0 i b) →
    ∃ v, f7_watch_l88 n y (nI i) S = some (v, S) ∧ ((v = (-9) ∧ ∀ s, s < m → pm s = false) ∨ ∃ b, b < m ∧ v = nI b ∧ pm b = true ∧ WB pm 0 m b) := by
  intro n
  induction n with
  | zero => intro i y h1 h2; omega
  | succ n ih =>
    intro i y h1 h2 h3
    rw [f7_watch_l88, hlim]
    by_cases hi : i < m
    · rw [if_neg (nI_ge hi (by omega))]
      have key : ∀ (t : Bool), f7_watch_l124 y (nI i) (fun y8 y9 S10 => f7_watch_l88 n y8 y9 S10) FU (if t then 1 else 0) 0 S = f7_watch_l88 n (if (t && pm i) then nI i else y) (nI (i + 1)) S := by
        intro t
        rw [hpm i hi, nI_1]
      rcases h3 with ⟨rfl, h3⟩ | ⟨b, hb, rfl, hpb, hw⟩
      · have k1 := key true
        rw [if_pos rfl, Bool.true_and] at k1
        rw [if_pos rfl, ob, k1]
        cases hq : pm i
        · rw [if_neg (show ¬ (false : Bool) = true by decide)]
          refine ih (i + 1) _ (by omega) (by omega) (Or.inl ⟨rfl, fun s hs => ?_⟩)
          by_cases e : s = i
          · subst e; exact hq
          · exact h3 s (by omega)
        · rw [if_pos rfl]
          refine ih (i + 1) _ (by omega) (by omega) (Or.inr ⟨i, by omega, rfl, hq, fun s _ hs hp => ?_⟩)
          by_cases e : s = i
          · subst e; exact Or.inr ⟨rfl, Nat.le_refl _⟩
          · rw [h3 s (by omega)] at hp; cases hp
      · obtain ⟨c1, c2⟩ := wcnt_ok b (by omega)
        obtain ⟨d1, d2⟩ := wcnt_ok i (by omega)
        rw [if_neg (n9_ne (by omega)), ones_all i (by omega), ob, ones_all b (by omega), ob, c1, d1]
        by_cases hlt : wcnt b ≤ wcnt i
        · have k1 := key false
          rw [if_neg (show ¬ (false : Bool) = true by decide), Bool.false_and, if_neg (show ¬ (false : Bool) = true by decide)] at k1
          rw [if_pos (nI_le hlt (by omega)), ob, k1]
          refine ih (i + 1) _ (by omega) (by omega) (Or.inr ⟨b, by omega, rfl, hpb, fun s h1 hs hp => ?_⟩)
          by_cases e : s = i
          · subst e
            by_cases h5 : wcnt b < wcnt s
            · exact Or.inl h5
            · exact Or.inr ⟨by omega, by omega⟩
          · exact hw s h1 (by omega) hp
        · have k1 := key true
          rw [if_pos rfl, Bool.true_and] at k1
          rw [if_neg (nI_ge (by omega) (by omega)), ob, k1]
          cases hq : pm i
          · rw [if_neg (show ¬ (false : Bool) = true by decide)]
            refine ih (i + 1) _ (by omega) (by omega) (Or.inr ⟨b, by omega, rfl, hpb, fun s h1 hs hp => ?_⟩)
            by_cases e : s = i
            · subst e; rw [hq] at hp; cases hp
            · exact hw s h1 (by omega) hp
          · rw [if_pos rfl]
            refine ih (i + 1) _ (by omega) (by omega) (Or.inr ⟨i, by omega, rfl, hq, fun s h1 hs hp => ?_⟩)
            by_cases e : s = i
            · subst e; exact Or.inr ⟨rfl, Nat.le_refl _⟩
            · rcases hw s h1 (by omega) hp with q | ⟨q1, q2⟩
              · exact Or.inl (by omega)
              · exact Or.inl (by omega)
    · have e : i = m := by omega
      subst e
      rw [if_pos (nI_le (Nat.le_refl _) (by omega))]
      exact ⟨y, rfl, h3⟩
theorem p2_all : ∀ n, n < 7 → (1 : Int32) <<< (nI n &&& 31) = nI (2 ^ n) ∧ f6_all (nI n) = nI (2 ^ n) + (-1) ∧ f6_all (nI n) = nI (2 ^ n - 1) ∧ 0 < 2 ^ n ∧ 2 ^ n ≤ 64 := by decide +kernel
theorem r_watch (k : Nat) (C : Cs) (S : MS) (hk : k < 64) (h : Rel k C S) : ∃ (r : Int32) (C2 : Cs) (S2 : MS), f6_watch C = some (r, C2) ∧ f7_watch S = some (r, S2) ∧ Rel (k + 1) C2 S2 := by
  obtain ⟨nJ, nP, nW, d, h⟩ := h
  have hb := h.1.1
  obtain ⟨M1, f1, m1, l1, hM1, hB1, hR1, -, hf⟩ := lay_tr h
  obtain ⟨fp, fp1, fp2⟩ := fill_l FU 0 (cM C 1 M1).2.2.2.2.2.2.1 (by omega) (by show 4 < 0 + 100; omega) (fun j hj => by omega)
  have fp1' : f7_fill_53178 (cM C 1 M1).2.2.2.2.2.2.1 0 = some fp := fp1
  obtain ⟨fc, fc1, fc2⟩ := clear_l (S := mA S 11 f1) hb.2.2 h.1.2.2.1.2.2 FU 0 ((mA S 11 f1).2.1 29) (by omega) (by show nW < 0 + 100; omega) (fun j hj => by omega)
  rw [mA_self] at fc1
  have fc1' : f7_watch_l6 FU 0 (mA S 11 f1) = f7_watch_l29 FU 0 (mA (mA S 11 f1) 29 fc) := fc1
  have g1 : Lk C (cPs (cM C 1 M1) fp) S (mA (mA S 11 f1) 29 fc) := (Lk.m M1 hf).tr ⟨⟨⟨rfl, rfl, rfl⟩, rfl, rfl, rfl, rfl, rfl, rfl⟩, ⟨fun _ _ => rfl, fun r _ h2 => mA_n h2, fun q hq => by rw [mA_n (show (11 : Nat) ≠ 29 by decide)]⟩, rfl, rfl⟩
  have t1 : TrB k nJ nW (cPs (cM C 1 M1) fp) (mA (mA S 11 f1) 29 fc) := by
    refine ⟨?_, (hB1.fr (mA_n (by decide))).fr (mA_n (by decide))⟩
    rw [mA_n (show (11 : Nat) ≠ 29 by decide), mA_s]
    exact hM1
  have p1 : PsR nJ nW (cPs (cM C 1 M1) fp).2.2.2.2.2.2.1 ((mA (mA S 11 f1) 29 fc).2.1 29) := by
    rw [mA_s]
    intro w hw
    exact (fp2 w (by omega)).trans (fc2 w hw).symm
  obtain ⟨C', S', r1, r2, r3, r4, r5⟩ := passo_l h FU 0 k _ _ (by omega) (by show 9 < 0 + 100; omega) (by omega) g1 t1 p1 (fun q => by omega)
  have h' := h.lk r3
  have r2' : f7_watch_l29 FU 0 (mA (mA S 11 f1) 29 fc) = f7_watch_l88 FU (-9) 0 S' := r2
  have r1' : f6_findPassed C = some C' := by
    unfold f6_findPassed
    rw [m1, ob, bdk, fp1', ob, bdk]
    exact r1
  obtain ⟨q1, q2, q3, q4, q5⟩ := p2_all nJ (by omega)
  have ho : ∀ w, w < nW → f7_isOut S' 0 (nI w) = some (if bt ((C'.1 0).1 5) w then 1 else 0) := fun w hw => isout_eq (pl := 0) (by omega) (by omega) (h'.2.1.1.1 w hw).2.2.2
  obtain ⟨pm, hpm⟩ : ∃ pm : Nat → Bool, ∀ s, f6_meetsAll_l2 (nI s) C' FU (nI 0) = some (if pm s then 1 else 0) ∧ (∀ (y8 : Int32) (kk : Int32 → Int32 → MS → Option (Int32 × MS)) (t : Bool), f7_watch_l124 y8 (nI s) kk FU (if t then 1 else 0) (nI 0) S' = kk (if (t && pm s) then nI s else y8) (nI s + 1) S') ∧ ((∀ w, 0 ≤ w → w < nW → ¬ (S'.2.1 29 w &&& nI s = 0)) → pm s = true) :=
    Classical.axiomOfChoice (fun s => meet_l (nJ := nJ) hb.2.2 h'.1.2.1.2.2 h'.1.2.2.1.2.2 ho r4 s FU 0 (by omega) (by show nW < 0 + 100; omega))
  have hfull : pm (2 ^ nJ - 1) = true := by
    refine (hpm (2 ^ nJ - 1)).2.2 (fun w _ hw hz => ?_)
    obtain ⟨b, hb1, hb2⟩ := r5 w hw
    have := congrArg (fun x => bt x b) hz
    rw [b_and, hb2, ← q3, b_all nJ (by omega) b (by omega), decide_eq_true hb1, b_0] at this
    cases this
  obtain ⟨b1, e1, e2, e3, e4⟩ := dn_l (C := C') (pm := pm) q5 (fun s _ => (hpm s).1) (2 ^ nJ) FU (2 ^ nJ - 1) (by show _ < 100; omega) (Nat.le_refl _) (by omega) hfull (fun s h1 h2 => by omega)
  obtain ⟨v, u1, u2⟩ := up_l (S := S') (pm := pm) q5 (by rw [h'.1.2.2.1.1]; exact q1) (fun s _ => (hpm s).2.1) FU 0 (-9) (by omega) (by show _ < 0 + 100; omega) (Or.inl ⟨rfl, fun s hs => by omega⟩)
  have u1' : f7_watch_l88 FU (-9) 0 S' = some (v, S') := u1
  have hv : v = nI b1 := by
    rcases u2 with ⟨-, u3⟩ | ⟨b2, w1, w2, w3, w4⟩
    · rw [u3 _ e2] at e3; cases e3
    · have x1 := e4 b2 (by omega) w1 w3
      have x2 := w4 b1 (by omega) e2 e3
      have : b1 = b2 := by omega
      rw [w2, this]
  unfold f6_watch f7_watch
  rw [r1', ob, bdk, h'.1.2.1.1, l1, ob, fc1', r2', u1', hv]
  refine ⟨nI b1, C', S', ?_, rfl, h.lkr r3⟩
  rw [q2]
  rw [← q2, q3] at e1
  rw [← q2, q3]
  exact e1

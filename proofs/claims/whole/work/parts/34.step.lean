/-! mathematics: a step of both -/
theorem mA_1 {S : MS} {k : Nat} {f : Nat → Int32} : (mA S k f).1 = S.1 := rfl
theorem mA_2 {S : MS} {k : Nat} {f : Nat → Int32} : (mA S k f).2.2 = S.2.2 := rfl
theorem mA_s {S : MS} {k : Nat} {f : Nat → Int32} : (mA S k f).2.1 k = f := vu_s
theorem mA_n {S : MS} {k j : Nat} {f : Nat → Int32} (h : j ≠ k) : (mA S k f).2.1 j = S.2.1 j := vu_n h
theorem vu_vu {α : Type} {h : Nat → α} {k : Nat} {f g : α} : va_up (va_up h k f) k g = va_up h k g := by
  funext j
  by_cases hj : j = k
  · subst hj; rw [vu_s, vu_s]
  · rw [vu_n hj, vu_n hj, vu_n hj]
theorem vu_self {α : Type} {h : Nat → α} {k : Nat} : va_up h k (h k) = h := by
  funext j
  by_cases hj : j = k
  · subst hj; rw [vu_s]
  · rw [vu_n hj]
theorem mA_mA {S : MS} {k : Nat} {f g : Nat → Int32} : mA (mA S k f) k g = mA S k g := by
  show (S.1, va_up (va_up S.2.1 k f) k g, S.2.2) = (S.1, va_up S.2.1 k g, S.2.2)
  rw [vu_vu]
theorem mA_self {S : MS} {k : Nat} : mA S k (S.2.1 k) = S := by
  show (S.1, va_up S.2.1 k (S.2.1 k), S.2.2) = S
  rw [vu_self]
theorem sA_s {M : Mo} {k : Nat} {a : Nat → Int32} : (sA M k a).2 k = a := vu_s
theorem sA_n {M : Mo} {k j : Nat} {a : Nat → Int32} (h : j ≠ k) : (sA M k a).2 j = M.2 j := vu_n h
theorem sA_1 {M : Mo} {k : Nat} {a : Nat → Int32} : (sA M k a).1 = M.1 := rfl
theorem sI_s {β : Type} {S : (Nat → Int32) × β} {k : Nat} {v : Int32} : (sI S k v).1 k = v := up_s
theorem sI_n {β : Type} {S : (Nat → Int32) × β} {k j : Nat} {v : Int32} (h : j ≠ k) : (sI S k v).1 j = S.1 j := up_n h
theorem sI_2 {β : Type} {S : (Nat → Int32) × β} {k : Nat} {v : Int32} : (sI S k v).2 = S.2 := rfl
theorem NetR.fr {N : Mo} {S : MS} {nJ nP nW : Nat} {d : Nat → Nat → Nat} (hN : NetR N S nJ nP nW d) (S' : MS) (h1 : ∀ i, i < 5 → S'.1 i = S.1 i) (h2 : ∀ r, 5 ≤ r → r ≤ 10 → S'.2.1 r = S.2.1 r) : NetR N S' nJ nP nW d := by
  unfold NetR at hN ⊢
  rw [h1 0 (by omega), h1 1 (by omega), h1 2 (by omega), h1 3 (by omega), h1 4 (by omega), h2 5 (by omega) (by omega), h2 6 (by omega) (by omega), h2 7 (by omega) (by omega), h2 8 (by omega) (by omega), h2 9 (by omega) (by omega), h2 10 (by omega) (by omega)]
  exact hN
theorem NetR.m11 {N : Mo} {S : MS} {nJ nP nW : Nat} {d : Nat → Nat → Nat} (hN : NetR N S nJ nP nW d) {f : Nat → Int32} : NetR N (mA S 11 f) nJ nP nW d :=
  hN.fr _ (fun _ _ => rfl) (fun r h1 h2 => mA_n (by omega))
def MomR (K nJ nW : Nat) (M : Mo) (f : Nat → Int32) (o : Nat) : Prop :=
  (∀ w, w < nW → (∃ j, j < nJ ∧ M.2 0 w = nI j ∧ f (o + w) = nI j) ∧ (M.2 1 w = f (o + 4 + w) ∧ JoinOK nJ (M.2 1 w)) ∧ (∃ g, g ≤ 9 ∧ M.2 2 w = nI g ∧ f (o + 8 + w) = nI g) ∧ f (o + 12 + w) = if bt (M.1 5) w then 1 else 0) ∧
  (∀ k, nW ≤ k → k < 32 → bt (M.1 5) k = false) ∧
  (f (o + 16) = M.1 6 ∧ f (o + 17) = M.1 7) ∧ (∃ c, c ≤ K ∧ M.1 8 = nI c ∧ f (o + 18) = nI c)
def SetR (nW : Nat) (M : Mo) (S : MS) : Prop :=
  (∀ w, w < nW → ∃ t, t < 4 ∧ M.2 3 w = nI t ∧ (if nI w = S.1 24 then S.1 25 else S.2.1 8 w) = nI t) ∧
  (∀ w, w < nW → bt (M.1 4) w = bt (S.1 23) w) ∧ (∀ w, nW ≤ w → w < 32 → bt (M.1 4) w = false)
theorem SetR.same {nW : Nat} {M M' : Mo} {S : MS} (h : SetR nW M S) (h3 : M'.2 3 = M.2 3) (h4 : M'.1 4 = M.1 4) : SetR nW M' S := by
  unfold SetR at h ⊢
  rw [h3, h4]
  exact h
theorem tide_eq {N : Mo} {S : MS} {nJ nP nW : Nat} {d : Nat → Nat → Nat} (hN : NetR N S nJ nP nW d) {pl c : Nat} (hpl : pl < 2) (hc : c < 2 ^ 31) (hf : S.2.1 11 (19 * pl + 18) = nI c) : f7_tideOn S (nI pl) = some (f3_tide N (nI c)) := by
  unfold f7_tideOn f3_tide
  have e : nI c - nI c / 4 * 4 = nI (c % 4) := pk_rem (d := 4) hc (by omega) (by decide)
  have e2 : nI c &&& 3 = nI (c % 4) := pk_andN (by omega) 2 (by decide)
  rw [show 19 * nI pl + 18 = nI (19 * pl + 18) from i19 pl 18, rd_ok (by omega) (by decide), ob, hf, e, e2, hN.2.2.2.1.1, hN.2.2.2.1.2]
  by_cases h : (2 : Int32) ≤ nI (c % 4)
  · rw [if_pos h, if_pos h]
  · rw [if_neg h, if_neg h]
theorem isout_eq {S : MS} {pl w : Nat} (hpl : pl < 2) (hw : w < 4) {b : Bool} (h : S.2.1 11 (19 * pl + 12 + w) = if b then 1 else 0) : f7_isOut S (nI pl) (nI w) = some (if b then 1 else 0) := by
  unfold f7_isOut
  rw [show 19 * nI pl + 12 + nI w = nI (19 * pl + 12 + w) from i19b pl 12 w, rd_ok (by omega) (by decide), ob, h]
  cases b <;> decide
theorem walk_c {M : Mo} {w j g b : Nat} (hw : w < 4) (hb : b < 6) (hg : g ≤ 9) (m0 : M.2 0 w = nI j) (m2 : M.2 2 w = nI g) :
    f2_walkOn M (nI w) (nI b) = some (sA (sA (sA M 1 (upd (M.2 1) w (nI j))) 0 (upd (M.2 0) w (nI b))) 2 (upd (M.2 2) w (nI (if g < 9 then g + 1 else 9)))) := by
  unfold f2_walkOn
  rw [if_neg (n9_ne (by omega))]
  simp only [bd]
  rw [cell_ok (f := M.2 0) (by omega) (by decide), m0, put_ok (f := M.2 1) (by omega) (by decide), sA_n (show (0 : Nat) ≠ 1 by decide), put_ok (f := M.2 0) (by omega) (by decide), sA_n (show (2 : Nat) ≠ 0 by decide), sA_n (show (2 : Nat) ≠ 1 by decide), cell_ok (f := M.2 2) (by omega) (by decide), m2, put_ok (f := M.2 2) (by omega) (by decide), nI_1]
  by_cases h : g < 9
  · rw [if_pos h, if_neg (show ¬ (9 : Int32) < nI (g + 1) from nI_nlt (a := 9) (by omega) (by omega))]
  · have : g = 9 := by omega
    subst this
    rw [if_neg h, if_pos (by decide)]
    rfl
theorem walk_m {K nJ nW : Nat} {M : Mo} {f : Nat → Int32} {o w j g b : Nat} (h : MomR K nJ nW M f o) (hW : nW ≤ 4) (hw : w < nW) (hj : j < nJ) (hb : b < nJ) (hg : g ≤ 9) :
    MomR K nJ nW (sA (sA (sA M 1 (upd (M.2 1) w (nI j))) 0 (upd (M.2 0) w (nI b))) 2 (upd (M.2 2) w (nI g))) (upd (upd (upd f (o + 4 + w) (nI j)) (o + w) (nI b)) (o + 8 + w) (nI g)) o := by
  obtain ⟨hq, ho, ⟨h6, h7⟩, c, hc, hc1, hc2⟩ := h
  refine ⟨fun x hx => ?_, ho, ⟨?_, ?_⟩, c, hc, hc1, ?_⟩
  · obtain ⟨⟨a, ha, a1, a2⟩, ⟨b1, b2⟩, ⟨e, he, e1, e2⟩, o1⟩ := hq x hx
    rw [sA_n (show (0 : Nat) ≠ 2 by decide), sA_s, sA_n (show (1 : Nat) ≠ 2 by decide), sA_n (show (1 : Nat) ≠ 0 by decide), sA_s, sA_s]
    by_cases hxw : x = w
    · subst hxw
      refine ⟨⟨b, hb, up_s, ?_⟩, ⟨?_, ?_⟩, ⟨g, hg, up_s, up_s⟩, ?_⟩
      · rw [up_n (by omega), up_s]
      · rw [up_s, up_n (by omega), up_n (by omega), up_s]
      · rw [up_s]; exact Or.inr ⟨j, hj, rfl⟩
      · rw [up_n (by omega), up_n (by omega), up_n (by omega)]; exact o1
    · refine ⟨⟨a, ha, ?_, ?_⟩, ⟨?_, ?_⟩, ⟨e, he, ?_, ?_⟩, ?_⟩
      · rw [up_n hxw]; exact a1
      · rw [up_n (by omega), up_n (by omega), up_n (by omega)]; exact a2
      · rw [up_n hxw, up_n (by omega), up_n (by omega), up_n (by omega)]; exact b1
      · rw [up_n hxw]; exact b2
      · rw [up_n hxw]; exact e1
      · rw [up_n (by omega), up_n (by omega), up_n (by omega)]; exact e2
      · rw [up_n (by omega), up_n (by omega), up_n (by omega)]; exact o1
  · rw [up_n (by omega), up_n (by omega), up_n (by omega)]; exact h6
  · rw [up_n (by omega), up_n (by omega), up_n (by omega)]; exact h7
  · rw [up_n (by omega), up_n (by omega), up_n (by omega)]; exact hc2
theorem come_m {K nJ nW : Nat} {M : Mo} {f : Nat → Int32} {o w : Nat} {v : Int32} (h : MomR K nJ nW M f o) (hW : nW ≤ 4) (hw : w < nW) :
    MomR K nJ nW (sI (sI M 5 (M.1 5 ||| (1 : Int32) <<< (nI w &&& 31))) 7 v) (upd (upd f (o + 12 + w) 1) (o + 17) v) o := by
  obtain ⟨hq, ho, ⟨h6, h7⟩, c, hc, hc1, hc2⟩ := h
  refine ⟨fun x hx => ?_, fun k h1 h2 => ?_, ⟨?_, ?_⟩, c, hc, ?_, ?_⟩
  · obtain ⟨⟨a, ha, a1, a2⟩, ⟨b1, b2⟩, ⟨e, he, e1, e2⟩, o1⟩ := hq x hx
    rw [sI_2, sI_2, sI_n (show (5 : Nat) ≠ 7 by decide), sI_s]
    refine ⟨⟨a, ha, a1, ?_⟩, ⟨?_, b2⟩, ⟨e, he, e1, ?_⟩, ?_⟩
    · rw [up_n (by omega), up_n (by omega)]; exact a2
    · rw [up_n (by omega), up_n (by omega)]; exact b1
    · rw [up_n (by omega), up_n (by omega)]; exact e2
    · rw [up_n (by omega), b_or, b_one (by omega) (by omega)]
      by_cases hxw : x = w
      · subst hxw
        rw [up_s, decide_eq_true rfl, Bool.or_true, if_pos rfl]
      · rw [up_n (by omega), decide_eq_false hxw, Bool.or_false]; exact o1
  · rw [sI_n (show (5 : Nat) ≠ 7 by decide), sI_s, b_or, b_one (by omega) h2, decide_eq_false (by omega), Bool.or_false]
    exact ho k h1 h2
  · rw [up_n (by omega), up_n (by omega), sI_n (show (6 : Nat) ≠ 7 by decide), sI_n (show (6 : Nat) ≠ 5 by decide)]; exact h6
  · rw [up_s, sI_s]
  · rw [sI_n (show (8 : Nat) ≠ 7 by decide), sI_n (show (8 : Nat) ≠ 5 by decide)]; exact hc1
  · rw [up_n (by omega), up_n (by omega)]; exact hc2
theorem come_eq {N M : Mo} {S : MS} {nJ nP nW : Nat} {d : Nat → Nat → Nat} (hN : NetR N S nJ nP nW d) {f : Nat → Int32} {pl w j g : Nat} (hpl : pl < 2) (hw : w < nW) (hj : j < nJ) (hg : g ≤ 9)
    (m0 : M.2 0 w = nI j) (s0 : f (19 * pl + w) = nI j) (m2 : M.2 2 w = nI g) (s2 : f (19 * pl + 8 + w) = nI g) (s7 : f (19 * pl + 17) = M.1 7) :
    (f2_comeUp M N (nI w) = some M ∧ ∀ (k : Int32 → Int32 → MS → Option (Int32 × MS)) (y : Int32), f7_stepBy_j127 (19 * nI pl) y (nI w) k (mA S 11 f) = k y (nI (w + 1)) (mA S 11 f)) ∨
    (f2_comeUp M N (nI w) = some (sI (sI M 5 (M.1 5 ||| (1 : Int32) <<< (nI w &&& 31))) 7 (M.1 7 ||| (1 : Int32) <<< (nI j &&& 31))) ∧ ∀ (k : Int32 → Int32 → MS → Option (Int32 × MS)) (y : Int32), f7_stepBy_j127 (19 * nI pl) y (nI w) k (mA S 11 f) = k (y ||| (1 : Int32) <<< (nI w &&& 31)) (nI (w + 1)) (mA S 11 (upd (upd f (19 * pl + 12 + w) 1) (19 * pl + 17) (M.1 7 ||| (1 : Int32) <<< (nI j &&& 31))))) := by
  obtain ⟨⟨h1, h2, h3⟩, -, -, -, -, hli, -, -, hwk⟩ := hN
  obtain ⟨q1, q2, q3, -⟩ := hwk w hw
  have hA : f2_comeUp M N (nI w) = if nI g < nI (d 10 w) then some M else if f6_has (N.1 5 &&& (M.1 7 ^^^ (-1))) (nI j) = 0 then some M else some (sI (sI M 5 (M.1 5 ||| (1 : Int32) <<< (nI w &&& 31))) 7 (M.1 7 ||| (1 : Int32) <<< (nI j &&& 31))) := by
    unfold f2_comeUp
    simp only [bd]
    rw [cell_ok (f := M.2 0) (by omega) (by decide), m0, cell_ok (f := M.2 2) (by omega) (by decide), m2, cell_ok (f := N.2 10) (by omega) (by decide), q1, bit_eq (i := w) (by omega), bit_eq (i := j) (by omega), sI_n (show (7 : Nat) ≠ 5 by decide)]
  have hB : ∀ (k : Int32 → Int32 → MS → Option (Int32 × MS)) (y : Int32), f7_stepBy_j127 (19 * nI pl) y (nI w) k (mA S 11 f) = if nI g < nI (d 10 w) then k y (nI (w + 1)) (mA S 11 f) else if S.2.1 6 j = 1 then if f7_has (M.1 7) (nI j) = 0 then k (y ||| (1 : Int32) <<< (nI w &&& 31)) (nI (w + 1)) (mA S 11 (upd (upd f (19 * pl + 12 + w) 1) (19 * pl + 17) (M.1 7 ||| (1 : Int32) <<< (nI j &&& 31)))) else k y (nI (w + 1)) (mA S 11 f) else k y (nI (w + 1)) (mA S 11 f) := by
    intro k y
    unfold f7_stepBy_j127
    simp only [bd]
    rw [show 19 * nI pl + nI w = nI (19 * pl + w) from i19 pl w, show 19 * nI pl + 8 + nI w = nI (19 * pl + 8 + w) from i19b pl 8 w, show 19 * nI pl + 12 + nI w = nI (19 * pl + 12 + w) from i19b pl 12 w, show 19 * nI pl + 17 = nI (19 * pl + 17) from i19 pl 17, mA_s, rd_ok (by omega) (by decide), ob, s0, rd_ok (by omega) (by decide), ob, s2, mA_n (show (9 : Nat) ≠ 11 by decide), rd_ok (by omega) (by decide), ob, q2, mA_n (show (6 : Nat) ≠ 11 by decide), rd_ok (by omega) (by decide), ob, rd_ok (by omega) (by decide), ob, s7, wr_ok (by omega) (by decide), ob, mA_s, rd_ok (by omega) (by decide), ob, up_n (by omega), s7, wr_ok (by omega) (by decide), ob, mA_mA, mA_mA, nI_1]
  have hl := hli j hj
  have hh : f6_has (N.1 5 &&& (M.1 7 ^^^ (-1))) (nI j) = if (bt (N.1 5) j && !bt (M.1 7) j) then 1 else 0 := by
    rw [h6_eq (by omega), b_and, b_not _ (by omega)]
  have h7 : f7_has (M.1 7) (nI j) = if bt (M.1 7) j then 1 else 0 := h7_eq (by omega) _
  by_cases c1 : nI g < nI (d 10 w)
  · exact Or.inl ⟨by rw [hA, if_pos c1], fun k y => by rw [hB, if_pos c1]⟩
  · cases hb1 : bt (N.1 5) j
    · rw [hb1] at hl hh
      refine Or.inl ⟨?_, fun k y => ?_⟩
      · rw [hA, if_neg c1, hh, if_pos (by rw [Bool.false_and]; decide)]
      · rw [hB, if_neg c1, hl, if_neg (by decide)]
    · rw [hb1] at hl hh
      cases hb2 : bt (M.1 7) j
      · rw [hb2] at hh h7
        refine Or.inr ⟨?_, fun k y => ?_⟩
        · rw [hA, if_neg c1, hh, if_neg (by decide)]
        · rw [hB, if_neg c1, hl, if_pos (by decide), h7, if_pos (by decide)]
      · rw [hb2] at hh h7
        refine Or.inl ⟨?_, fun k y => ?_⟩
        · rw [hA, if_neg c1, hh, if_pos (by decide)]
        · rw [hB, if_neg c1, hl, if_pos (by decide), h7, if_neg (by decide)]
def StepI (K nJ nW pl : Nat) (M : Mo) (f : Nat → Int32) (M' : Mo) (f' : Nat → Int32) : Prop :=
  MomR K nJ nW M' f' (19 * pl) ∧ (M'.2 3 = M.2 3 ∧ M'.1 4 = M.1 4 ∧ M'.1 6 = M.1 6) ∧ (∀ k, k < 19 * pl ∨ 19 * pl + 19 ≤ k → f' k = f k) ∧ (∀ w, bt (M.1 5) w = true → bt (M'.1 5) w = true ∧ M'.2 0 w = M.2 0 w)
theorem StepI.tr {K K' nJ nW pl : Nat} {M M1 M2 : Mo} {f f1 f2 : Nat → Int32} (h : StepI K nJ nW pl M f M1 f1) (h' : StepI K' nJ nW pl M1 f1 M2 f2) : StepI K' nJ nW pl M f M2 f2 := by
  obtain ⟨a1, ⟨a2, a3, a4⟩, a5, a6⟩ := h
  obtain ⟨b1, ⟨b2, b3, b4⟩, b5, b6⟩ := h'
  exact ⟨b1, ⟨b2.trans a2, b3.trans a3, b4.trans a4⟩, fun k hk => (b5 k hk).trans (a5 k hk), fun w hw => ⟨(b6 w (a6 w hw).1).1, (b6 w (a6 w hw).1).2.trans (a6 w hw).2⟩⟩
theorem step_end {N : Mo} {nW : Nat} (tide : Int32) {M : Mo} (hs : ∀ w, nW ≤ w → w < 32 → bt (M.1 4) w = false) : ∀ (n i : Nat), nW ≤ i → i ≤ 4 → 4 < i + n → f2_advanceBy_l2 tide N n (nI i) M = some (sI M 8 (M.1 8 + 1)) := by
  intro n
  induction n with
  | zero => intro i h1 h2 h3; omega
  | succ n ih =>
    intro i h1 h2 h3
    rw [f2_advanceBy_l2]
    by_cases hi : i < 4
    · rw [if_neg (show ¬ (4 : Int32) ≤ nI i from nI_ge (b := 4) hi (by decide)), h6_eq (by omega), b_and, hs i h1 (by omega), Bool.false_and, if_neg (show ¬ (false : Bool) = true by decide), if_pos rfl, nI_1]
      exact ih (i + 1) (by omega) (by omega) (by omega)
    · have : i = 4 := by omega
      subst this
      rw [if_pos (by decide)]
      rfl
theorem step_l {N : Mo} {S : MS} {nJ nP nW : Nat} {d : Nat → Nat → Nat} (hN : NetR N S nJ nP nW d) {pl K : Nat} (hpl : pl < 2) (tide o0 : Int32) : ∀ (n i : Nat) (M : Mo) (f : Nat → Int32) (y : Int32), i ≤ nW → 4 < i + n → MomR K nJ nW M f (19 * pl) → SetR nW M S → (∀ k, k < 32 → bt y k = (bt (M.1 5) k && !bt o0 k)) → (∀ k, k < 32 → bt o0 k = true → bt (M.1 5) k = true) →
    ∃ (M' : Mo) (f' : Nat → Int32) (y' : Int32), f2_advanceBy_l2 tide N n (nI i) M = some M' ∧ f7_stepBy_l11 (nI pl) tide (19 * nI pl) n y (nI i) (mA S 11 f) = some (y', mA S 11 f') ∧ StepI (K + 1) nJ nW pl M f M' f' ∧ (∀ k, k < 32 → bt y' k = (bt (M'.1 5) k && !bt o0 k)) := by
  have hb := hN.1
  have hS2 : S.1 2 = nI nW := hN.2.2.1.2.2
  intro n
  induction n with
  | zero => intro i M f y hi hn; omega
  | succ n ih =>
    intro i M f y hi hn hM hT hy ho
    by_cases hlt : i < nW
    · obtain ⟨⟨j, hj, m0, s0⟩, ⟨m1, f1⟩, ⟨g, hg, m2, s2⟩, so⟩ := hM.1 i hlt
      obtain ⟨t, ht, m3, s3⟩ := hT.1 i hlt
      have hth := hT.2.1 i hlt
      have eA : f2_advanceBy_l2 tide N (n + 1) (nI i) M = if (if (bt (M.1 4) i && !bt (M.1 5) i) then (1 : Int32) else 0) = 0 then f2_advanceBy_l2 tide N n (nI (i + 1)) M else (f2_nextOf M N (nI i) tide).bind fun v6 => (f2_walkOn M (nI i) v6).bind fun M7 => (f2_comeUp M7 N (nI i)).bind fun M8 => f2_advanceBy_l2 tide N n (nI (i + 1)) M8 := by
        rw [f2_advanceBy_l2, if_neg (show ¬ (4 : Int32) ≤ nI i from nI_ge (b := 4) (by omega) (by decide)), h6_eq (by omega), b_and, b_not _ (by omega), nI_1]
      have eO : f7_isOut (mA S 11 f) (nI pl) (nI i) = some (if bt (M.1 5) i then 1 else 0) := isout_eq hpl (by omega) (by rw [mA_s]; exact so)
      rw [f7_stepBy_l11, mA_1, hS2, if_neg (nI_ge hlt (by omega)), eO, ob, h7_eq (by omega), ← hth, nI_1, eA]
      cases hout : bt (M.1 5) i
      · rw [if_neg (show ¬ (false : Bool) = true by decide), if_pos rfl, Bool.not_false, Bool.and_true]
        cases hbt : bt (M.1 4) i
        · rw [if_neg (show ¬ (false : Bool) = true by decide), if_pos rfl, if_pos rfl]
          exact ih (i + 1) M f y (by omega) (by omega) hM hT hy ho
        · have e1 : ¬ ((if (true : Bool) = true then (1 : Int32) else 0) = 0) := by decide
          rw [if_neg e1, if_neg e1]
          obtain ⟨v, n1, n2, n3⟩ := next_eq (M := M) (hN.m11 (f := f)) tide hpl hlt hj ht hout m0 (by rw [mA_s]; exact s0) (by rw [mA_s]; exact m1) f1 m3 (by rw [mA_1, mA_n (show (8 : Nat) ≠ 11 by decide)]; exact s3) (by rw [mA_s]; exact hM.2.2.1.1)
          rw [n1, n2, ob, ob]
          have fin : ∀ (M7 : Mo) (f7 : Nat → Int32) (j7 g7 : Nat), StepI K nJ nW pl M f M7 f7 → M7.1 = M.1 → j7 < nJ → g7 ≤ 9 → M7.2 0 i = nI j7 → f7 (19 * pl + i) = nI j7 → M7.2 2 i = nI g7 → f7 (19 * pl + 8 + i) = nI g7 →
              ∃ (M' : Mo) (f' : Nat → Int32) (y' : Int32), ((f2_comeUp M7 N (nI i)).bind fun M8 => f2_advanceBy_l2 tide N n (nI (i + 1)) M8) = some M' ∧ f7_stepBy_j127 (19 * nI pl) y (nI i) (fun y2 y3 S4 => f7_stepBy_l11 (nI pl) tide (19 * nI pl) n y2 y3 S4) (mA S 11 f7) = some (y', mA S 11 f') ∧ StepI (K + 1) nJ nW pl M f M' f' ∧ (∀ k, k < 32 → bt y' k = (bt (M'.1 5) k && !bt o0 k)) := by
            intro M7 f7 j7 g7 hI h1 hj7 hg7 x0 z0 x2 z2
            have hT7 : SetR nW M7 S := hT.same hI.2.1.1 hI.2.1.2.1
            rcases come_eq hN (f := f7) hpl hlt hj7 hg7 x0 z0 x2 z2 hI.1.2.2.1.2 with ⟨c1, c2⟩ | ⟨c1, c2⟩
            · rw [c1, c2, ob]
              obtain ⟨M', f', y', r1, r2, r3, r4⟩ := ih (i + 1) M7 f7 y (by omega) (by omega) hI.1 hT7 (by rw [h1]; exact hy) (by rw [h1]; exact ho)
              exact ⟨M', f', y', r1, r2, hI.tr r3, r4⟩
            · rw [c1, c2, ob]
              have hm := come_m (v := M7.1 7 ||| (1 : Int32) <<< (nI j7 &&& 31)) hI.1 hb.2.2 hlt
              have hI2 : StepI K nJ nW pl M7 f7 (sI (sI M7 5 (M7.1 5 ||| (1 : Int32) <<< (nI i &&& 31))) 7 (M7.1 7 ||| (1 : Int32) <<< (nI j7 &&& 31))) (upd (upd f7 (19 * pl + 12 + i) 1) (19 * pl + 17) (M7.1 7 ||| (1 : Int32) <<< (nI j7 &&& 31))) := by
                refine ⟨hm, ⟨rfl, ?_, ?_⟩, fun k hk => ?_, fun w hw => ⟨?_, rfl⟩⟩
                · rw [sI_n (show (4 : Nat) ≠ 7 by decide), sI_n (show (4 : Nat) ≠ 5 by decide)]
                · rw [sI_n (show (6 : Nat) ≠ 7 by decide), sI_n (show (6 : Nat) ≠ 5 by decide)]
                · rw [up_n (by omega), up_n (by omega)]
                · rw [sI_n (show (5 : Nat) ≠ 7 by decide), sI_s, b_or, hw, Bool.true_or]
              have hT8 : SetR nW (sI (sI M7 5 (M7.1 5 ||| (1 : Int32) <<< (nI i &&& 31))) 7 (M7.1 7 ||| (1 : Int32) <<< (nI j7 &&& 31))) S := hT7.same hI2.2.1.1 hI2.2.1.2.1
              obtain ⟨M', f', y', r1, r2, r3, r4⟩ := ih (i + 1) _ _ (y ||| (1 : Int32) <<< (nI i &&& 31)) (by omega) (by omega) hm hT8 (by
                intro k hk
                rw [sI_n (show (5 : Nat) ≠ 7 by decide), sI_s, b_or, b_or, hy k hk, h1, b_one (by omega) hk]
                by_cases hki : k = i
                · subst hki
                  cases h0 : bt o0 k
                  · simp
                  · have := ho k hk h0
                    rw [hout] at this
                    cases this
                · rw [decide_eq_false hki, Bool.or_false, Bool.or_false]) (by
                intro k hk h0
                rw [sI_n (show (5 : Nat) ≠ 7 by decide), sI_s, b_or, h1, ho k hk h0, Bool.true_or])
              exact ⟨M', f', y', r1, r2, hI.tr (hI2.tr r3), r4⟩
          rcases n3 with rfl | ⟨b, hb1, rfl⟩
          · have e2 : f2_walkOn M (nI i) (-9) = some M := by
              unfold f2_walkOn
              rw [if_pos rfl]
            rw [if_pos rfl, e2, ob]
            exact fin M f j g ⟨hM, ⟨rfl, rfl, rfl⟩, fun _ _ => rfl, fun _ h => ⟨h, rfl⟩⟩ rfl hj hg m0 s0 m2 s2
          · rw [if_neg (n9_ne (by omega)), walk_c (by omega) (by omega) hg m0 m2, ob]
            simp only [bd]
            have e9 : nI g + (if (9 : Int32) ≤ nI g then 0 else 1) = nI (if g < 9 then g + 1 else 9) := by
              by_cases h : g < 9
              · rw [if_pos h, if_neg (show ¬ (9 : Int32) ≤ nI g from nI_ge (b := 9) h (by decide)), nI_1]
              · have : g = 9 := by omega
                subst this
                decide
            rw [show 19 * nI pl + nI i = nI (19 * pl + i) from i19 pl i, show 19 * nI pl + 4 + nI i = nI (19 * pl + 4 + i) from i19b pl 4 i, show 19 * nI pl + 8 + nI i = nI (19 * pl + 8 + i) from i19b pl 8 i, mA_s, rd_ok (by omega) (by decide), ob, s0, wr_ok (by omega) (by decide), ob, mA_mA, mA_s, wr_ok (by omega) (by decide), ob, mA_mA, mA_s, rd_ok (by omega) (by decide), ob, ob, up_n (by omega), up_n (by omega), s2, e9, wr_ok (by omega) (by decide), ob, mA_mA]
            have hm := walk_m (g := if g < 9 then g + 1 else 9) hM hb.2.2 hlt hj hb1 (by split <;> omega)
            refine fin _ _ b (if g < 9 then g + 1 else 9) ⟨hm, ⟨?_, rfl, rfl⟩, fun k hk => ?_, fun w hw => ⟨hw, ?_⟩⟩ rfl hb1 (by split <;> omega) ?_ ?_ ?_ ?_
            · rw [sA_n (show (3 : Nat) ≠ 2 by decide), sA_n (show (3 : Nat) ≠ 0 by decide), sA_n (show (3 : Nat) ≠ 1 by decide)]
            · rw [up_n (by omega), up_n (by omega), up_n (by omega)]
            · rw [sA_n (show (0 : Nat) ≠ 2 by decide), sA_s, up_n (by rintro rfl; rw [hout] at hw; cases hw)]
            · rw [sA_n (show (0 : Nat) ≠ 2 by decide), sA_s, up_s]
            · rw [up_n (by omega), up_s]
            · rw [sA_s, up_s]
            · rw [up_s]
      · have e1 : ¬ ((if (true : Bool) = true then (1 : Int32) else 0) = 0) := by decide
        rw [if_neg e1, Bool.not_true, Bool.and_false, if_neg (show ¬ (false : Bool) = true by decide), if_pos rfl]
        exact ih (i + 1) M f y (by omega) (by omega) hM hT hy ho
    · have e : i = nW := by omega
      subst e
      obtain ⟨hq, hk, ⟨h6, h7⟩, c, hc, hc1, hc2⟩ := hM
      rw [step_end tide hT.2.2 (n + 1) i (Nat.le_refl _) (by omega) hn, f7_stepBy_l11, mA_1, hS2, if_pos (nI_le (Nat.le_refl _) (by omega)), show 19 * nI pl + 18 = nI (19 * pl + 18) from i19 pl 18, mA_s, rd_ok (by omega) (by decide), ob, hc2, wr_ok (by omega) (by decide), ob, nI_1]
      simp only [bd]
      rw [mA_mA]
      refine ⟨_, _, y, rfl, rfl, ⟨⟨fun w hw => ?_, hk, ⟨?_, ?_⟩, c + 1, by omega, ?_, up_s⟩, ⟨rfl, rfl, rfl⟩, fun k hk => ?_, fun w hw => ⟨hw, rfl⟩⟩, hy⟩
      · obtain ⟨⟨a, ha, a1, a2⟩, ⟨b1, b2⟩, ⟨e, he, e1, e2⟩, o1⟩ := hq w hw
        refine ⟨⟨a, ha, a1, ?_⟩, ⟨?_, b2⟩, ⟨e, he, e1, ?_⟩, ?_⟩
        · rw [up_n (by omega)]; exact a2
        · rw [up_n (by omega)]; exact b1
        · rw [up_n (by omega)]; exact e2
        · rw [up_n (by omega)]; exact o1
      · rw [up_n (by omega)]; exact h6
      · rw [up_n (by omega)]; exact h7
      · rw [sI_s, hc1, nI_1]
      · rw [up_n (by omega)]
/-- a step by a tide -/
theorem step_eq {N M : Mo} {S : MS} {nJ nP nW : Nat} {d : Nat → Nat → Nat} (hN : NetR N S nJ nP nW d) {pl K : Nat} {f : Nat → Int32} (hpl : pl < 2) (tide : Int32) (hM : MomR K nJ nW M f (19 * pl)) (hT : SetR nW M S) :
    ∃ (M' : Mo) (f' : Nat → Int32), f2_advanceBy M N tide = some M' ∧ f7_stepBy (mA S 11 f) (nI pl) tide = some (M'.1 5 &&& (M.1 5 ^^^ (-1)), mA S 11 f') ∧ StepI (K + 1) nJ nW pl M f M' f' ∧ SetR nW M' S := by
  obtain ⟨M', f', y', r1, r2, r3, r4⟩ := step_l hN hpl tide (M.1 5) FU 0 M f 0 (Nat.zero_le _) (by show 4 < 0 + 100; omega) hM hT (fun k hk => by rw [b_0, Bool.and_not_self]) (fun k hk h => h)
  refine ⟨M', f', r1, ?_, r3, hT.same r3.2.1.1 r3.2.1.2.1⟩
  have e : y' = M'.1 5 &&& (M.1 5 ^^^ (-1)) := by
    apply b_ext
    intro k hk
    rw [r4 k hk, b_and, b_not _ hk]
  rw [← e]
  exact r2
/-- a step by the clock's tide -/
theorem stepon_eq {N M : Mo} {S : MS} {nJ nP nW : Nat} {d : Nat → Nat → Nat} (hN : NetR N S nJ nP nW d) {pl K : Nat} {f : Nat → Int32} (hpl : pl < 2) (hK : K < 2 ^ 31) (hM : MomR K nJ nW M f (19 * pl)) (hT : SetR nW M S) :
    ∃ (M' : Mo) (f' : Nat → Int32), f2_advanceBy M N (f3_tide N (M.1 8)) = some M' ∧ f7_stepOn (mA S 11 f) (nI pl) = some (M'.1 5 &&& (M.1 5 ^^^ (-1)), mA S 11 f') ∧ StepI (K + 1) nJ nW pl M f M' f' ∧ SetR nW M' S := by
  obtain ⟨c, hc, hc1, hc2⟩ := hM.2.2.2
  obtain ⟨M', f', r1, r2, r3, r4⟩ := step_eq hN hpl (f3_tide N (M.1 8)) hM hT
  refine ⟨M', f', r1, ?_, r3, r4⟩
  unfold f7_stepOn
  rw [tide_eq (c := c) (hN.m11 (f := f)) hpl (by omega) (by rw [mA_s]; exact hc2), ob, ← hc1, r2]
  rfl

/-! mathematics: copies, the row of acts, and the relation between both -/
def CopyOf (M' M : Mo) : Prop := (∀ r, r < 4 → ∀ j, j < 4 → M'.2 r j = M.2 r j) ∧ (∀ r, 4 ≤ r → r ≤ 8 → M'.1 r = M.1 r)
theorem copy_l {Mb : Mo} : ∀ (n i : Nat) (M : Mo), i ≤ 4 → 4 < i + n → (∀ r, r < 4 → ∀ j, j < i → M.2 r j = Mb.2 r j) → ∃ M', f2_copy_l2 Mb n (nI i) M = some M' ∧ CopyOf M' Mb := by
  intro n
  induction n with
  | zero => intro i M h1 h2; omega
  | succ n ih =>
    intro i M h1 h2 h3
    rw [f2_copy_l2]
    by_cases hi : i < 4
    · rw [if_neg (show ¬ (4 : Int32) ≤ nI i from nI_ge (b := 4) hi (by decide))]
      simp only [bd]
      rw [nI_1]
      refine ih (i + 1) _ (by omega) (by omega) ?_
      have key : ∀ r, r < 4 → ∀ j, j < i + 1 → f6_put 4 (M.2 r) (nI i) (f6_cell 4 (Mb.2 r) (nI i)) j = Mb.2 r j := by
        intro r hr j hj
        rw [cell_ok (by omega) (by decide), put_ok (by omega) (by decide)]
        by_cases hji : j = i
        · subst hji; rw [up_s]
        · rw [up_n hji]; exact h3 r hr j (by omega)
      intro r hr j hj
      rcases (show r = 0 ∨ r = 1 ∨ r = 2 ∨ r = 3 by omega) with rfl | rfl | rfl | rfl
      · exact key 0 (by omega) j hj
      · exact key 1 (by omega) j hj
      · exact key 2 (by omega) j hj
      · exact key 3 (by omega) j hj
    · have e : i = 4 := by omega
      subst e
      rw [if_pos (by decide)]
      simp only [bd]
      refine ⟨_, rfl, fun r hr j hj => h3 r hr j hj, fun r h4 h8 => ?_⟩
      rcases (show r = 4 ∨ r = 5 ∨ r = 6 ∨ r = 7 ∨ r = 8 by omega) with rfl | rfl | rfl | rfl | rfl <;> rfl
theorem copy_eq (M Mb : Mo) : ∃ M', f2_copy M Mb = some M' ∧ CopyOf M' Mb :=
  copy_l FU 0 M (by omega) (by show 4 < 0 + 100; omega) (fun r hr j hj => by omega)
theorem MomR.cp {K nJ nW : Nat} {M M' : Mo} {f : Nat → Int32} {o : Nat} (h : MomR K nJ nW M f o) (hW : nW ≤ 4) (hc : CopyOf M' M) : MomR K nJ nW M' f o := by
  obtain ⟨c1, c2⟩ := hc
  unfold MomR at h ⊢
  rw [c2 5 (by omega) (by omega), c2 6 (by omega) (by omega), c2 7 (by omega) (by omega), c2 8 (by omega) (by omega)]
  refine ⟨fun w hw => ?_, h.2⟩
  rw [c1 0 (by omega) w (by omega), c1 1 (by omega) w (by omega), c1 2 (by omega) w (by omega)]
  exact h.1 w hw
theorem MomR.sh {K nJ nW : Nat} {M : Mo} {f f' : Nat → Int32} {o o' : Nat} (h : MomR K nJ nW M f o) (hW : nW ≤ 4) (hf : ∀ k, k < 19 → f' (o' + k) = f (o + k)) : MomR K nJ nW M f' o' := by
  obtain ⟨hq, ho, ⟨h6, h7⟩, c, hc, hc1, hc2⟩ := h
  refine ⟨fun w hw => ?_, ho, ⟨(hf 16 (by omega)).trans h6, (hf 17 (by omega)).trans h7⟩, c, hc, hc1, (hf 18 (by omega)).trans hc2⟩
  have e0 : f' (o' + w) = f (o + w) := hf w (by omega)
  have e1 : f' (o' + 4 + w) = f (o + 4 + w) := by
    have := hf (4 + w) (by omega)
    rw [← Nat.add_assoc, ← Nat.add_assoc] at this
    exact this
  have e2 : f' (o' + 8 + w) = f (o + 8 + w) := by
    have := hf (8 + w) (by omega)
    rw [← Nat.add_assoc, ← Nat.add_assoc] at this
    exact this
  have e3 : f' (o' + 12 + w) = f (o + 12 + w) := by
    have := hf (12 + w) (by omega)
    rw [← Nat.add_assoc, ← Nat.add_assoc] at this
    exact this
  rw [e0, e1, e2, e3]
  exact hq w hw
theorem MomR.mono {K K' nJ nW : Nat} {M : Mo} {f : Nat → Int32} {o : Nat} (h : MomR K nJ nW M f o) (hK : K ≤ K') : MomR K' nJ nW M f o := by
  obtain ⟨hq, ho, h67, c, hc, hc1, hc2⟩ := h
  exact ⟨hq, ho, h67, c, by omega, hc1, hc2⟩
/-- the turns and who is there, in earnest -/
def SetB (nW : Nat) (M : Mo) (S : MS) : Prop :=
  (∀ w, w < nW → ∃ t, t < 4 ∧ M.2 3 w = nI t ∧ S.2.1 8 w = nI t) ∧ (∀ w, w < nW → bt (M.1 4) w = true) ∧ (∀ w, nW ≤ w → w < 32 → bt (M.1 4) w = false)
theorem SetB.cp {nW : Nat} {M M' : Mo} {S : MS} (h : SetB nW M S) (hW : nW ≤ 4) (hc : CopyOf M' M) : SetB nW M' S := by
  obtain ⟨c1, c2⟩ := hc
  unfold SetB at h ⊢
  rw [c2 4 (by omega) (by omega)]
  refine ⟨fun w hw => ?_, h.2⟩
  rw [c1 3 (by omega) w (by omega)]
  exact h.1 w hw
theorem SetB.same {nW : Nat} {M M' : Mo} {S : MS} (h : SetB nW M S) (h3 : M'.2 3 = M.2 3) (h4 : M'.1 4 = M.1 4) : SetB nW M' S := by
  unfold SetB at h ⊢
  rw [h3, h4]
  exact h
theorem SetB.fr {nW : Nat} {M : Mo} {S S' : MS} (h : SetB nW M S) (h8 : S'.2.1 8 = S.2.1 8) : SetB nW M S' := by
  unfold SetB at h ⊢
  rw [h8]
  exact h
theorem b_15 : ∀ k, k < 4 → bt 15 k = true := by decide +kernel
theorem SetB.r {nW : Nat} {M : Mo} {S : MS} (h : SetB nW M S) (hW : nW ≤ 4) (h3 : S.1 23 = 15) (h4 : S.1 24 = (-9)) : SetR nW M S := by
  refine ⟨fun w hw => ?_, fun w hw => ?_, h.2.2⟩
  · obtain ⟨t, ht, t1, t2⟩ := h.1 w hw
    exact ⟨t, ht, t1, by rw [h4, if_neg (n9_ne (by omega))]; exact t2⟩
  · rw [h.2.1 w hw, h3, b_15 w (by omega)]
theorem lay_l {S : MS} {g : Nat → Int32} : ∀ (n i : Nat) (f : Nat → Int32), i ≤ 19 → 19 < i + n → (∀ k, k < 19 → f k = g k) → (∀ k, k < i → f (19 + k) = g k) → ∃ f', f7_layTrial_l2 n (nI i) (mA S 11 f) = some (mA S 11 f') ∧ (∀ k, k < 19 → f' k = g k) ∧ (∀ k, k < 19 → f' (19 + k) = g k) := by
  intro n
  induction n with
  | zero => intro i f h1 h2; omega
  | succ n ih =>
    intro i f h1 h2 h3 h4
    rw [f7_layTrial_l2]
    by_cases hi : i < 19
    · rw [if_neg (show ¬ (19 : Int32) ≤ nI i from nI_ge (b := 19) hi (by decide)), mA_s, rd_ok (by omega) (by decide), ob, show 19 + nI i = nI (19 + i) from nI_add 19 i, wr_ok (by omega) (by decide), ob, nI_1]
      simp only [bd]
      rw [mA_mA]
      refine ih (i + 1) _ (by omega) (by omega) (fun k hk => by rw [up_n (by omega)]; exact h3 k hk) (fun k hk => ?_)
      by_cases hki : k = i
      · subst hki; rw [up_s]; exact h3 k (by omega)
      · rw [up_n (by omega)]; exact h4 k (by omega)
    · have e : i = 19 := by omega
      subst e
      rw [if_pos (by decide)]
      exact ⟨f, rfl, h3, h4⟩
theorem lay_eq (S : MS) : ∃ f', f7_layTrial S = some (mA S 11 f') ∧ (∀ k, k < 19 → f' k = S.2.1 11 k) ∧ (∀ k, k < 19 → f' (19 + k) = S.2.1 11 k) := by
  have h := lay_l (S := S) (g := S.2.1 11) FU 0 (S.2.1 11) (by omega) (by show 19 < 0 + 100; omega) (fun _ _ => rfl) (fun k hk => by omega)
  rw [mA_self] at h
  exact h
/-- the row of acts -/
def RowR (K nJ nW : Nat) (P : Ro) (S : MS) : Prop := ∃ a x, a ≤ 14 ∧ x < 14 ∧ P.2.2 = nI a ∧ S.1 26 = nI a ∧ S.1 27 = nI x ∧ (∀ i, i < 14 → P.2.1 i < 14) ∧ (∀ i j, i < 14 → j < 14 → P.2.1 i = P.2.1 j → i = j) ∧ ∀ i, i < a → MomR K nJ nW (P.1 (P.2.1 i)) (S.2.1 28) (19 * ((x + 14 - a + i) % 14)) ∧ SetB nW (P.1 (P.2.1 i)) S
theorem RowR.fr {K K' nJ nW : Nat} {P : Ro} {S S' : MS} (h : RowR K nJ nW P S) (hK : K ≤ K') (h26 : S'.1 26 = S.1 26) (h27 : S'.1 27 = S.1 27) (h28 : S'.2.1 28 = S.2.1 28) (h8 : S'.2.1 8 = S.2.1 8) : RowR K' nJ nW P S' := by
  obtain ⟨a, x, ha, hx, e1, e2, e3, e4, e5, e6⟩ := h
  refine ⟨a, x, ha, hx, e1, h26.trans e2, h27.trans e3, e4, e5, fun i hi => ?_⟩
  rw [h28]
  exact ⟨(e6 i hi).1.mono hK, (e6 i hi).2.fr h8⟩
theorem keep_l {S : MS} {x a : Nat} (hx : x < 14) (h27 : S.1 27 = nI x) (ha : a ≤ 14) (h26 : S.1 26 = nI a) : ∀ (n i : Nat) (f : Nat → Int32), i ≤ 19 → 19 < i + n → (∀ k, k < i → f (19 * x + k) = S.2.1 11 k) → ∃ f', f7_keepAct_l2 n (nI i) (mA S 28 f) = some (sI (sI (mA S 28 f') 27 (nI ((x + 1) % 14))) 26 (nI (if a < 14 then a + 1 else 14))) ∧ (∀ k, k < 19 → f' (19 * x + k) = S.2.1 11 k) ∧ (∀ k, k < 19 * x ∨ 19 * x + 19 ≤ k → f' k = f k) := by
  intro n
  induction n with
  | zero => intro i f h1 h2; omega
  | succ n ih =>
    intro i f h1 h2 h4
    rw [f7_keepAct_l2]
    by_cases hi : i < 19
    · rw [if_neg (show ¬ (19 : Int32) ≤ nI i from nI_ge (b := 19) hi (by decide)), mA_n (show (11 : Nat) ≠ 28 by decide), rd_ok (by omega) (by decide), ob, mA_s, mA_1, h27, show 19 * nI x + nI i = nI (19 * x + i) from i19 x i, wr_ok (by omega) (by decide), ob, nI_1]
      simp only [bd]
      rw [mA_mA]
      obtain ⟨f', r1, r2, r3⟩ := ih (i + 1) (upd f (19 * x + i) (S.2.1 11 i)) (by omega) (by omega) (fun k hk => by
        by_cases hki : k = i
        · subst hki; rw [up_s]
        · rw [up_n (by omega)]; exact h4 k (by omega))
      exact ⟨f', r1, r2, fun k hk => (r3 k hk).trans (up_n (by omega))⟩
    · have e : i = 19 := by omega
      subst e
      rw [if_pos (by decide)]
      simp only [bd]
      have e1 : nI x + 1 - (nI x + 1) / 14 * 14 = nI ((x + 1) % 14) := by
        rw [nI_1]
        exact pk_rem (d := 14) (by omega) (by omega) (by decide)
      have e2 : (if (14 : Int32) ≤ nI a then 14 else nI a + 1) = nI (if a < 14 then a + 1 else 14) := by
        by_cases h : a < 14
        · rw [if_neg (show ¬ (14 : Int32) ≤ nI a from nI_ge (b := 14) h (by decide)), if_pos h, nI_1]
        · have : a = 14 := by omega
          subst this
          decide
      rw [mA_1, h27, e1, sI_n (show (26 : Nat) ≠ 27 by decide), mA_1, h26, e2]
      exact ⟨f, rfl, h4, fun _ _ => rfl⟩
theorem zopen_t {α : Type} {c : Prop} {a : Option α} (h : c) : zopen c a = a := by
  unfold zopen
  rw [if_pos h]
/-- an act begins: both keep the moment -/
theorem push_eq {K nJ nW : Nat} {P : Ro} {S : MS} {M : Mo} (h : RowR K nJ nW P S) (hW : nW ≤ 4) (hM : MomR K nJ nW M (S.2.1 11) 0) (hB : SetB nW M S) :
    ∃ (P' : Ro) (S' : MS), f5_push P M = some P' ∧ f7_keepAct S = some S' ∧ RowR K nJ nW P' S' ∧ (∀ i, i ≠ 26 → i ≠ 27 → S'.1 i = S.1 i) ∧ (∀ r, r ≠ 28 → S'.2.1 r = S.2.1 r) ∧ S'.2.2 = S.2.2 := by
  obtain ⟨a, x, ha, hx, e1, e2, e3, e4, e5, e6⟩ := h
  obtain ⟨f', r1, r2, r3⟩ := keep_l (S := S) hx e3 ha e2 FU 0 (S.2.1 28) (by omega) (by show 19 < 0 + 100; omega) (fun k hk => by omega)
  rw [mA_self] at r1
  have hk : f7_keepAct S = some (sI (sI (mA S 28 f') 27 (nI ((x + 1) % 14))) 26 (nI (if a < 14 then a + 1 else 14))) := r1
  have hS1 : ∀ i, i ≠ 26 → i ≠ 27 → (sI (sI (mA S 28 f') 27 (nI ((x + 1) % 14))) 26 (nI (if a < 14 then a + 1 else 14))).1 i = S.1 i := by
    intro i h1 h2
    rw [sI_n h1, sI_n h2, mA_1]
  have hS2 : ∀ r, r ≠ 28 → (sI (sI (mA S 28 f') 27 (nI ((x + 1) % 14))) 26 (nI (if a < 14 then a + 1 else 14))).2.1 r = S.2.1 r := by
    intro r h1
    rw [sI_2, sI_2]
    exact mA_n h1
  have hS3 : (sI (sI (mA S 28 f') 27 (nI ((x + 1) % 14))) 26 (nI (if a < 14 then a + 1 else 14))).2.1 28 = f' := by
    rw [sI_2, sI_2]
    exact mA_s
  have h26 : (sI (sI (mA S 28 f') 27 (nI ((x + 1) % 14))) 26 (nI (if a < 14 then a + 1 else 14))).1 26 = nI (if a < 14 then a + 1 else 14) := sI_s
  have h27 : (sI (sI (mA S 28 f') 27 (nI ((x + 1) % 14))) 26 (nI (if a < 14 then a + 1 else 14))).1 27 = nI ((x + 1) % 14) := by
    rw [sI_n (show (27 : Nat) ≠ 26 by decide), sI_s]
  by_cases hA : a < 14
  · have hf : f5_full P = P := by
      unfold f5_full
      rw [e1, if_neg (show ¬ (14 : Int32) ≤ nI a from nI_ge (b := 14) hA (by decide))]
    obtain ⟨M1, m1, m2⟩ := copy_eq (P.1 (P.2.1 a)) M
    have hp : f5_push P M = some (va_up P.1 (P.2.1 a) M1, P.2.1, nI (a + 1)) := by
      unfold f5_push
      rw [zopen_t (show f5_ok P ∧ ∃ k, k ≤ 14 ∧ P.2.2 = nI k from ⟨e4, a, ha, e1⟩), hf, e1, nI_clamp (by omega), m1, ob, nI_1]
    refine ⟨_, _, hp, hk, ⟨a + 1, (x + 1) % 14, by omega, Nat.mod_lt _ (by omega), rfl, ?_, h27, e4, e5, fun i hi => ?_⟩, hS1, hS2, rfl⟩
    · rw [h26, if_pos hA]
    · rw [hS3]
      dsimp only
      by_cases hia : i = a
      · subst hia
        have e : ((x + 1) % 14 + 14 - (i + 1) + i) % 14 = x := by omega
        rw [vu_s, e]
        exact ⟨(hM.cp hW m2).sh hW (fun k hk => by rw [r2 k hk, Nat.zero_add]), (hB.cp hW m2).fr (hS2 8 (by decide))⟩
      · have e : ((x + 1) % 14 + 14 - (a + 1) + i) % 14 = (x + 14 - a + i) % 14 := by omega
        have ne : (x + 14 - a + i) % 14 ≠ x := by omega
        rw [vu_n (fun h => hia (e5 i a (by omega) hA h)), e]
        exact ⟨(e6 i (by omega)).1.sh hW (fun k hk => r3 _ (by omega)), (e6 i (by omega)).2.fr (hS2 8 (by decide))⟩
  · have hA2 : a = 14 := by omega
    have c13 : (13 : Int32).toNatClampNeg = 13 := by decide
    obtain ⟨ord, hord⟩ : ∃ ord : Nat → Nat, ord = fun i => if i < 13 then P.2.1 (i + 1) else if i = 13 then P.2.1 0 else P.2.1 i := ⟨_, rfl⟩
    have o1 : ∀ i, i < 13 → ord i = P.2.1 (i + 1) := fun i h => by rw [hord]; exact if_pos h
    have o2 : ord 13 = P.2.1 0 := by rw [hord]; rfl
    have hf : f5_full P = (P.1, ord, 13) := by
      unfold f5_full
      rw [e1, hA2, if_pos (by decide), hord]
      rfl
    obtain ⟨M1, m1, m2⟩ := copy_eq (P.1 (P.2.1 0)) M
    have hp : f5_push P M = some (va_up P.1 (P.2.1 0) M1, ord, nI 14) := by
      unfold f5_push
      rw [zopen_t (show f5_ok P ∧ ∃ k, k ≤ 14 ∧ P.2.2 = nI k from ⟨e4, a, ha, e1⟩), hf]
      dsimp only
      rw [c13, o2, m1, ob, show (13 : Int32) + 1 = nI 14 from by decide]
    refine ⟨_, _, hp, hk, ⟨14, (x + 1) % 14, by omega, Nat.mod_lt _ (by omega), rfl, ?_, h27, ?_, ?_, fun i hi => ?_⟩, hS1, hS2, rfl⟩
    · rw [h26, if_neg hA]
    · intro i hi
      dsimp only
      by_cases h : i < 13
      · rw [o1 i h]; exact e4 _ (by omega)
      · have : i = 13 := by omega
        subst this
        rw [o2]; exact e4 0 (by omega)
    · intro i j hi hj he
      dsimp only at he
      by_cases c1 : i < 13
      · by_cases c2 : j < 13
        · rw [o1 i c1, o1 j c2] at he
          have := e5 _ _ (by omega) (by omega) he
          omega
        · have : j = 13 := by omega
          subst this
          rw [o1 i c1, o2] at he
          have := e5 _ _ (by omega) (by omega) he
          omega
      · have : i = 13 := by omega
        subst this
        by_cases c2 : j < 13
        · rw [o1 j c2, o2] at he
          have := e5 _ _ (by omega) (by omega) he
          omega
        · omega
    · rw [hS3]
      dsimp only
      by_cases h : i < 13
      · have e : ((x + 1) % 14 + 14 - 14 + i) % 14 = (x + 14 - a + (i + 1)) % 14 := by omega
        have ne : (x + 14 - a + (i + 1)) % 14 ≠ x := by omega
        rw [o1 i h, vu_n (fun h => by have := e5 _ _ (by omega) (by omega) h; omega), e]
        exact ⟨(e6 (i + 1) (by omega)).1.sh hW (fun k hk => r3 _ (by omega)), (e6 (i + 1) (by omega)).2.fr (hS2 8 (by decide))⟩
      · have : i = 13 := by omega
        subst this
        have e : ((x + 1) % 14 + 14 - 14 + 13) % 14 = x := by omega
        rw [o2, vu_s, e]
        exact ⟨(hM.cp hW m2).sh hW (fun k hk => by rw [r2 k hk, Nat.zero_add]), (hB.cp hW m2).fr (hS2 8 (by decide))⟩
theorem undo_l {S : MS} {x : Nat} (hx : x < 14) (h27 : S.1 27 = nI x) : ∀ (n i : Nat) (f : Nat → Int32), i ≤ 19 → 19 < i + n → (∀ k, k < i → f k = S.2.1 28 (19 * x + k)) → ∃ f', f7_undo_l36 n (nI i) (mA S 11 f) = some (S.1 26, mA S 11 f') ∧ (∀ k, k < 19 → f' k = S.2.1 28 (19 * x + k)) := by
  intro n
  induction n with
  | zero => intro i f h1 h2; omega
  | succ n ih =>
    intro i f h1 h2 h4
    rw [f7_undo_l36]
    by_cases hi : i < 19
    · rw [if_neg (show ¬ (19 : Int32) ≤ nI i from nI_ge (b := 19) hi (by decide)), mA_1, h27, mA_n (show (28 : Nat) ≠ 11 by decide), show 19 * nI x + nI i = nI (19 * x + i) from i19 x i, rd_ok (by omega) (by decide), ob, mA_s, wr_ok (by omega) (by decide), ob, nI_1]
      simp only [bd]
      rw [mA_mA]
      refine ih (i + 1) _ (by omega) (by omega) (fun k hk => ?_)
      by_cases hki : k = i
      · subst hki; rw [up_s]
      · rw [up_n (by omega)]; exact h4 k (by omega)
    · have e : i = 19 := by omega
      subst e
      rw [if_pos (by decide)]
      exact ⟨f, rfl, h4⟩
/-- the last act is undone -/
theorem pop_eq {K nJ nW : Nat} {P : Ro} {S : MS} (M : Mo) (h : RowR K nJ nW P S) (hW : nW ≤ 4) (hc : 0 < P.2.2) :
    ∃ (P' : Ro) (M' : Mo) (S' : MS), f5_pop P M = some (P', M') ∧ f7_undo S = some (P'.2.2, S') ∧ RowR K nJ nW P' S' ∧ MomR K nJ nW M' (S'.2.1 11) 0 ∧ SetB nW M' S' ∧ (∀ i, i ≠ 26 → i ≠ 27 → S'.1 i = S.1 i) ∧ (∀ r, r ≠ 11 → S'.2.1 r = S.2.1 r) ∧ S'.2.2 = S.2.2 := by
  obtain ⟨a0, x, ha, hx, e1, e2, e3, e4, e5, e6⟩ := h
  obtain ⟨a, rfl⟩ : ∃ a, a0 = a + 1 := by
    cases a0 with
    | zero => rw [e1] at hc; exact absurd hc (by decide)
    | succ a => exact ⟨a, rfl⟩
  obtain ⟨M1, m1, m2⟩ := copy_eq M (P.1 (P.2.1 a))
  have hp : f5_pop P M = some ((P.1, P.2.1, nI a), M1) := by
    unfold f5_pop
    rw [zopen_t (show f5_ok P ∧ ∃ k, k < 14 ∧ P.2.2 = nI (k + 1) from ⟨e4, a, by omega, e1⟩), e1, nI_pred, nI_clamp (by omega), m1, ob]
  have g1 : nI x + 13 - (nI x + 13) / 14 * 14 = nI ((x + 13) % 14) := by
    rw [show nI x + 13 = nI (x + 13) from nI_add x 13]
    exact pk_rem (d := 14) (by omega) (by omega) (by decide)
  obtain ⟨f', r1, r2⟩ := undo_l (S := sI (sI S 26 (nI a)) 27 (nI ((x + 13) % 14))) (Nat.mod_lt _ (by omega)) sI_s FU 0 (S.2.1 11) (by omega) (by show 19 < 0 + 100; omega) (fun k hk => by omega)
  have hu : f7_undo S = some (nI a, mA (sI (sI S 26 (nI a)) 27 (nI ((x + 13) % 14))) 11 f') := by
    unfold f7_undo
    rw [e2, if_neg (nI_ne0 (by omega) (by omega)), nI_pred]
    simp only [bd]
    rw [sI_n (show (27 : Nat) ≠ 26 by decide), e3, g1]
    have q : mA (sI (sI S 26 (nI a)) 27 (nI ((x + 13) % 14))) 11 (S.2.1 11) = sI (sI S 26 (nI a)) 27 (nI ((x + 13) % 14)) := mA_self
    rw [q, sI_n (show (26 : Nat) ≠ 27 by decide), sI_s] at r1
    exact r1
  refine ⟨_, M1, _, hp, hu, ⟨a, (x + 13) % 14, by omega, Nat.mod_lt _ (by omega), rfl, ?_, ?_, e4, e5, fun i hi => ?_⟩, ?_, ?_, fun i h1 h2 => ?_, fun r h1 => ?_, rfl⟩
  · rw [mA_1, sI_n (show (26 : Nat) ≠ 27 by decide), sI_s]
  · rw [mA_1, sI_s]
  · rw [mA_n (show (28 : Nat) ≠ 11 by decide), sI_2, sI_2]
    have e : ((x + 13) % 14 + 14 - a + i) % 14 = (x + 14 - (a + 1) + i) % 14 := by omega
    rw [e]
    exact ⟨(e6 i (by omega)).1, (e6 i (by omega)).2.fr (mA_n (by decide))⟩
  · rw [mA_s]
    refine ((e6 a (by omega)).1.cp hW m2).sh hW (fun k hk => ?_)
    have e : (x + 14 - (a + 1) + a) % 14 = (x + 13) % 14 := by omega
    rw [Nat.zero_add, r2 k hk, e]
    rfl
  · exact ((e6 a (by omega)).2.cp hW m2).fr (mA_n (by decide))
  · rw [mA_1, sI_n h2, sI_n h1]
  · rw [mA_n h1]
    rfl
/-- the slots -/
def SlotR (K nJ nW : Nat) (Q : Nat → Mo) (kp : Int32) (S : MS) : Prop := ∀ s, s < 2 → S.2.1 35 s = (if bt kp s then 1 else 0) ∧ (bt kp s = true → MomR K nJ nW (Q (2 + s)) (S.2.1 36) (19 * s) ∧ SetB nW (Q (2 + s)) S)
theorem SlotR.fr {K K' nJ nW : Nat} {Q Q' : Nat → Mo} {kp : Int32} {S S' : MS} (h : SlotR K nJ nW Q kp S) (hK : K ≤ K') (hQ : ∀ s, s < 2 → Q' (2 + s) = Q (2 + s)) (h35 : S'.2.1 35 = S.2.1 35) (h36 : S'.2.1 36 = S.2.1 36) (h8 : S'.2.1 8 = S.2.1 8) : SlotR K' nJ nW Q' kp S' := by
  intro s hs
  rw [h35, h36, hQ s hs]
  exact ⟨(h s hs).1, fun hb => ⟨((h s hs).2 hb).1.mono hK, ((h s hs).2 hb).2.fr h8⟩⟩
def TextR (T : Le) (S : MS) : Prop := ∃ len, len ≤ 60 ∧ T.2 = nI len ∧ S.1 20 = nI len ∧ ∀ i, i < len → T.1 i = S.2.1 19 i
theorem TextR.fr {T : Le} {S S' : MS} (h : TextR T S) (h20 : S'.1 20 = S.1 20) (h19 : S'.2.1 19 = S.2.1 19) : TextR T S' := by
  unfold TextR at h ⊢
  rw [h20, h19]
  exact h
def HearR (U : He) (S : MS) : Prop := ∃ n, n ≤ 6 ∧ U.2 = nI n ∧ S.1 30 = nI n ∧ ∀ i, i < n → U.1 0 i = S.2.1 31 i ∧ U.1 1 i = S.2.1 32 i ∧ U.1 2 i = S.2.1 33 i ∧ ∃ q, q < 6 ∧ S.2.1 32 i = nI q
theorem HearR.fr {U : He} {S S' : MS} (h : HearR U S) (h30 : S'.1 30 = S.1 30) (h1 : S'.2.1 31 = S.2.1 31) (h2 : S'.2.1 32 = S.2.1 32) (h3 : S'.2.1 33 = S.2.1 33) : HearR U S' := by
  unfold HearR at h ⊢
  rw [h30, h1, h2, h3]
  exact h
def RelN (k nJ nP nW : Nat) (d : Nat → Nat → Nat) (C : Cs) (S : MS) : Prop := NetR C.2.2.2.2.2.1.1 S nJ nP nW d ∧ (MomR k nJ nW (C.1 0) (S.2.1 11) 0 ∧ SetB nW (C.1 0) S) ∧ (S.1 23 = 15 ∧ S.1 24 = (-9)) ∧ RowR k nJ nW (C.2.1, C.2.2.1) S ∧ SlotR k nJ nW C.1 C.2.2.2.2.2.2.2.2.1 S ∧ TextR C.2.2.2.1 S ∧ HearR C.2.2.2.2.2.2.2.1 S ∧ C.2.2.2.2.2.2.2.2.2 = S.2.2
def Rel (k : Nat) (C : Cs) (S : MS) : Prop := ∃ (nJ nP nW : Nat) (d : Nat → Nat → Nat), RelN k nJ nP nW d C S
/-- what a look leaves as it was -/
def SC (C C' : Cs) : Prop := (C'.1 0 = C.1 0 ∧ C'.1 2 = C.1 2 ∧ C'.1 3 = C.1 3) ∧ C'.2.1 = C.2.1 ∧ C'.2.2.1 = C.2.2.1 ∧ C'.2.2.2.1 = C.2.2.2.1 ∧ C'.2.2.2.2.2.1 = C.2.2.2.2.2.1 ∧ C'.2.2.2.2.2.2.2.1 = C.2.2.2.2.2.2.2.1 ∧ C'.2.2.2.2.2.2.2.2.1 = C.2.2.2.2.2.2.2.2.1
def SS (S S' : MS) : Prop := (∀ i, i < 5 ∨ i = 20 ∨ i = 23 ∨ i = 24 ∨ 26 ≤ i → S'.1 i = S.1 i) ∧ (∀ r, r < 11 ∨ 16 ≤ r → r ≠ 29 → S'.2.1 r = S.2.1 r) ∧ (∀ i, i < 19 → S'.2.1 11 i = S.2.1 11 i)
theorem SC.rf (C : Cs) : SC C C := ⟨⟨rfl, rfl, rfl⟩, rfl, rfl, rfl, rfl, rfl, rfl⟩
theorem SC.tr {A B C : Cs} (h : SC A B) (g : SC B C) : SC A C := by
  obtain ⟨⟨a1, a2, a3⟩, a4, a5, a6, a7, a8, a9⟩ := h
  obtain ⟨⟨b1, b2, b3⟩, b4, b5, b6, b7, b8, b9⟩ := g
  exact ⟨⟨b1.trans a1, b2.trans a2, b3.trans a3⟩, b4.trans a4, b5.trans a5, b6.trans a6, b7.trans a7, b8.trans a8, b9.trans a9⟩
theorem SC.m1 (C : Cs) (M : Mo) : SC C (cM C 1 M) := ⟨⟨rfl, rfl, rfl⟩, rfl, rfl, rfl, rfl, rfl, rfl⟩
theorem SS.rf (S : MS) : SS S S := ⟨fun _ _ => rfl, fun _ _ _ => rfl, fun _ _ => rfl⟩
theorem SS.tr {A B C : MS} (h : SS A B) (g : SS B C) : SS A C := by
  obtain ⟨a1, a2, a3⟩ := h
  obtain ⟨b1, b2, b3⟩ := g
  exact ⟨fun i hi => (b1 i hi).trans (a1 i hi), fun r h1 h2 => (b2 r h1 h2).trans (a2 r h1 h2), fun i hi => (b3 i hi).trans (a3 i hi)⟩
theorem SS.m11 {S : MS} {f : Nat → Int32} (h : ∀ i, i < 19 → f i = S.2.1 11 i) : SS S (mA S 11 f) := ⟨fun _ _ => rfl, fun r h1 h2 => mA_n (by omega), fun i hi => by rw [mA_s]; exact h i hi⟩
theorem RelN.fr {k nJ nP nW : Nat} {d : Nat → Nat → Nat} {C C' : Cs} {S S' : MS} (h : RelN k nJ nP nW d C S) (hC : SC C C') (hS : SS S S') (hz : C'.2.2.2.2.2.2.2.2.2 = S'.2.2) : RelN (k + 1) nJ nP nW d C' S' := by
  obtain ⟨hN, ⟨hM, hB⟩, ⟨h23, h24⟩, hR, hL, hT, hH, -⟩ := h
  obtain ⟨⟨a1, a2, a3⟩, a4, a5, a6, a7, a8, a9⟩ := hC
  obtain ⟨b1, b2, b3⟩ := hS
  have hW := hN.1.2.2
  refine ⟨?_, ⟨?_, ?_⟩, ⟨?_, ?_⟩, ?_, ?_, ?_, ?_, hz⟩
  · rw [a7]
    exact hN.fr _ (fun i hi => b1 i (by omega)) (fun r h1 h2 => b2 r (by omega) (by omega))
  · rw [a1]
    exact (hM.sh hW (fun k hk => by rw [Nat.zero_add]; exact b3 k hk)).mono (by omega)
  · rw [a1]
    exact hB.fr (b2 8 (by omega) (by omega))
  · exact (b1 23 (by omega)).trans h23
  · exact (b1 24 (by omega)).trans h24
  · rw [a4, a5]
    exact hR.fr (by omega) (b1 26 (by omega)) (b1 27 (by omega)) (b2 28 (by omega) (by omega)) (b2 8 (by omega) (by omega))
  · rw [a9]
    refine hL.fr (by omega) (fun s hs => ?_) (b2 35 (by omega) (by omega)) (b2 36 (by omega) (by omega)) (b2 8 (by omega) (by omega))
    rcases (show s = 0 ∨ s = 1 by omega) with rfl | rfl
    · exact a2
    · exact a3
  · rw [a6]
    exact hT.fr (b1 20 (by omega)) (b2 19 (by omega) (by omega))
  · rw [a8]
    exact hH.fr (b1 30 (by omega)) (b2 31 (by omega) (by omega)) (b2 32 (by omega) (by omega)) (b2 33 (by omega) (by omega))
theorem Rel.fr {k : Nat} {C C' : Cs} {S S' : MS} (h : Rel k C S) (hC : SC C C') (hS : SS S S') (hz : C'.2.2.2.2.2.2.2.2.2 = S'.2.2) : Rel (k + 1) C' S' := by
  obtain ⟨nJ, nP, nW, d, h⟩ := h
  exact ⟨nJ, nP, nW, d, h.fr hC hS hz⟩
theorem Rel.up {k : Nat} {C : Cs} {S : MS} (h : Rel k C S) : Rel (k + 1) C S := by
  have hz : C.2.2.2.2.2.2.2.2.2 = S.2.2 := by
    obtain ⟨nJ, nP, nW, d, hN, h1, h2, hR, hL, hT, hH, hz⟩ := h
    exact hz
  exact h.fr (SC.rf C) (SS.rf S) hz
theorem Rel.look {k : Nat} {C C' : Cs} {S S' : MS} (h : Rel k C S) (hC : SC C C') (hS : SS S S') (h1 : C'.2.2.2.2.2.2.2.2.2 = C.2.2.2.2.2.2.2.2.2) (h2 : S'.2.2 = S.2.2) : Rel (k + 1) C' S' := by
  have hz : C.2.2.2.2.2.2.2.2.2 = S.2.2 := by
    obtain ⟨nJ, nP, nW, d, hN, h1, h2, hR, hL, hT, hH, hz⟩ := h
    exact hz
  exact h.fr hC hS (h1.trans (hz.trans h2.symm))

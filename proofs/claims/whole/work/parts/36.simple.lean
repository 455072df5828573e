/-! mathematics: numbers that are told, and the calls that only tell or put down -/
theorem in_eq (x a b : Int32) : f7_in x.toInt64 a.toInt64 b.toInt64 = if x < a then 0 else if b < x then 0 else 1 := by
  unfold f7_in
  have h1 : (lg_cmp x.toInt64 a.toInt64 < 0) = (x < a) := propext ((lg_cmp_lt _ _).trans (by rw [Int64.lt_iff_toInt_lt, Int32.lt_iff_toInt_lt, Int32.toInt_toInt64, Int32.toInt_toInt64]))
  have h2 : (0 < lg_cmp x.toInt64 b.toInt64) = (b < x) := propext ((lg_cmp_gt _ _).trans (by rw [Int64.lt_iff_toInt_lt, Int32.lt_iff_toInt_lt, Int32.toInt_toInt64, Int32.toInt_toInt64]))
  simp only [h1, h2]
theorem in_lit (x a b : Int32) (a' b' : Int64) (ha : a' = a.toInt64) (hb : b' = b.toInt64) : f7_in x.toInt64 a' b' = if x < a then 0 else if b < x then 0 else 1 := by
  rw [ha, hb, in_eq]
theorem ix_eq (n : Nat) (hn : n ≤ 8) (x : Int32) : ((if x < 0 then (1 : Int32) else if x < nI n then 0 else 1) = 1 ∧ f7_in x.toInt64 0 ((nI n - 1).toInt64) = 0) ∨ ((if x < 0 then (1 : Int32) else if x < nI n then 0 else 1) = 0 ∧ f7_in x.toInt64 0 ((nI n - 1).toInt64) = 1 ∧ ∃ w, w < n ∧ x = nI w) := by
  rw [in_lit x 0 (nI n - 1) 0 _ (by decide) rfl]
  have e : (nI n - 1).toInt = (n : Int) - 1 := pk_sub_toInt (a := n) (b := 1) (by omega) (by omega)
  rcases pk_ix x (n := n) (by omega) with h | h | ⟨j, hj, rfl⟩
  · exact Or.inl ⟨if_pos h, if_pos h⟩
  · have h0 : ¬ x < 0 := by
      rw [Int32.lt_iff_toInt_lt]
      rw [Int32.le_iff_toInt_le, nI_toInt (by omega)] at h
      have : (0 : Int32).toInt = 0 := by decide
      omega
    have h1 : ¬ x < nI n := fun q => lt_le.mp q h
    have h2 : nI n - 1 < x := by
      rw [Int32.lt_iff_toInt_lt, e]
      rw [Int32.le_iff_toInt_le, nI_toInt (by omega)] at h
      omega
    exact Or.inl ⟨by rw [if_neg h0, if_neg h1], by rw [if_neg h0, if_pos h2]⟩
  · have h0 : ¬ nI j < 0 := nI_pos (by omega)
    have h2 : ¬ nI n - 1 < nI j := by
      rw [Int32.lt_iff_toInt_lt, e, nI_toInt (by omega)]
      omega
    exact Or.inr ⟨by rw [if_neg h0, if_pos (nI_lt hj (by omega))], by rw [if_neg h0, if_neg h2], j, hj, rfl⟩
theorem isW {C : Cs} {S : MS} {nJ nP nW : Nat} {d : Nat → Nat → Nat} (hN : NetR C.2.2.2.2.2.1.1 S nJ nP nW d) (x : Int32) : (f6_isNoWalker C x = 1 ∧ f7_isWalker S x = 0) ∨ (f6_isNoWalker C x = 0 ∧ f7_isWalker S x = 1 ∧ ∃ w, w < nW ∧ x = nI w) := by
  have h := ix_eq nW (by have := hN.1; omega) x
  unfold f6_isNoWalker f7_isWalker
  rw [hN.2.1.2.2, hN.2.2.1.2.2]
  exact h
theorem isJ {C : Cs} {S : MS} {nJ nP nW : Nat} {d : Nat → Nat → Nat} (hN : NetR C.2.2.2.2.2.1.1 S nJ nP nW d) (x : Int32) : (f6_isNoJoint C x = 1 ∧ f7_isJoint S x = 0) ∨ (f6_isNoJoint C x = 0 ∧ f7_isJoint S x = 1 ∧ ∃ w, w < nJ ∧ x = nI w) := by
  have h := ix_eq nJ (by have := hN.1; omega) x
  unfold f6_isNoJoint f7_isJoint
  rw [hN.2.1.1, hN.2.2.1.1]
  exact h
theorem isP {C : Cs} {S : MS} {nJ nP nW : Nat} {d : Nat → Nat → Nat} (hN : NetR C.2.2.2.2.2.1.1 S nJ nP nW d) (x : Int32) : (f6_isNoPipe C x = 1 ∧ f7_isPipe S x = 0) ∨ (f6_isNoPipe C x = 0 ∧ f7_isPipe S x = 1 ∧ ∃ w, w < nP ∧ x = nI w) := by
  have h := ix_eq nP (by have := hN.1; omega) x
  unfold f6_isNoPipe f7_isPipe
  rw [hN.2.1.2.1, hN.2.2.1.2.1]
  exact h
theorem rg_eq (x : Int32) {lo hi : Nat} (hh : hi < 2 ^ 31) (hl : lo ≤ hi) : (x < nI lo ∧ (if x < nI lo then (0 : Int32) else if nI hi < x then 0 else 1) = 0) ∨ (¬ x < nI lo ∧ nI hi < x ∧ (if x < nI lo then (0 : Int32) else if nI hi < x then 0 else 1) = 0) ∨ (∃ j, lo ≤ j ∧ j ≤ hi ∧ x = nI j ∧ (if x < nI lo then (0 : Int32) else if nI hi < x then 0 else 1) = 1) := by
  by_cases h : x < nI lo
  · exact Or.inl ⟨h, if_pos h⟩
  · by_cases h2 : nI hi < x
    · exact Or.inr (Or.inl ⟨h, h2, by rw [if_neg h, if_pos h2]⟩)
    · refine Or.inr (Or.inr ?_)
      rw [if_neg h, if_neg h2]
      have a1 : (lo : Int) ≤ x.toInt := by
        rw [Int32.lt_iff_toInt_lt, nI_toInt (by omega)] at h
        omega
      have a2 : x.toInt ≤ (hi : Int) := by
        rw [Int32.lt_iff_toInt_lt, nI_toInt (by omega)] at h2
        omega
      refine ⟨x.toInt.toNat, by omega, by omega, ?_, rfl⟩
      apply Int32.toInt_inj.mp
      rw [nI_toInt (by omega)]
      omega
theorem ch_eq (x : Int32) : (f6_isNoChoice x = 1 ∧ f7_in x.toInt64 0 1 = 0) ∨ (f6_isNoChoice x = 0 ∧ f7_in x.toInt64 0 1 = 1 ∧ ∃ j, j < 2 ∧ x = nI j) := by
  rw [in_lit x 0 1 0 1 (by decide) (by decide)]
  unfold f6_isNoChoice
  rcases rg_eq x (lo := 0) (hi := 1) (by omega) (by omega) with ⟨h, e⟩ | ⟨h, h2, e⟩ | ⟨j, h1, h2, rfl, e⟩
  · exact Or.inl ⟨if_pos h, e⟩
  · refine Or.inl ⟨?_, e⟩
    rw [if_neg (show ¬ x < 0 from h), if_neg (show ¬ x ≤ 1 from fun q => lt_le.mp h2 q)]
  · refine Or.inr ⟨?_, e, j, by omega, rfl⟩
    rw [if_neg (show ¬ nI j < 0 from nI_pos (by omega)), if_pos (show nI j ≤ 1 from nI_le (b := 1) (by omega) (by omega))]
theorem flag_b (b : Bool) : f6_flag (if b then 1 else 0) = if b then 1 else 0 := by
  cases b <;> decide
theorem Rel.put {k : Nat} {C C' : Cs} {S S' : MS} (h : Rel k C S) (hC : C'.1 = C.1 ∧ C'.2.1 = C.2.1 ∧ C'.2.2.1 = C.2.2.1 ∧ C'.2.2.2.2.2.1 = C.2.2.2.2.2.1 ∧ C'.2.2.2.2.2.2.2.2.1 = C.2.2.2.2.2.2.2.2.1) (hS1 : ∀ i, i ≠ 20 → i ≠ 30 → S'.1 i = S.1 i) (hS2 : ∀ r, r ≠ 19 → r ≠ 31 → r ≠ 32 → r ≠ 33 → S'.2.1 r = S.2.1 r) (hT' : TextR C'.2.2.2.1 S') (hH' : HearR C'.2.2.2.2.2.2.2.1 S') (hz' : C'.2.2.2.2.2.2.2.2.2 = S'.2.2) : Rel (k + 1) C' S' := by
  obtain ⟨nJ, nP, nW, d, hN, ⟨hM, hB⟩, ⟨h23, h24⟩, hR, hL, hT, hH, -⟩ := h
  obtain ⟨a1, a2, a3, a4, a5⟩ := hC
  have hW := hN.1.2.2
  refine ⟨nJ, nP, nW, d, ?_, ⟨?_, ?_⟩, ⟨?_, ?_⟩, ?_, ?_, hT', hH', hz'⟩
  · rw [a4]
    exact hN.fr _ (fun i hi => hS1 i (by omega) (by omega)) (fun r h1 h2 => hS2 r (by omega) (by omega) (by omega) (by omega))
  · rw [a1, hS2 11 (by omega) (by omega) (by omega) (by omega)]
    exact hM.mono (by omega)
  · rw [a1]
    exact hB.fr (hS2 8 (by omega) (by omega) (by omega) (by omega))
  · exact (hS1 23 (by omega) (by omega)).trans h23
  · exact (hS1 24 (by omega) (by omega)).trans h24
  · rw [a2, a3]
    exact hR.fr (by omega) (hS1 26 (by omega) (by omega)) (hS1 27 (by omega) (by omega)) (hS2 28 (by omega) (by omega) (by omega) (by omega)) (hS2 8 (by omega) (by omega) (by omega) (by omega))
  · rw [a5]
    exact hL.fr (by omega) (fun s hs => by rw [a1]) (hS2 35 (by omega) (by omega) (by omega) (by omega)) (hS2 36 (by omega) (by omega) (by omega) (by omega)) (hS2 8 (by omega) (by omega) (by omega) (by omega))
theorem Rel.tx {k : Nat} {C : Cs} {S : MS} (h : Rel k C S) : TextR C.2.2.2.1 S := by
  obtain ⟨nJ, nP, nW, d, hN, h1, h2, hR, hL, hT, hH, hz⟩ := h
  exact hT
theorem Rel.he {k : Nat} {C : Cs} {S : MS} (h : Rel k C S) : HearR C.2.2.2.2.2.2.2.1 S := by
  obtain ⟨nJ, nP, nW, d, hN, h1, h2, hR, hL, hT, hH, hz⟩ := h
  exact hH
theorem Rel.se {k : Nat} {C : Cs} {S : MS} (h : Rel k C S) : C.2.2.2.2.2.2.2.2.2 = S.2.2 := by
  obtain ⟨nJ, nP, nW, d, hN, h1, h2, hR, hL, hT, hH, hz⟩ := h
  exact hz
theorem r_write (k : Nat) (C : Cs) (S : MS) (x1 : Int32) (_ : k < 64) (h : Rel k C S) : ∃ (r : Int32) (C2 : Cs) (S2 : MS), f6_write C x1 = some (r, C2) ∧ f7_write S x1 = some (r, S2) ∧ Rel (k + 1) C2 S2 := by
  obtain ⟨len, hl, t1, t2, t3⟩ := h.tx
  unfold f6_write f7_write
  rw [in_lit x1 0 255 0 255 (by decide) (by decide), t1, t2]
  rcases rg_eq x1 (lo := 0) (hi := 255) (by omega) (by omega) with ⟨h1, e⟩ | ⟨h1, h2, e⟩ | ⟨j, h1, h2, hx, e⟩
  · have e' : (if x1 < 0 then (0 : Int32) else if 255 < x1 then 0 else 1) = 0 := e
    rw [if_pos (show x1 < 0 from h1), e', if_pos rfl]
    exact ⟨_, _, _, rfl, rfl, h.up⟩
  · have e' : (if x1 < 0 then (0 : Int32) else if 255 < x1 then 0 else 1) = 0 := e
    rw [if_neg (show ¬ x1 < 0 from h1), if_neg (show ¬ x1 ≤ 255 from fun q => lt_le.mp h2 q), e', if_pos rfl]
    exact ⟨_, _, _, rfl, rfl, h.up⟩
  · have e' : (if x1 < 0 then (0 : Int32) else if 255 < x1 then 0 else 1) = 1 := e
    rw [e', if_neg (show ¬ (1 : Int32) = 0 by decide), hx, if_neg (show ¬ nI j < 0 from nI_pos (by omega)), if_pos (show nI j ≤ 255 from nI_le (b := 255) (by omega) (by omega))]
    by_cases hf : len < 60
    · rw [if_pos (show nI len < 60 from nI_lt (b := 60) hf (by omega)), if_neg (show ¬ nI len = 60 from fun q => by have := (nI_eq (b := 60) (by omega) (by omega)).mp q; omega), wr_ok (by omega) (by decide), ob]
      have ea : f1_add C.2.2.2.1 (nI j) = some (upd C.2.2.2.1.1 len (nI j), nI (len + 1)) := by
        unfold f1_add
        simp only [bd]
        rw [t1, put_ok (by omega) (by decide)]
        show some (lL (lA C.2.2.2.1 (upd C.2.2.2.1.1 len (nI j))) (C.2.2.2.1.2 + 1)) = _
        rw [t1, nI_1]
        rfl
      rw [ea, ob]
      simp only [bd]
      have e2 : (mA S 19 (upd (S.2.1 19) len (nI j))).1 20 + 1 = nI (len + 1) := by rw [mA_1, t2, nI_1]
      rw [e2, sI_s]
      refine ⟨_, _, _, rfl, rfl, h.put ⟨rfl, rfl, rfl, rfl, rfl⟩ (fun i h1 h2 => sI_n h1) (fun r h1 h2 h3 h4 => mA_n h1) ⟨len + 1, by omega, rfl, sI_s, fun i hi => ?_⟩ (h.he.fr (sI_n (by decide)) (mA_n (by decide)) (mA_n (by decide)) (mA_n (by decide))) h.se⟩
      show upd C.2.2.2.1.1 len (nI j) i = (mA S 19 (upd (S.2.1 19) len (nI j))).2.1 19 i
      rw [mA_s]
      by_cases hi2 : i = len
      · subst hi2; rw [up_s, up_s]
      · rw [up_n hi2, up_n hi2]; exact t3 i (by omega)
    · have : len = 60 := by omega
      subst this
      rw [if_neg (show ¬ nI 60 < 60 by decide), if_pos (show nI 60 = 60 from rfl)]
      exact ⟨_, _, _, rfl, rfl, h.up⟩
theorem r_wipe (k : Nat) (C : Cs) (S : MS) (_ : k < 64) (h : Rel k C S) : ∃ (r : Int32) (C2 : Cs) (S2 : MS), f6_wipe C = some (r, C2) ∧ f7_wipe S = some (r, S2) ∧ Rel (k + 1) C2 S2 := by
  obtain ⟨len, hl, t1, t2, t3⟩ := h.tx
  unfold f6_wipe f7_wipe
  simp only [bd]
  rw [t1, t2]
  exact ⟨_, _, _, rfl, rfl, h.put ⟨rfl, rfl, rfl, rfl, rfl⟩ (fun i h1 h2 => sI_n h1) (fun r h1 h2 h3 h4 => rfl) ⟨0, by omega, rfl, sI_s, fun i hi => by omega⟩ (h.he.fr (sI_n (by decide)) rfl rfl rfl) h.se⟩
theorem r_seed (k : Nat) (C : Cs) (S : MS) (x1 : Int64) (_ : k < 64) (h : Rel k C S) : ∃ (r : Int64) (C2 : Cs) (S2 : MS), f6_seed C x1 = some (r, C2) ∧ f7_seed S x1 = some (r, S2) ∧ Rel (k + 1) C2 S2 := by
  unfold f6_seed f7_seed
  simp only [bd]
  rw [h.se]
  exact ⟨_, _, _, rfl, rfl, h.put ⟨rfl, rfl, rfl, rfl, rfl⟩ (fun i h1 h2 => rfl) (fun r h1 h2 h3 h4 => rfl) (h.tx.fr rfl rfl) (h.he.fr rfl rfl rfl rfl) rfl⟩
theorem r_unhear (k : Nat) (C : Cs) (S : MS) (_ : k < 64) (h : Rel k C S) : ∃ (r : Int32) (C2 : Cs) (S2 : MS), f6_unhear C = some (r, C2) ∧ f7_unhear S = some (r, S2) ∧ Rel (k + 1) C2 S2 := by
  obtain ⟨n, hn, t1, t2, t3⟩ := h.he
  unfold f6_unhear f7_unhear
  simp only [bd]
  rw [t1, t2]
  exact ⟨_, _, _, rfl, rfl, h.put ⟨rfl, rfl, rfl, rfl, rfl⟩ (fun i h1 h2 => sI_n h2) (fun r h1 h2 h3 h4 => rfl) (h.tx.fr (sI_n (by decide)) rfl) ⟨0, by omega, rfl, sI_s, fun i hi => by omega⟩ h.se⟩
theorem r_hear (k : Nat) (C : Cs) (S : MS) (x1 x2 x3 : Int32) (_ : k < 64) (h : Rel k C S) : ∃ (r : Int32) (C2 : Cs) (S2 : MS), f6_hear C x1 x2 x3 = some (r, C2) ∧ f7_hear S x1 x2 x3 = some (r, S2) ∧ Rel (k + 1) C2 S2 := by
  obtain ⟨n, hn, t1, t2, t3⟩ := h.he
  obtain ⟨nJ, nP, nW, d, hN, -⟩ := id h
  have hJ := hN.1.1
  unfold f6_hear f7_hear
  rcases isW hN x1 with ⟨a1, a2⟩ | ⟨a1, a2, w, hw, hx1⟩
  · rw [a1, a2, if_neg (by decide), if_pos rfl]
    exact ⟨_, _, _, rfl, rfl, h.up⟩
  · rw [a1, a2, if_pos rfl, if_neg (show ¬ (1 : Int32) = 0 by decide)]
    rcases isJ hN x2 with ⟨b1, b2⟩ | ⟨b1, b2, j, hj, hx2⟩
    · rw [b1, b2, if_neg (by decide), if_pos rfl]
      exact ⟨_, _, _, rfl, rfl, h.up⟩
    · rw [b1, b2, if_pos rfl, if_neg (show ¬ (1 : Int32) = 0 by decide), in_lit x3 1 9 1 9 (by decide) (by decide), t1, t2]
      rcases rg_eq x3 (lo := 1) (hi := 9) (by omega) (by omega) with ⟨h1, e⟩ | ⟨h1, h2, e⟩ | ⟨q, h1, h2, hx3, e⟩
      · have e' : (if x3 < 1 then (0 : Int32) else if 9 < x3 then 0 else 1) = 0 := e
        rw [if_pos (show x3 < 1 from h1), e', if_pos rfl]
        exact ⟨_, _, _, rfl, rfl, h.up⟩
      · have e' : (if x3 < 1 then (0 : Int32) else if 9 < x3 then 0 else 1) = 0 := e
        rw [if_neg (show ¬ x3 < 1 from h1), if_neg (show ¬ x3 ≤ 9 from fun q => lt_le.mp h2 q), e', if_pos rfl]
        exact ⟨_, _, _, rfl, rfl, h.up⟩
      · have e' : (if x3 < 1 then (0 : Int32) else if 9 < x3 then 0 else 1) = 1 := e
        have c1 : ¬ x3 < 1 := by rw [hx3]; exact nI_nlt (b := 1) h1 (by omega)
        have c2 : x3 ≤ 9 := by rw [hx3]; exact nI_le (b := 9) h2 (by omega)
        rw [e', if_neg (show ¬ (1 : Int32) = 0 by decide), if_neg c1, if_pos c2]
        by_cases hf : n < 6
        · rw [if_pos (show nI n < 6 from nI_lt (b := 6) hf (by omega)), if_neg (show ¬ nI n = 6 from fun q => by have := (nI_eq (b := 6) (by omega) (by omega)).mp q; omega), wr_ok (by omega) (by decide), ob]
          have ea : f0_add C.2.2.2.2.2.2.2.1 x1 x2 x3 = some (va_up (va_up (va_up C.2.2.2.2.2.2.2.1.1 0 (upd (C.2.2.2.2.2.2.2.1.1 0) n x1)) 1 (upd (C.2.2.2.2.2.2.2.1.1 1) n x2)) 2 (upd (C.2.2.2.2.2.2.2.1.1 2) n x3), nI (n + 1)) := by
            unfold f0_add
            simp only [bd, uA, uL]
            rw [vu_n (show (1 : Nat) ≠ 0 by decide), vu_n (show (2 : Nat) ≠ 1 by decide), vu_n (show (2 : Nat) ≠ 0 by decide), t1, put_ok (by omega) (by decide), put_ok (by omega) (by decide), put_ok (by omega) (by decide), nI_1]
          rw [ea, ob]
          simp only [bd]
          rw [mA_1, t2, mA_n (show (32 : Nat) ≠ 31 by decide), wr_ok (by omega) (by decide), ob, mA_1, mA_1, t2, mA_n (show (33 : Nat) ≠ 32 by decide), mA_n (show (33 : Nat) ≠ 31 by decide), wr_ok (by omega) (by decide), ob, mA_1, mA_1, mA_1, t2, nI_1, sI_s]
          refine ⟨_, _, _, rfl, rfl, h.put ⟨rfl, rfl, rfl, rfl, rfl⟩ (fun i h1 h2 => sI_n h2) (fun r h1 h2 h3 h4 => ?_) (h.tx.fr (sI_n (by decide)) ?_) ⟨n + 1, by omega, rfl, sI_s, fun i hi => ?_⟩ h.se⟩
          · show (mA (mA (mA S 31 _) 32 _) 33 _).2.1 r = S.2.1 r
            rw [mA_n h4, mA_n h3, mA_n h2]
          · show (mA (mA (mA S 31 _) 32 _) 33 _).2.1 19 = S.2.1 19
            rw [mA_n (by decide), mA_n (by decide), mA_n (by decide)]
          · have q1 : ∀ (f1 f2 f3 : Nat → Int32), (mA (mA (mA S 31 f1) 32 f2) 33 f3).2.1 31 = f1 := fun f1 f2 f3 => by rw [mA_n (by decide), mA_n (by decide), mA_s]
            have q2 : ∀ (f1 f2 f3 : Nat → Int32), (mA (mA (mA S 31 f1) 32 f2) 33 f3).2.1 32 = f2 := fun f1 f2 f3 => by rw [mA_n (by decide), mA_s]
            have q3 : ∀ (f1 f2 f3 : Nat → Int32), (mA (mA (mA S 31 f1) 32 f2) 33 f3).2.1 33 = f3 := fun f1 f2 f3 => mA_s
            show upd (C.2.2.2.2.2.2.2.1.1 0) n x1 i = (mA (mA (mA S 31 _) 32 _) 33 _).2.1 31 i ∧ upd (C.2.2.2.2.2.2.2.1.1 1) n x2 i = (mA (mA (mA S 31 _) 32 _) 33 _).2.1 32 i ∧ upd (C.2.2.2.2.2.2.2.1.1 2) n x3 i = (mA (mA (mA S 31 _) 32 _) 33 _).2.1 33 i ∧ ∃ q, q < 6 ∧ (mA (mA (mA S 31 _) 32 _) 33 _).2.1 32 i = nI q
            rw [q1, q2, q3]
            by_cases hi2 : i = n
            · subst hi2
              rw [up_s, up_s, up_s, up_s, up_s, up_s]
              exact ⟨rfl, rfl, rfl, j, by omega, hx2⟩
            · rw [up_n hi2, up_n hi2, up_n hi2, up_n hi2, up_n hi2, up_n hi2]
              exact t3 i (by omega)
        · have : n = 6 := by omega
          subst this
          rw [if_neg (show ¬ nI 6 < 6 by decide), if_pos (show nI 6 = 6 from rfl)]
          exact ⟨_, _, _, rfl, rfl, h.up⟩

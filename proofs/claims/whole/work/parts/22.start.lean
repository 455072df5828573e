theorem zNest_in : ∀ w ∈ zNest, Cond.methodLinkNest w.1 w.2.1 w.2.2 RX6 ∈ lw_tbl := by
  have h : ∀ w ∈ zNest.map (fun w => Cond.methodLinkNest w.1 w.2.1 w.2.2 RX6), w ∈ lw_tbl := zm_all _ [72, 88, 94, 175, 224, 235, 301, 328, 351, 357, 362, 365, 366, 367, 372, 385, 403, 404, 405, 448, 451, 628, 645] (by decide +kernel)
  exact fun w hw => h _ (List.mem_map_of_mem hw)
theorem zFz_start {args : Array Value} {s : State} (hr : (Cond.isRef (.static "ManholeBirths" "FACTORIALS" "[I")).before args s = true) (ha : (Cond.arrayOf (.static "ManholeBirths" "FACTORIALS" "[I") .int).before args s = true) (hl : (Cond.eq (.length (.static "ManholeBirths" "FACTORIALS" "[I")) (.int 5)).before args s = true) (he : ∀ j : Nat, j < 5 → (Cond.eq (.elem (.static "ManholeBirths" "FACTORIALS" "[I") (.int (Int32.ofNat j))) (.int (zFact j))).before args s = true) (h1 : (Cond.laysStatic "ManholeBirths" "FACTORIALS" "[I").before args s = true) (h2 : (Cond.initialized "ManholeBirths").before args s = true) : ∃ t : Nat, zFz t (fun q : Nat => s.heap.size ≤ q) s s.heap := by
  obtain ⟨t, ht⟩ : ∃ t : Nat, (Term.static "ManholeBirths" "FACTORIALS" "[I").eval args s none [] s = some (.ref t) := by
    cases hv : (Term.static "ManholeBirths" "FACTORIALS" "[I").eval args s none [] s with
    | none => simp [Cond.before, Cond.holds, Cond.value, hv] at hr
    | some w => cases w <;> simp_all [Cond.before, Cond.holds, Cond.value]
  have heq : ∀ (tm : Term) (z : Int32), (Cond.eq tm (.int z)).before args s = true → tm.eval args s none [] s = some (.int z) := by
    intro tm z h
    cases hv : tm.eval args s none [] s with
    | none => simp [Cond.before, Cond.holds, Cond.value, hv] at h
    | some w =>
      have hz : (Term.int z).eval args s none [] s = some (.int z) := rfl
      simp only [Cond.before, Cond.holds, Cond.value, hv, hz] at h
      cases w <;> simp_all
  refine ⟨t, va_Zof h1 h2 ht (fun a h => Nat.not_le.mpr h), ?_⟩
  have := va_Tof (tm := .static "ManholeBirths" "FACTORIALS" "[I") (ty := .int) (N := 5) (f := fun j => .int (zFact j)) (A := fun q : Nat => s.heap.size ≤ q) (by decide) ha (heq _ _ hl) (fun j hj => heq _ _ (he j hj)) (fun a h => Nat.not_le.mpr h)
  obtain ⟨t2, ht2, h9⟩ := this
  have e : t2 = t := by
    have := ht2.symm.trans ht
    simpa using this
  rw [← e]
  exact h9
set_option maxHeartbeats 4000000 in
set_option maxRecDepth 100000 in
theorem lw_start {p : Program} {e : Env} {s : State} {m : MethodId} {below : List Frame} {meth : Method} {c : Code} (l : Launch) {b L : Nat} {xs : Nat → Int32} (hL : L ≤ 320) (C0 : lw_At p s m meth c b L xs) (Rel : Nat → Cs → MS → Prop) (h_0 : Rel 0 zC0 zS0) (h_mono : ∀ (k : Nat) (C : Cs) (S : MS), Rel k C S → Rel (k + 1) C S) (h_write : ∀ (k : Nat) (C : Cs) (S : MS) (x1 : Int32), k < 64 → Rel k C S → ∃ (r : Int32) (C2 : Cs) (S2 : MS), f6_write C x1 = some (r, C2) ∧ f7_write S x1 = some (r, S2) ∧ Rel (k + 1) C2 S2) (h_wipe : ∀ (k : Nat) (C : Cs) (S : MS), k < 64 → Rel k C S → ∃ (r : Int32) (C2 : Cs) (S2 : MS), f6_wipe C = some (r, C2) ∧ f7_wipe S = some (r, S2) ∧ Rel (k + 1) C2 S2) (h_fault : ∀ (k : Nat) (C : Cs) (S : MS), k < 64 → Rel k C S → ∃ (r : Int32) (C2 : Cs) (S2 : MS), f6_fault C = some (r, C2) ∧ f7_fault S = some (r, S2) ∧ Rel (k + 1) C2 S2) (h_net : ∀ (k : Nat) (C : Cs) (S : MS), k < 64 → Rel k C S → ∃ (r : Int32) (C2 : Cs) (S2 : MS), f6_net C = some (r, C2) ∧ f7_net S = some (r, S2) ∧ Rel (k + 1) C2 S2) (h_joint : ∀ (k : Nat) (C : Cs) (S : MS) (x1 : Int32) (x2 : Int32), k < 64 → Rel k C S → ∃ r : Int32, f6_joint C x1 x2 = some r ∧ f7_joint S x1 x2 = some r ∧ Rel (k + 1) C S) (h_pipe : ∀ (k : Nat) (C : Cs) (S : MS) (x1 : Int32) (x2 : Int32), k < 64 → Rel k C S → ∃ r : Int32, f6_pipe C x1 x2 = r ∧ f7_pipe S x1 x2 = some r ∧ Rel (k + 1) C S) (h_walker : ∀ (k : Nat) (C : Cs) (S : MS) (x1 : Int32) (x2 : Int32), k < 64 → Rel k C S → ∃ r : Int32, f6_walker C x1 x2 = some r ∧ f7_walker S x1 x2 = some r ∧ Rel (k + 1) C S) (h_step : ∀ (k : Nat) (C : Cs) (S : MS), k < 64 → Rel k C S → ∃ (r : Int32) (C2 : Cs) (S2 : MS), f6_step C = some (r, C2) ∧ f7_step S = some (r, S2) ∧ Rel (k + 1) C2 S2) (h_shut : ∀ (k : Nat) (C : Cs) (S : MS) (x1 : Int32), k < 64 → Rel k C S → ∃ (r : Int32) (C2 : Cs) (S2 : MS), f6_shut C x1 = some (r, C2) ∧ f7_shut S x1 = some (r, S2) ∧ Rel (k + 1) C2 S2) (h_seal : ∀ (k : Nat) (C : Cs) (S : MS) (x1 : Int32), k < 64 → Rel k C S → ∃ (r : Int32) (C2 : Cs) (S2 : MS), f6_seal C x1 = some (r, C2) ∧ f7_seal S x1 = some (r, S2) ∧ Rel (k + 1) C2 S2) (h_call : ∀ (k : Nat) (C : Cs) (S : MS) (x1 : Int32), k < 64 → Rel k C S → ∃ (r : Int32) (C2 : Cs) (S2 : MS), f6_call C x1 = some (r, C2) ∧ f7_call S x1 = some (r, S2) ∧ Rel (k + 1) C2 S2) (h_undo : ∀ (k : Nat) (C : Cs) (S : MS), k < 64 → Rel k C S → ∃ (r : Int32) (C2 : Cs) (S2 : MS), f6_undo C = some (r, C2) ∧ f7_undo S = some (r, S2) ∧ Rel (k + 1) C2 S2) (h_ahead : ∀ (k : Nat) (C : Cs) (S : MS) (x1 : Int32) (x2 : Int32), k < 64 → Rel k C S → ∃ (r : Int32) (C2 : Cs) (S2 : MS), f6_ahead C x1 x2 = some (r, C2) ∧ f7_ahead S x1 x2 = some (r, S2) ∧ Rel (k + 1) C2 S2) (h_comes : ∀ (k : Nat) (C : Cs) (S : MS) (x1 : Int32) (x2 : Int32), k < 64 → Rel k C S → ∃ (r : Int32) (C2 : Cs) (S2 : MS), f6_comes C x1 x2 = some (r, C2) ∧ f7_comes S x1 x2 = some (r, S2) ∧ Rel (k + 1) C2 S2) (h_way : ∀ (k : Nat) (C : Cs) (S : MS) (x1 : Int32) (x2 : Int32), k < 64 → Rel k C S → ∃ r : Int32, f6_way C x1 x2 = some r ∧ f7_way S x1 x2 = some r ∧ Rel (k + 1) C S) (h_mend : ∀ (k : Nat) (C : Cs) (S : MS) (x1 : Int32), k < 64 → Rel k C S → ∃ (r : Int32) (C2 : Cs) (S2 : MS), f6_mend C x1 = some (r, C2) ∧ f7_mend S x1 = some (r, S2) ∧ Rel (k + 1) C2 S2) (h_watch : ∀ (k : Nat) (C : Cs) (S : MS), k < 64 → Rel k C S → ∃ (r : Int32) (C2 : Cs) (S2 : MS), f6_watch C = some (r, C2) ∧ f7_watch S = some (r, S2) ∧ Rel (k + 1) C2 S2) (h_judge : ∀ (k : Nat) (C : Cs) (S : MS) (x1 : Int32) (x2 : Int32), k < 64 → Rel k C S → ∃ (r : Int32) (C2 : Cs) (S2 : MS), f6_judge C x1 x2 = some (r, C2) ∧ f7_judge S x1 x2 = some (r, S2) ∧ Rel (k + 1) C2 S2) (h_hear : ∀ (k : Nat) (C : Cs) (S : MS) (x1 : Int32) (x2 : Int32) (x3 : Int32), k < 64 → Rel k C S → ∃ (r : Int32) (C2 : Cs) (S2 : MS), f6_hear C x1 x2 x3 = some (r, C2) ∧ f7_hear S x1 x2 x3 = some (r, S2) ∧ Rel (k + 1) C2 S2) (h_unhear : ∀ (k : Nat) (C : Cs) (S : MS), k < 64 → Rel k C S → ∃ (r : Int32) (C2 : Cs) (S2 : MS), f6_unhear C = some (r, C2) ∧ f7_unhear S = some (r, S2) ∧ Rel (k + 1) C2 S2) (h_turning : ∀ (k : Nat) (C : Cs) (S : MS) (x1 : Int32), k < 64 → Rel k C S → ∃ (r : Int32) (C2 : Cs) (S2 : MS), f6_turning C x1 = some (r, C2) ∧ f7_turning S x1 = some (r, S2) ∧ Rel (k + 1) C2 S2) (h_share : ∀ (k : Nat) (C : Cs) (S : MS) (x1 : Int32) (x2 : Int32), k < 64 → Rel k C S → ∃ (r : Int32) (C2 : Cs) (S2 : MS), f6_share C x1 x2 = some (r, C2) ∧ f7_share S x1 x2 = some (r, S2) ∧ Rel (k + 1) C2 S2) (h_rests : ∀ (k : Nat) (C : Cs) (S : MS) (x1 : Int32) (x2 : Int32) (x3 : Int32), k < 64 → Rel k C S → ∃ (r : Int32) (C2 : Cs) (S2 : MS), f6_rests C x1 x2 x3 = some (r, C2) ∧ f7_rests S x1 x2 x3 = some (r, S2) ∧ Rel (k + 1) C2 S2) (h_flood : ∀ (k : Nat) (C : Cs) (S : MS) (x1 : Int32) (x2 : Int32) (x3 : Int32) (x4 : Int32), k < 64 → Rel k C S → ∃ (r : Int32) (C2 : Cs) (S2 : MS), f6_flood C x1 x2 x3 x4 = some (r, C2) ∧ f7_flood S x1 x2 x3 x4 = some (r, S2) ∧ Rel (k + 1) C2 S2) (h_seed : ∀ (k : Nat) (C : Cs) (S : MS) (x1 : Int64), k < 64 → Rel k C S → ∃ (r : Int64) (C2 : Cs) (S2 : MS), f6_seed C x1 = some (r, C2) ∧ f7_seed S x1 = some (r, S2) ∧ Rel (k + 1) C2 S2) (h_years : ∀ (k : Nat) (C : Cs) (S : MS) (x1 : Int32), k < 64 → Rel k C S → ∃ (r : Int32) (C2 : Cs) (S2 : MS), f6_years C x1 = some (r, C2) ∧ f7_years S x1 = some (r, S2) ∧ Rel (k + 1) C2 S2) (h_keep : ∀ (k : Nat) (C : Cs) (S : MS) (x1 : Int32), k < 64 → Rel k C S → ∃ (r : Int32) (C2 : Cs) (S2 : MS), f6_keep C x1 = some (r, C2) ∧ f7_keep S x1 = some (r, S2) ∧ Rel (k + 1) C2 S2) (h_again : ∀ (k : Nat) (C : Cs) (S : MS) (x1 : Int32), k < 64 → Rel k C S → ∃ (r : Int32) (C2 : Cs) (S2 : MS), f6_again C x1 = some (r, C2) ∧ f7_again S x1 = some (r, S2) ∧ Rel (k + 1) C2 S2) (h_count : ∀ (k : Nat) (C : Cs) (S : MS) (x1 : Int32), k < 64 → Rel k C S → ∃ r : Int32, f6_count C x1 = some r ∧ f7_count S x1 = some r ∧ Rel (k + 1) C S) : W p l e room_1 s m #[Value.ref b] below meth c s.heap [] 0 0 (lw_Z below #[Value.ref b] s) (entryFrame m ([Value.ref b] : List Value).toArray 4) := by
  obtain ⟨hx, hb, hrt, hml, hown, htsT, hX, hbl, hlocks, hgv⟩ := id C0
  have hts : ∀ w ∈ wsL_law, w.before #[Value.ref b] s = true := fun w h => htsT w (wsL_law_in w h)
  have hA : ∀ q : Nat, s.heap.size ≤ q → (fun q : Nat => s.heap.size ≤ q) q := fun _ h => h
  obtain ⟨kX0, iX0, hKnX0⟩ := u_known (C := RX0) (T := TX0) (N := 4) (n := 4) htsT inX0 (htsT (.instantiable RX0 4) (List.mem_of_getElem? (i := 234) (by decide +kernel)))
  obtain ⟨kX1, iX1, hKnX1⟩ := u_known (C := RX1) (T := TX1) (N := 2) (n := 2) htsT inX1 (htsT (.instantiable RX1 2) (List.mem_of_getElem? (i := 71) (by decide +kernel)))
  obtain ⟨kX2, iX2, hKnX2⟩ := u_known (C := RX2) (T := TX2) (N := 9) (n := 9) htsT inX2 (htsT (.instantiable RX2 9) (List.mem_of_getElem? (i := 174) (by decide +kernel)))
  obtain ⟨kX3, iX3, hKnX3⟩ := u_known (C := RX3) (T := TX3) (N := 13) (n := 13) htsT inX3 (htsT (.instantiable RX3 13) (List.mem_of_getElem? (i := 93) (by decide +kernel)))
  obtain ⟨kX4, iX4, hKnX4⟩ := u_known (C := RX4) (T := TX4) (N := 4) (n := 4) htsT inX4 (htsT (.instantiable RX4 4) (List.mem_of_getElem? (i := 87) (by decide +kernel)))
  obtain ⟨kX5, iX5, hKnX5⟩ := u_known (C := RX5) (T := TX5) (N := 2) (n := 2) htsT inX5 (htsT (.instantiable RX5 2) (List.mem_of_getElem? (i := 217) (by decide +kernel)))
  obtain ⟨kX6, iX6, hKnX6⟩ := u_known (C := RX6) (T := TX6) (N := 13) (n := 13) htsT inX6 (htsT (.instantiable RX6 13) (List.mem_of_getElem? (i := 63) (by decide +kernel)))
  obtain ⟨kX7, iX7, hKnX7⟩ := u_known (C := RX7) (T := TX7) (N := 37) (n := 37) htsT inX7 (htsT (.instantiable RX7 37) (List.mem_of_getElem? (i := 724) (by decide +kernel)))
  obtain ⟨dC, dI, hKc⟩ : ∃ (dC : Nat → ClassId) (dI : Nat → Nat → Nat), ∀ (k : Nat) (q : vw_C), vwCl[k]? = some q → u_Kn s q.1 q.2.1 q.2.2 (dC k) (dI k) := by
    refine ⟨fun k => if k = 0 then kX0 else if k = 1 then kX1 else if k = 2 then kX2 else if k = 3 then kX3 else if k = 4 then kX4 else if k = 5 then kX5 else if k = 6 then kX6 else kX7, fun k => if k = 0 then iX0 else if k = 1 then iX1 else if k = 2 then iX2 else if k = 3 then iX3 else if k = 4 then iX4 else if k = 5 then iX5 else if k = 6 then iX6 else iX7, ?_⟩
    intro k q hq
    match k, hq with
    | 0, hq => cases hq; exact hKnX0
    | 1, hq => cases hq; exact hKnX1
    | 2, hq => cases hq; exact hKnX2
    | 3, hq => cases hq; exact hKnX3
    | 4, hq => cases hq; exact hKnX4
    | 5, hq => cases hq; exact hKnX5
    | 6, hq => cases hq; exact hKnX6
    | 7, hq => cases hq; exact hKnX7
    | k + 8, hq => simp [vwCl] at hq
  obtain ⟨cI, kI, pI, hI1, hI2, hI3⟩ := Cond.arrayClass_spec (htsT (.arrayClass .int) (List.mem_of_getElem? (i := 85) (by decide +kernel)))
  obtain ⟨cZ, kZ, pZ, hZ1, hZ2, hZ3⟩ := Cond.arrayClass_spec (htsT (.arrayClass .boolean) (List.mem_of_getElem? (i := 841) (by decide +kernel)))
  obtain ⟨pM, cM9, kM, hM1, hM2, hM3, hM4, hM5⟩ := Cond.arrayOver_spec (htsT (.arrayOver (.object "ManholeBirths$Moment")) (List.mem_of_getElem? (i := 223) (by decide +kernel)))
  obtain ⟨g, hg⟩ : ∃ g : zG, g = (dC, dI, cI, cZ, cM9) := ⟨_, rfl⟩
  have hK : zKc g s := by
    subst hg
    refine ⟨⟨⟨hKc, ?_⟩, ?_⟩, va_AO.of (htsT (.arrayOver (.object "ManholeBirths$Moment")) (List.mem_of_getElem? (i := 223) (by decide +kernel)))⟩
    · intro k q hq
      match k, hq with
      | 0, hq => cases hq; exact ⟨fun n z => ⟨fun k h => (by cases h), kI, hI2, pI, hI3⟩, hI1⟩
      | 1, hq => cases hq; exact ⟨fun n z => ⟨fun k h => (by cases h), kZ, hZ2, pZ, hZ3⟩, hZ1⟩
      | 2, hq => cases hq; exact ⟨fun n z => ⟨fun k h => (by cases h), kM, hM3, pM, hM4⟩, kM, pM, hM3, hM4, hM1, hM5⟩
      | k + 3, hq => simp [zT] at hq
    · intro w hw
      exact va_Nw.of rfl (htsT _ (zNest_in w hw))
  have hgs := flat_of_before _ hgv
  have hFr : (Cond.isRef (.static "ManholeBirths" "FACTORIALS" "[I")).before #[Value.ref b] s = true := hgs _ (by decide +kernel)
  have hFa : (Cond.arrayOf (.static "ManholeBirths" "FACTORIALS" "[I") .int).before #[Value.ref b] s = true := hgs _ (by decide +kernel)
  have hFl : (Cond.eq (.length (.static "ManholeBirths" "FACTORIALS" "[I")) (.int 5)).before #[Value.ref b] s = true := hgs _ (by decide +kernel)
  obtain ⟨t, hZ⟩ : ∃ t : Nat, zFz t (fun q : Nat => s.heap.size ≤ q) s s.heap := zFz_start hFr hFa hFl (fun j hj => by rcases (show j = 0 ∨ j = 1 ∨ j = 2 ∨ j = 3 ∨ j = 4 by omega) with rfl | rfl | rfl | rfl | rfl <;> exact hgs _ (by decide +kernel)) (htsT (.laysStatic "ManholeBirths" "FACTORIALS" "[I") (List.mem_of_getElem? (i := 659) (by decide +kernel))) (htsT (.initialized "ManholeBirths") (List.mem_of_getElem? (i := 51) (by decide +kernel)))
  have hS : va_S (fun q : Nat => s.heap.size ≤ q) s.heap s.heap [] := va_S.rf
  have hP : va_P (zD g) vwCl [] s.heap := z_nil
  have hD : va_D (fun q : Nat => s.heap.size ≤ q) [] := ⟨fun i j p q h => by simp at h, fun k q h => by simp at h⟩
  have hl := lv_entry ([.ref b]) (n := 4) (Nat.le_of_ble_eq_true rfl)
  rw [lg_entry_eq]
  generalize (lg_sl ([.ref b]) ++ List.replicate (4 - (lg_sl ([.ref b])).length) Slot.unset).toArray = ls at hl ⊢
  have hl : lv_has ls 4 [(0, .ref b)] := hl
  refine va_new (ci := 6) (fs := [.null, .null, .null, .null, .null, .null, .null, .null, .null, .null, .null, .int 0, .long 0]) (C := RX6) (T := TX6) (N := 13) hx hb hts inlX6 tyX6 tyX6_ok hown (hts (.classLink RL 7 RX6) (zlm 0 rfl)) (hts (.instantiable RX6 13) (zlm 1 rfl)) (hts (.initialized RX6) (zlm 2 rfl)) hK.1.1 hP hD hS hA rfl (fun j hj => by rcases (show j = 0 ∨ j = 1 ∨ j = 2 ∨ j = 3 ∨ j = 4 ∨ j = 5 ∨ j = 6 ∨ j = 7 ∨ j = 8 ∨ j = 9 ∨ j = 10 ∨ j = 11 ∨ j = 12 by omega) with rfl | rfl | rfl | rfl | rfl | rfl | rfl | rfl | rfl | rfl | rfl | rfl | rfl <;> rfl) (Nat.le_of_ble_eq_true rfl) (Nat.le_of_ble_eq_true rfl) dL_law_0 (fun b1 H hP hD hS => ?_)
  refine W.widen (k := 1) (n := 13) (by decide) (by decide) ?_
  refine lv_dup hx hb dL_law_3 rfl ?_
  refine z_cgo (X := []) (va_runI (As := []) (rest := [.ref b1]) ⟨hx, hb, hml, hown, hts⟩ ((c6_init l g b1) H.size) (cwI 0 hts gL_law_X6_init rfl rfl rfl (hts (.initialized RX6) (zlm 2 rfl)) (hts (.methodLink RL 9 yX6_init) (zlm 7 rfl)) (hts (.instanceMethod yX6_init) (zlm 8 rfl)) rfl (by decide +kernel) ⟨Nat.le_of_ble_eq_true rfl, Nat.le_of_ble_eq_true rfl⟩) (z_cpre hP hK hD) rfl rfl hl.1 rfl (lv_room (Nat.le_of_ble_eq_true rfl)) dL_law_4 ⟨Nat.le_of_ble_eq_true rfl, Nat.le_of_ble_eq_true rfl⟩) hP hD hS hA (fun q H locs hq hP hD hS => ?_)
  rw [← hq]
  refine W.widen (k := 120) (n := 685) (by decide) (by decide) ?_
  refine lv_astore_n (lv' := [(1, .ref (q 0)), (0, .ref b)]) hx hb dL_law_7 rfl hl (by decide) rfl (fun ls hl => ?_)
  refine va_new (ci := 7) (fs := [.int 0, .int 0, .int 0, .int 0, .int 0, .null, .null, .null, .null, .null, .null, .null, .null, .null, .null, .null, .int 0, .int 0, .int 0, .null, .int 0, .int 0, .int 0, .int 0, .int 0, .int 0, .int 0, .int 0, .null, .null, .int 0, .null, .null, .null, .long 0, .null, .null]) (C := RX7) (T := TX7) (N := 37) hx hb hts inlX7 tyX7 tyX7_ok hown (hts (.classLink RL 10 RX7) (zlm 3 rfl)) (hts (.instantiable RX7 37) (zlm 4 rfl)) (hts (.initialized RX7) (zlm 5 rfl)) hK.1.1 hP hD hS hA rfl (fun j hj => by rcases (show j = 0 ∨ j = 1 ∨ j = 2 ∨ j = 3 ∨ j = 4 ∨ j = 5 ∨ j = 6 ∨ j = 7 ∨ j = 8 ∨ j = 9 ∨ j = 10 ∨ j = 11 ∨ j = 12 ∨ j = 13 ∨ j = 14 ∨ j = 15 ∨ j = 16 ∨ j = 17 ∨ j = 18 ∨ j = 19 ∨ j = 20 ∨ j = 21 ∨ j = 22 ∨ j = 23 ∨ j = 24 ∨ j = 25 ∨ j = 26 ∨ j = 27 ∨ j = 28 ∨ j = 29 ∨ j = 30 ∨ j = 31 ∨ j = 32 ∨ j = 33 ∨ j = 34 ∨ j = 35 ∨ j = 36 by omega) with rfl | rfl | rfl | rfl | rfl | rfl | rfl | rfl | rfl | rfl | rfl | rfl | rfl | rfl | rfl | rfl | rfl | rfl | rfl | rfl | rfl | rfl | rfl | rfl | rfl | rfl | rfl | rfl | rfl | rfl | rfl | rfl | rfl | rfl | rfl | rfl | rfl <;> rfl) (Nat.le_of_ble_eq_true rfl) (Nat.le_of_ble_eq_true rfl) dL_law_8 (fun b2 H hP hD hS => ?_)
  refine W.widen (k := 121) (n := 722) (by decide) (by decide) ?_
  refine lv_dup hx hb dL_law_11 rfl ?_
  refine z_cgo (X := (CW g q zC0)) (va_runI (As := []) (rest := [.ref b2]) ⟨hx, hb, hml, hown, hts⟩ ((c7_init l g b2) H.size) (cwI 0 hts gL_law_X7_init rfl rfl rfl (hts (.initialized RX7) (zlm 5 rfl)) (hts (.methodLink RL 12 yX7_init) (zlm 82 rfl)) (hts (.instanceMethod yX7_init) (zlm 83 rfl)) rfl (by decide +kernel) ⟨Nat.le_of_ble_eq_true rfl, Nat.le_of_ble_eq_true rfl⟩) (z_cpre hP hK hD) rfl rfl hl.1 rfl (lv_room (Nat.le_of_ble_eq_true rfl)) dL_law_12 ⟨Nat.le_of_ble_eq_true rfl, Nat.le_of_ble_eq_true rfl⟩) hP hD hS hA (fun r H locs hr hP hD hS => ?_)
  rw [← hr]
  refine W.widen (k := 140) (n := 1238) (by decide) (by decide) ?_
  refine lv_astore_n (lv' := [(2, .ref (r 0)), (1, .ref (q 0)), (0, .ref b)]) hx hb dL_law_15 rfl hl (by decide) rfl (fun ls hl => ?_)
  refine lv_iconst (v := 0) hx hb dL_law_16 (by decide) ?_
  refine lv_istore_n (lv' := [(3, .int 0), (2, .ref (r 0)), (1, .ref (q 0)), (0, .ref b)]) hx hb dL_law_17 rfl hl (by decide) rfl (fun ls hl => ?_)
  exact lw_loop hL hx hb hml hown hts hX hbl hK hZ Rel hrt hlocks h_mono h_write h_wipe h_fault h_net h_joint h_pipe h_walker h_step h_shut h_seal h_call h_undo h_ahead h_comes h_way h_mend h_watch h_judge h_hear h_unhear h_turning h_share h_rests h_flood h_seed h_years h_keep h_again h_count (L + 1) 0 zC0 zS0 H locs ls (Nat.zero_le _) (by omega) h_0 hP hD hS hl

/-! THE CLAIM OUT OF ONE WALK OF THE LAW'S BODY. Your part is whole_start (and what it stands on); all else here is the same for every law, but numbers. -/
def R_law : String := "ManholeBirthsLaw"
def lw_P (b : Addr) (xs : List Int32) (args : Array Value) (s : State) : Prop := args = #[.ref b] ∧ s.IntsAt b xs ∧ xs.length ≤ 320 ∧ (Jvm.Cond.and given_1 narrow_1).before args s = true
def lw_Q (_ : Array Value) (s : State) (o : Outcome) (t : State) : Prop := o = .returned (some (.int 1)) ∧ Framed s o t [] 600000 7302250
def lw_Z (below : List Frame) (a : Array Value) (s : State) : State → Prop := fun t => ∃ o, t.status = .running ∧ Ended t below o ∧ lw_Q a s o t
/-- the law's own end, with 1 on the stack, nothing written that was there before, its room as the claim has it -/
theorem lw_ret {p : Program} {l : Launch} {e : Env} {s : State} {m : MethodId} {below : List Frame} {meth : Method} {c : Code} {b : Nat} (hx : p.tables.exec = Jvm.exec) (hb : c.code = code) (hr : meth.sig.returnType = ret) (hlocks : meth.locks = false) {pc : Nat} {H : Heap} {ls : Array Slot} (hdg : decode code pc = .ok (.ireturn, 1)) : W p l e room_1 s m #[Value.ref b] below meth c H [] 600000 7302250 (lw_Z below #[Value.ref b] s) (F0 m pc ls [.int 1]) := by
  intro T hT X
  obtain ⟨fs, hret, hrun, hended, hW, hframe⟩ := X.leave (v := some (.int 1)) (hlocks := hlocks) (fun h => by rw [hr] at h; cases h)
  have hmeth' : T.vm.method? m = some meth := X.method'
  refine ⟨T.setFrames fs, ?_, .returned (some (.int 1)), hrun, hended, rfl, ⟨_, rfl⟩, hW, hframe⟩
  jvm_step X.here [X.here.top, hx, hb, hdg, hmeth', hr, ret, narrow_b1]
  (try refine ⟨rfl, ?_⟩); (try refine ⟨rfl, ?_⟩)
  first | (intro acts; rw [hret _ acts rfl rfl rfl]) | rw [hret _ _ rfl rfl rfl]
  exact Steps.refl _
/-- what holds at the law's entry: the machine, the code, the tables' words (any of lw_tbl by 'hts w (by decide +kernel)'), the script of L ints xs at the cell b, what the Statement gives of the start (any of its parts by flat_of_before) -/
def lw_At (p : Program) (s : State) (m : MethodId) (meth : Method) (c : Code) (b L : Nat) (xs : Nat → Int32) : Prop :=
  p.tables.exec = Jvm.exec ∧ c.code = code ∧ meth.sig.returnType = ret ∧ c.maxLocals = 4 ∧ s.vm.findClass R_law = some m.cls ∧ (∀ w ∈ lw_tbl, w.before #[Value.ref b] s = true) ∧ va_X b L xs s s.heap ∧ b < s.heap.size ∧ meth.locks = false ∧ (Jvm.Cond.and given_1 narrow_1).before #[Value.ref b] s = true
/-! the law's walk -/
theorem z_wpreVF {s : State} {H : Heap} {g : zG} {t : Nat} {A : Nat → Prop} {W0 : va_W} {As : List Value} {b q0 ci : Nat} {q : vw_C} {fs : List Value} (hP : va_P (zD g) vwCl W0 H) (hK : zK g s) (hD : va_D (fun _ => True) W0) (hZ : zFz t A s H) (hA : ∀ q, va_A W0 H.size q → A q) (hc : vwCl[ci]? = some q) (he : W0[q0]? = some (b, .inr (ci, fs))) : PreV s H q.1 b (va_Pc (.ref b :: As) (fun U => U.heap.size = H.size ∧ va_P (zD g) vwCl W0 U.heap ∧ zK g U ∧ va_D (fun _ => True) W0 ∧ zFz t (va_A W0 H.size) U U.heap)) As :=
  ⟨fun _ _ _ _ q => ⟨q.1, q.2.1, q.2.2.1, q.2.2.2.1.call, q.2.2.2.2.1, q.2.2.2.2.2.call⟩, va_recv hK.1 hP hc he, fun _ hU hW => ⟨rfl, by rw [hU], by rw [hU]; exact hP, hK.warm hW, hD, by rw [hU]; exact (hZ.warm hW).narrow hA⟩⟩
theorem zP_right {D : va_G} {cl : List vw_C} {a b : va_W} {H : Heap} (h : va_P D cl (a ++ b) H) : va_P D cl b H := zP_mem h (fun _ hq => List.mem_append_right _ hq)
theorem zD_right {A : Nat → Prop} {a b : va_W} (h : va_D A (a ++ b)) : va_D A b := zD_left (zD_perm h List.perm_append_comm)
theorem zlm {w : Cond} (i : Nat) (h : wsL_law[i]? = some w) : w ∈ wsL_law := List.mem_of_getElem? h
theorem zcmp (x : Int64) : lg_cmp x x = 0 := by
  unfold lg_cmp
  rw [if_neg (by simp), if_pos rfl]
theorem zA_left {a b : va_W} {s : State} {H : Heap} {locs : List Loc} (hD : va_D (fun q : Nat => s.heap.size ≤ q) (a ++ b)) (hS : va_S (fun q : Nat => s.heap.size ≤ q) s.heap H locs) : ∀ q, va_A a H.size q → (fun q : Nat => s.heap.size ≤ q) q := by
  rintro q (⟨k, e, h⟩ | h)
  · exact (zD_left hD).2 k _ h
  · exact Nat.le_trans hS.1 h
set_option maxHeartbeats 4000000 in
set_option maxRecDepth 100000 in
theorem lw_write {p : Program} {l : Launch} {e : Env} {s : State} {m : MethodId} {below : List Frame} {meth : Method} {c : Code} {b L : Nat} {xs : Nat → Int32} {g : zG} {q r : Nat → Nat} {t : Nat} (hL : L ≤ 320) (hx : p.tables.exec = Jvm.exec) (hb : c.code = cL_law) (hml : c.maxLocals = 4) (hown : s.vm.findClass RL = some m.cls) (hts : ∀ w ∈ wsL_law, w.before #[Value.ref b] s = true) (hX : va_X b L xs s s.heap) (hbl : b < s.heap.size) (hK : zKc g s) (hZ : zFz t (fun q : Nat => s.heap.size ≤ q) s s.heap) (Rel : Nat → Cs → MS → Prop) (h_write : ∀ (k : Nat) (C : Cs) (S : MS) (x1 : Int32), k < 64 → Rel k C S → ∃ (r : Int32) (C2 : Cs) (S2 : MS), f6_write C x1 = some (r, C2) ∧ f7_write S x1 = some (r, S2) ∧ Rel (k + 1) C2 S2) (k : Nat) (hk : 5 * k + 5 ≤ L) (hk64 : k < 64) (hN : ∀ (C : Cs) (S : MS) (H : Heap) (locs : List Loc) (ls : Array Slot), Rel (k + 1) C S → va_P (zD g) vwCl (CW g q C ++ MW g r S) H → va_D (fun q : Nat => s.heap.size ≤ q) (CW g q C ++ MW g r S) → va_S (fun q : Nat => s.heap.size ≤ q) s.heap H locs → lv_has ls 4 [(3, .int (nI (5 * k))), (2, .ref (r 0)), (1, .ref (q 0)), (0, .ref b)] → W p l e room_1 s m #[Value.ref b] below meth c H locs 140 1238 (lw_Z below #[Value.ref b] s) (F0 m 974 ls [])) (C : Cs) (S : MS) (H : Heap) (locs : List Loc) (ls : Array Slot) (hR : Rel k C S) (hP : va_P (zD g) vwCl (CW g q C ++ MW g r S) H) (hD : va_D (fun q : Nat => s.heap.size ≤ q) (CW g q C ++ MW g r S)) (hS : va_S (fun q : Nat => s.heap.size ≤ q) s.heap H locs) (hl : lv_has ls 4 [(3, .int (nI (5 * k))), (2, .ref (r 0)), (1, .ref (q 0)), (0, .ref b)]) : W p l e room_1 s m #[Value.ref b] below meth c H locs 140 1238 (lw_Z below #[Value.ref b] s) (F0 m 164 ls []) := by
  have hA : ∀ q : Nat, s.heap.size ≤ q → (fun q : Nat => s.heap.size ≤ q) q := fun _ h => h
  have hbA : ¬ (fun q : Nat => s.heap.size ≤ q) b := Nat.not_le.mpr hbl
  refine lv_aload_n hx hb dL_law_164 rfl (lv_at hl 2 rfl) ?_
  refine lv_aload_n hx hb dL_law_165 rfl (lv_at hl 3 rfl) ?_
  refine lv_iload_n hx hb dL_law_166 rfl (lv_at hl 0 rfl) ?_
  refine lv_iconst (v := 1) hx hb dL_law_167 (by decide) ?_
  refine lv_iadd hx hb dL_law_168 ?_
  rw [show nI (5 * k) + 1 = nI (5 * k + 1) from nI_add (5 * k) 1]
  refine va_sld hx hb hX hbl hbA hS (vp_in_nI (n := 5 * k + 1) (N := L) (by omega) (by omega)) dL_law_169 ?_
  rw [nI_clamp (n := 5 * k + 1) (by omega)]
  obtain ⟨rr, C2, S2, h6, h7, hR2⟩ := h_write k C S (xs (5 * k + 1)) hk64 hR
  refine z_wgoP (wn := CW g q C2 ++ MW g r S) (va_runV (As := [.int (xs (5 * k + 1))]) (rest := []) ⟨hx, hb, hml, hown, hts⟩ ((c6_write l g q C (xs (5 * k + 1)) rr C2 h6) H.size) (cwV 1 hts gL_law_X6_write rfl rfl rfl (by decide +kernel) ⟨Nat.le_of_ble_eq_true rfl, Nat.le_of_ble_eq_true rfl⟩) (z_wpreV (ci := 6) (q := (RX6, TX6, 13)) (q0 := 0) (zP_left hP) hK.1 (z_any (zD_left hD)) rfl rfl) rfl rfl hl.1 rfl (lv_room (Nat.le_of_ble_eq_true rfl)) dL_law_170 ⟨Nat.le_of_ble_eq_true rfl, Nat.le_of_ble_eq_true rfl⟩) hP hD hS hA (MW g r S) (List.Perm.refl _) rfl (List.Perm.refl _) (fun H locs hP hD hS => ?_)
  show W p l e room_1 s m #[Value.ref b] below meth c H locs 140 1238 (lw_Z below #[Value.ref b] s) (F0 m 173 ls [.int rr])
  refine lv_aload_n hx hb dL_law_173 rfl (lv_at hl 1 rfl) ?_
  refine lv_aload_n hx hb dL_law_174 rfl (lv_at hl 3 rfl) ?_
  refine lv_iload_n hx hb dL_law_175 rfl (lv_at hl 0 rfl) ?_
  refine lv_iconst (v := 1) hx hb dL_law_176 (by decide) ?_
  refine lv_iadd hx hb dL_law_177 ?_
  rw [show nI (5 * k) + 1 = nI (5 * k + 1) from nI_add (5 * k) 1]
  refine va_sld hx hb hX hbl hbA hS (vp_in_nI (n := 5 * k + 1) (N := L) (by omega) (by omega)) dL_law_178 ?_
  rw [nI_clamp (n := 5 * k + 1) (by omega)]
  refine z_wgoP (wn := CW g q C2 ++ MW g r S2) (va_runV (As := [.int (xs (5 * k + 1))]) (rest := [.int rr]) ⟨hx, hb, hml, hown, hts⟩ ((c7_write l g r S (xs (5 * k + 1)) rr S2 h7) H.size) (cwV 1 hts gL_law_X7_write rfl rfl rfl (by decide +kernel) ⟨Nat.le_of_ble_eq_true rfl, Nat.le_of_ble_eq_true rfl⟩) (z_wpreV (ci := 7) (q := (RX7, TX7, 37)) (q0 := 0) (zP_right hP) hK.1 (z_any (zD_right hD)) rfl rfl) rfl rfl hl.1 rfl (lv_room (Nat.le_of_ble_eq_true rfl)) dL_law_179 ⟨Nat.le_of_ble_eq_true rfl, Nat.le_of_ble_eq_true rfl⟩) hP hD hS hA (CW g q C2) List.perm_append_comm rfl List.perm_append_comm (fun H locs hP hD hS => ?_)
  show W p l e room_1 s m #[Value.ref b] below meth c H locs 140 1238 (lw_Z below #[Value.ref b] s) (F0 m 182 ls [.int rr, .int rr])
  refine lv_icmp_eq (tgt := 974) hx hb dL_law_182 (by decide) (fun c1 => ?_) (fun c1 => absurd rfl c1)
  exact hN C2 S2 H locs ls hR2 hP hD hS hl
set_option maxHeartbeats 4000000 in
set_option maxRecDepth 100000 in
theorem lw_wipe {p : Program} {l : Launch} {e : Env} {s : State} {m : MethodId} {below : List Frame} {meth : Method} {c : Code} {b L : Nat} {xs : Nat → Int32} {g : zG} {q r : Nat → Nat} {t : Nat} (hL : L ≤ 320) (hx : p.tables.exec = Jvm.exec) (hb : c.code = cL_law) (hml : c.maxLocals = 4) (hown : s.vm.findClass RL = some m.cls) (hts : ∀ w ∈ wsL_law, w.before #[Value.ref b] s = true) (hX : va_X b L xs s s.heap) (hbl : b < s.heap.size) (hK : zKc g s) (hZ : zFz t (fun q : Nat => s.heap.size ≤ q) s s.heap) (Rel : Nat → Cs → MS → Prop) (h_wipe : ∀ (k : Nat) (C : Cs) (S : MS), k < 64 → Rel k C S → ∃ (r : Int32) (C2 : Cs) (S2 : MS), f6_wipe C = some (r, C2) ∧ f7_wipe S = some (r, S2) ∧ Rel (k + 1) C2 S2) (k : Nat) (hk : 5 * k + 5 ≤ L) (hk64 : k < 64) (hN : ∀ (C : Cs) (S : MS) (H : Heap) (locs : List Loc) (ls : Array Slot), Rel (k + 1) C S → va_P (zD g) vwCl (CW g q C ++ MW g r S) H → va_D (fun q : Nat => s.heap.size ≤ q) (CW g q C ++ MW g r S) → va_S (fun q : Nat => s.heap.size ≤ q) s.heap H locs → lv_has ls 4 [(3, .int (nI (5 * k))), (2, .ref (r 0)), (1, .ref (q 0)), (0, .ref b)] → W p l e room_1 s m #[Value.ref b] below meth c H locs 140 1238 (lw_Z below #[Value.ref b] s) (F0 m 974 ls [])) (C : Cs) (S : MS) (H : Heap) (locs : List Loc) (ls : Array Slot) (hR : Rel k C S) (hP : va_P (zD g) vwCl (CW g q C ++ MW g r S) H) (hD : va_D (fun q : Nat => s.heap.size ≤ q) (CW g q C ++ MW g r S)) (hS : va_S (fun q : Nat => s.heap.size ≤ q) s.heap H locs) (hl : lv_has ls 4 [(3, .int (nI (5 * k))), (2, .ref (r 0)), (1, .ref (q 0)), (0, .ref b)]) : W p l e room_1 s m #[Value.ref b] below meth c H locs 140 1238 (lw_Z below #[Value.ref b] s) (F0 m 187 ls []) := by
  have hA : ∀ q : Nat, s.heap.size ≤ q → (fun q : Nat => s.heap.size ≤ q) q := fun _ h => h
  have hbA : ¬ (fun q : Nat => s.heap.size ≤ q) b := Nat.not_le.mpr hbl
  refine lv_aload_n hx hb dL_law_187 rfl (lv_at hl 2 rfl) ?_
  obtain ⟨rr, C2, S2, h6, h7, hR2⟩ := h_wipe k C S  hk64 hR
  refine z_wgoP (wn := CW g q C2 ++ MW g r S) (va_runV (As := []) (rest := []) ⟨hx, hb, hml, hown, hts⟩ ((c6_wipe l g q C  rr C2 h6) H.size) (cwV 0 hts gL_law_X6_wipe rfl rfl rfl (by decide +kernel) ⟨Nat.le_of_ble_eq_true rfl, Nat.le_of_ble_eq_true rfl⟩) (z_wpreV (ci := 6) (q := (RX6, TX6, 13)) (q0 := 0) (zP_left hP) hK.1 (z_any (zD_left hD)) rfl rfl) rfl rfl hl.1 rfl (lv_room (Nat.le_of_ble_eq_true rfl)) dL_law_188 ⟨Nat.le_of_ble_eq_true rfl, Nat.le_of_ble_eq_true rfl⟩) hP hD hS hA (MW g r S) (List.Perm.refl _) rfl (List.Perm.refl _) (fun H locs hP hD hS => ?_)
  show W p l e room_1 s m #[Value.ref b] below meth c H locs 140 1238 (lw_Z below #[Value.ref b] s) (F0 m 191 ls [.int rr])
  refine lv_aload_n hx hb dL_law_191 rfl (lv_at hl 1 rfl) ?_
  refine z_wgoP (wn := CW g q C2 ++ MW g r S2) (va_runV (As := []) (rest := [.int rr]) ⟨hx, hb, hml, hown, hts⟩ ((c7_wipe l g r S  rr S2 h7) H.size) (cwV 0 hts gL_law_X7_wipe rfl rfl rfl (by decide +kernel) ⟨Nat.le_of_ble_eq_true rfl, Nat.le_of_ble_eq_true rfl⟩) (z_wpreV (ci := 7) (q := (RX7, TX7, 37)) (q0 := 0) (zP_right hP) hK.1 (z_any (zD_right hD)) rfl rfl) rfl rfl hl.1 rfl (lv_room (Nat.le_of_ble_eq_true rfl)) dL_law_192 ⟨Nat.le_of_ble_eq_true rfl, Nat.le_of_ble_eq_true rfl⟩) hP hD hS hA (CW g q C2) List.perm_append_comm rfl List.perm_append_comm (fun H locs hP hD hS => ?_)
  show W p l e room_1 s m #[Value.ref b] below meth c H locs 140 1238 (lw_Z below #[Value.ref b] s) (F0 m 195 ls [.int rr, .int rr])
  refine lv_icmp_eq (tgt := 974) hx hb dL_law_195 (by decide) (fun c1 => ?_) (fun c1 => absurd rfl c1)
  exact hN C2 S2 H locs ls hR2 hP hD hS hl
set_option maxHeartbeats 4000000 in
set_option maxRecDepth 100000 in
theorem lw_fault {p : Program} {l : Launch} {e : Env} {s : State} {m : MethodId} {below : List Frame} {meth : Method} {c : Code} {b L : Nat} {xs : Nat → Int32} {g : zG} {q r : Nat → Nat} {t : Nat} (hL : L ≤ 320) (hx : p.tables.exec = Jvm.exec) (hb : c.code = cL_law) (hml : c.maxLocals = 4) (hown : s.vm.findClass RL = some m.cls) (hts : ∀ w ∈ wsL_law, w.before #[Value.ref b] s = true) (hX : va_X b L xs s s.heap) (hbl : b < s.heap.size) (hK : zKc g s) (hZ : zFz t (fun q : Nat => s.heap.size ≤ q) s s.heap) (Rel : Nat → Cs → MS → Prop) (h_fault : ∀ (k : Nat) (C : Cs) (S : MS), k < 64 → Rel k C S → ∃ (r : Int32) (C2 : Cs) (S2 : MS), f6_fault C = some (r, C2) ∧ f7_fault S = some (r, S2) ∧ Rel (k + 1) C2 S2) (k : Nat) (hk : 5 * k + 5 ≤ L) (hk64 : k < 64) (hN : ∀ (C : Cs) (S : MS) (H : Heap) (locs : List Loc) (ls : Array Slot), Rel (k + 1) C S → va_P (zD g) vwCl (CW g q C ++ MW g r S) H → va_D (fun q : Nat => s.heap.size ≤ q) (CW g q C ++ MW g r S) → va_S (fun q : Nat => s.heap.size ≤ q) s.heap H locs → lv_has ls 4 [(3, .int (nI (5 * k))), (2, .ref (r 0)), (1, .ref (q 0)), (0, .ref b)] → W p l e room_1 s m #[Value.ref b] below meth c H locs 140 1238 (lw_Z below #[Value.ref b] s) (F0 m 974 ls [])) (C : Cs) (S : MS) (H : Heap) (locs : List Loc) (ls : Array Slot) (hR : Rel k C S) (hP : va_P (zD g) vwCl (CW g q C ++ MW g r S) H) (hD : va_D (fun q : Nat => s.heap.size ≤ q) (CW g q C ++ MW g r S)) (hS : va_S (fun q : Nat => s.heap.size ≤ q) s.heap H locs) (hl : lv_has ls 4 [(3, .int (nI (5 * k))), (2, .ref (r 0)), (1, .ref (q 0)), (0, .ref b)]) : W p l e room_1 s m #[Value.ref b] below meth c H locs 140 1238 (lw_Z below #[Value.ref b] s) (F0 m 200 ls []) := by
  have hA : ∀ q : Nat, s.heap.size ≤ q → (fun q : Nat => s.heap.size ≤ q) q := fun _ h => h
  have hbA : ¬ (fun q : Nat => s.heap.size ≤ q) b := Nat.not_le.mpr hbl
  refine lv_aload_n hx hb dL_law_200 rfl (lv_at hl 2 rfl) ?_
  obtain ⟨rr, C2, S2, h6, h7, hR2⟩ := h_fault k C S  hk64 hR
  refine z_wgoP (wn := CW g q C2 ++ MW g r S) (va_runV (As := []) (rest := []) ⟨hx, hb, hml, hown, hts⟩ ((c6_fault l g q C  rr C2 h6) H.size) (cwV 0 hts gL_law_X6_fault rfl rfl rfl (by decide +kernel) ⟨Nat.le_of_ble_eq_true rfl, Nat.le_of_ble_eq_true rfl⟩) (z_wpreV (ci := 6) (q := (RX6, TX6, 13)) (q0 := 0) (zP_left hP) hK.1 (z_any (zD_left hD)) rfl rfl) rfl rfl hl.1 rfl (lv_room (Nat.le_of_ble_eq_true rfl)) dL_law_201 ⟨Nat.le_of_ble_eq_true rfl, Nat.le_of_ble_eq_true rfl⟩) hP hD hS hA (MW g r S) (List.Perm.refl _) rfl (List.Perm.refl _) (fun H locs hP hD hS => ?_)
  show W p l e room_1 s m #[Value.ref b] below meth c H locs 140 1238 (lw_Z below #[Value.ref b] s) (F0 m 204 ls [.int rr])
  refine lv_aload_n hx hb dL_law_204 rfl (lv_at hl 1 rfl) ?_
  refine z_wgoP (wn := CW g q C2 ++ MW g r S2) (va_runV (As := []) (rest := [.int rr]) ⟨hx, hb, hml, hown, hts⟩ ((c7_fault l g r S  rr S2 h7) H.size) (cwV 0 hts gL_law_X7_fault rfl rfl rfl (by decide +kernel) ⟨Nat.le_of_ble_eq_true rfl, Nat.le_of_ble_eq_true rfl⟩) (z_wpreV (ci := 7) (q := (RX7, TX7, 37)) (q0 := 0) (zP_right hP) hK.1 (z_any (zD_right hD)) rfl rfl) rfl rfl hl.1 rfl (lv_room (Nat.le_of_ble_eq_true rfl)) dL_law_205 ⟨Nat.le_of_ble_eq_true rfl, Nat.le_of_ble_eq_true rfl⟩) hP hD hS hA (CW g q C2) List.perm_append_comm rfl List.perm_append_comm (fun H locs hP hD hS => ?_)
  show W p l e room_1 s m #[Value.ref b] below meth c H locs 140 1238 (lw_Z below #[Value.ref b] s) (F0 m 208 ls [.int rr, .int rr])
  refine lv_icmp_eq (tgt := 974) hx hb dL_law_208 (by decide) (fun c1 => ?_) (fun c1 => absurd rfl c1)
  exact hN C2 S2 H locs ls hR2 hP hD hS hl
set_option maxHeartbeats 4000000 in
set_option maxRecDepth 100000 in
theorem lw_net {p : Program} {l : Launch} {e : Env} {s : State} {m : MethodId} {below : List Frame} {meth : Method} {c : Code} {b L : Nat} {xs : Nat → Int32} {g : zG} {q r : Nat → Nat} {t : Nat} (hL : L ≤ 320) (hx : p.tables.exec = Jvm.exec) (hb : c.code = cL_law) (hml : c.maxLocals = 4) (hown : s.vm.findClass RL = some m.cls) (hts : ∀ w ∈ wsL_law, w.before #[Value.ref b] s = true) (hX : va_X b L xs s s.heap) (hbl : b < s.heap.size) (hK : zKc g s) (hZ : zFz t (fun q : Nat => s.heap.size ≤ q) s s.heap) (Rel : Nat → Cs → MS → Prop) (h_net : ∀ (k : Nat) (C : Cs) (S : MS), k < 64 → Rel k C S → ∃ (r : Int32) (C2 : Cs) (S2 : MS), f6_net C = some (r, C2) ∧ f7_net S = some (r, S2) ∧ Rel (k + 1) C2 S2) (k : Nat) (hk : 5 * k + 5 ≤ L) (hk64 : k < 64) (hN : ∀ (C : Cs) (S : MS) (H : Heap) (locs : List Loc) (ls : Array Slot), Rel (k + 1) C S → va_P (zD g) vwCl (CW g q C ++ MW g r S) H → va_D (fun q : Nat => s.heap.size ≤ q) (CW g q C ++ MW g r S) → va_S (fun q : Nat => s.heap.size ≤ q) s.heap H locs → lv_has ls 4 [(3, .int (nI (5 * k))), (2, .ref (r 0)), (1, .ref (q 0)), (0, .ref b)] → W p l e room_1 s m #[Value.ref b] below meth c H locs 140 1238 (lw_Z below #[Value.ref b] s) (F0 m 974 ls [])) (C : Cs) (S : MS) (H : Heap) (locs : List Loc) (ls : Array Slot) (hR : Rel k C S) (hP : va_P (zD g) vwCl (CW g q C ++ MW g r S) H) (hD : va_D (fun q : Nat => s.heap.size ≤ q) (CW g q C ++ MW g r S)) (hS : va_S (fun q : Nat => s.heap.size ≤ q) s.heap H locs) (hl : lv_has ls 4 [(3, .int (nI (5 * k))), (2, .ref (r 0)), (1, .ref (q 0)), (0, .ref b)]) : W p l e room_1 s m #[Value.ref b] below meth c H locs 140 1238 (lw_Z below #[Value.ref b] s) (F0 m 213 ls []) := by
  have hA : ∀ q : Nat, s.heap.size ≤ q → (fun q : Nat => s.heap.size ≤ q) q := fun _ h => h
  have hbA : ¬ (fun q : Nat => s.heap.size ≤ q) b := Nat.not_le.mpr hbl
  refine lv_aload_n hx hb dL_law_213 rfl (lv_at hl 2 rfl) ?_
  obtain ⟨rr, C2, S2, h6, h7, hR2⟩ := h_net k C S  hk64 hR
  refine z_wgoP (wn := CW g q C2 ++ MW g r S) (va_runV (As := []) (rest := []) ⟨hx, hb, hml, hown, hts⟩ ((c6_net l g q C  rr C2 h6) H.size) (cwV 0 hts gL_law_X6_net rfl rfl rfl (by decide +kernel) ⟨Nat.le_of_ble_eq_true rfl, Nat.le_of_ble_eq_true rfl⟩) (z_wpreV (ci := 6) (q := (RX6, TX6, 13)) (q0 := 0) (zP_left hP) hK.1 (z_any (zD_left hD)) rfl rfl) rfl rfl hl.1 rfl (lv_room (Nat.le_of_ble_eq_true rfl)) dL_law_214 ⟨Nat.le_of_ble_eq_true rfl, Nat.le_of_ble_eq_true rfl⟩) hP hD hS hA (MW g r S) (List.Perm.refl _) rfl (List.Perm.refl _) (fun H locs hP hD hS => ?_)
  show W p l e room_1 s m #[Value.ref b] below meth c H locs 140 1238 (lw_Z below #[Value.ref b] s) (F0 m 217 ls [.int rr])
  refine lv_aload_n hx hb dL_law_217 rfl (lv_at hl 1 rfl) ?_
  refine z_wgoP (wn := CW g q C2 ++ MW g r S2) (va_runV (As := []) (rest := [.int rr]) ⟨hx, hb, hml, hown, hts⟩ ((c7_net l g r S  rr S2 h7) H.size) (cwV 0 hts gL_law_X7_net rfl rfl rfl (by decide +kernel) ⟨Nat.le_of_ble_eq_true rfl, Nat.le_of_ble_eq_true rfl⟩) (z_wpreV (ci := 7) (q := (RX7, TX7, 37)) (q0 := 0) (zP_right hP) hK.1 (z_any (zD_right hD)) rfl rfl) rfl rfl hl.1 rfl (lv_room (Nat.le_of_ble_eq_true rfl)) dL_law_218 ⟨Nat.le_of_ble_eq_true rfl, Nat.le_of_ble_eq_true rfl⟩) hP hD hS hA (CW g q C2) List.perm_append_comm rfl List.perm_append_comm (fun H locs hP hD hS => ?_)
  show W p l e room_1 s m #[Value.ref b] below meth c H locs 140 1238 (lw_Z below #[Value.ref b] s) (F0 m 221 ls [.int rr, .int rr])
  refine lv_icmp_eq (tgt := 974) hx hb dL_law_221 (by decide) (fun c1 => ?_) (fun c1 => absurd rfl c1)
  exact hN C2 S2 H locs ls hR2 hP hD hS hl
set_option maxHeartbeats 4000000 in
set_option maxRecDepth 100000 in
theorem lw_joint {p : Program} {l : Launch} {e : Env} {s : State} {m : MethodId} {below : List Frame} {meth : Method} {c : Code} {b L : Nat} {xs : Nat → Int32} {g : zG} {q r : Nat → Nat} {t : Nat} (hL : L ≤ 320) (hx : p.tables.exec = Jvm.exec) (hb : c.code = cL_law) (hml : c.maxLocals = 4) (hown : s.vm.findClass RL = some m.cls) (hts : ∀ w ∈ wsL_law, w.before #[Value.ref b] s = true) (hX : va_X b L xs s s.heap) (hbl : b < s.heap.size) (hK : zKc g s) (hZ : zFz t (fun q : Nat => s.heap.size ≤ q) s s.heap) (Rel : Nat → Cs → MS → Prop) (h_joint : ∀ (k : Nat) (C : Cs) (S : MS) (x1 : Int32) (x2 : Int32), k < 64 → Rel k C S → ∃ r : Int32, f6_joint C x1 x2 = some r ∧ f7_joint S x1 x2 = some r ∧ Rel (k + 1) C S) (k : Nat) (hk : 5 * k + 5 ≤ L) (hk64 : k < 64) (hN : ∀ (C : Cs) (S : MS) (H : Heap) (locs : List Loc) (ls : Array Slot), Rel (k + 1) C S → va_P (zD g) vwCl (CW g q C ++ MW g r S) H → va_D (fun q : Nat => s.heap.size ≤ q) (CW g q C ++ MW g r S) → va_S (fun q : Nat => s.heap.size ≤ q) s.heap H locs → lv_has ls 4 [(3, .int (nI (5 * k))), (2, .ref (r 0)), (1, .ref (q 0)), (0, .ref b)] → W p l e room_1 s m #[Value.ref b] below meth c H locs 140 1238 (lw_Z below #[Value.ref b] s) (F0 m 974 ls [])) (C : Cs) (S : MS) (H : Heap) (locs : List Loc) (ls : Array Slot) (hR : Rel k C S) (hP : va_P (zD g) vwCl (CW g q C ++ MW g r S) H) (hD : va_D (fun q : Nat => s.heap.size ≤ q) (CW g q C ++ MW g r S)) (hS : va_S (fun q : Nat => s.heap.size ≤ q) s.heap H locs) (hl : lv_has ls 4 [(3, .int (nI (5 * k))), (2, .ref (r 0)), (1, .ref (q 0)), (0, .ref b)]) : W p l e room_1 s m #[Value.ref b] below meth c H locs 140 1238 (lw_Z below #[Value.ref b] s) (F0 m 226 ls []) := by
  have hA : ∀ q : Nat, s.heap.size ≤ q → (fun q : Nat => s.heap.size ≤ q) q := fun _ h => h
  have hbA : ¬ (fun q : Nat => s.heap.size ≤ q) b := Nat.not_le.mpr hbl
  refine lv_aload_n hx hb dL_law_226 rfl (lv_at hl 2 rfl) ?_
  refine lv_aload_n hx hb dL_law_227 rfl (lv_at hl 3 rfl) ?_
  refine lv_iload_n hx hb dL_law_228 rfl (lv_at hl 0 rfl) ?_
  refine lv_iconst (v := 1) hx hb dL_law_229 (by decide) ?_
  refine lv_iadd hx hb dL_law_230 ?_
  rw [show nI (5 * k) + 1 = nI (5 * k + 1) from nI_add (5 * k) 1]
  refine va_sld hx hb hX hbl hbA hS (vp_in_nI (n := 5 * k + 1) (N := L) (by omega) (by omega)) dL_law_231 ?_
  rw [nI_clamp (n := 5 * k + 1) (by omega)]
  refine lv_aload_n hx hb dL_law_232 rfl (lv_at hl 3 rfl) ?_
  refine lv_iload_n hx hb dL_law_233 rfl (lv_at hl 0 rfl) ?_
  refine lv_iconst (v := 2) hx hb dL_law_234 (by decide) ?_
  refine lv_iadd hx hb dL_law_235 ?_
  rw [show nI (5 * k) + 2 = nI (5 * k + 2) from nI_add (5 * k) 2]
  refine va_sld hx hb hX hbl hbA hS (vp_in_nI (n := 5 * k + 2) (N := L) (by omega) (by omega)) dL_law_236 ?_
  rw [nI_clamp (n := 5 * k + 2) (by omega)]
  obtain ⟨rr, h6, h7, hR2⟩ := h_joint k C S (xs (5 * k + 1)) (xs (5 * k + 2)) hk64 hR
  refine z_rgo (va_runV (As := [.int (xs (5 * k + 1)), .int (xs (5 * k + 2))]) (rest := []) ⟨hx, hb, hml, hown, hts⟩ (c6_joint l g q C (xs (5 * k + 1)) (xs (5 * k + 2)) rr h6) (cwV 2 hts gL_law_X6_joint rfl rfl rfl (by decide +kernel) ⟨Nat.le_of_ble_eq_true rfl, Nat.le_of_ble_eq_true rfl⟩) (z_rpreV (ci := 6) (q := (RX6, TX6, 13)) (q0 := 0) (zP_left hP) hK.1 rfl rfl) rfl rfl hl.1 rfl (lv_room (Nat.le_of_ble_eq_true rfl)) dL_law_237 ⟨Nat.le_of_ble_eq_true rfl, Nat.le_of_ble_eq_true rfl⟩) ?_
  refine lv_aload_n hx hb dL_law_240 rfl (lv_at hl 1 rfl) ?_
  refine lv_aload_n hx hb dL_law_241 rfl (lv_at hl 3 rfl) ?_
  refine lv_iload_n hx hb dL_law_242 rfl (lv_at hl 0 rfl) ?_
  refine lv_iconst (v := 1) hx hb dL_law_243 (by decide) ?_
  refine lv_iadd hx hb dL_law_244 ?_
  rw [show nI (5 * k) + 1 = nI (5 * k + 1) from nI_add (5 * k) 1]
  refine va_sld hx hb hX hbl hbA hS (vp_in_nI (n := 5 * k + 1) (N := L) (by omega) (by omega)) dL_law_245 ?_
  rw [nI_clamp (n := 5 * k + 1) (by omega)]
  refine lv_aload_n hx hb dL_law_246 rfl (lv_at hl 3 rfl) ?_
  refine lv_iload_n hx hb dL_law_247 rfl (lv_at hl 0 rfl) ?_
  refine lv_iconst (v := 2) hx hb dL_law_248 (by decide) ?_
  refine lv_iadd hx hb dL_law_249 ?_
  rw [show nI (5 * k) + 2 = nI (5 * k + 2) from nI_add (5 * k) 2]
  refine va_sld hx hb hX hbl hbA hS (vp_in_nI (n := 5 * k + 2) (N := L) (by omega) (by omega)) dL_law_250 ?_
  rw [nI_clamp (n := 5 * k + 2) (by omega)]
  refine z_rgo (va_runV (As := [.int (xs (5 * k + 1)), .int (xs (5 * k + 2))]) (rest := [.int rr]) ⟨hx, hb, hml, hown, hts⟩ (c7_joint l g r S (xs (5 * k + 1)) (xs (5 * k + 2)) rr h7) (cwV 2 hts gL_law_X7_joint rfl rfl rfl (by decide +kernel) ⟨Nat.le_of_ble_eq_true rfl, Nat.le_of_ble_eq_true rfl⟩) (z_rpreV (ci := 7) (q := (RX7, TX7, 37)) (q0 := 0) (zP_right hP) hK.1 rfl rfl) rfl rfl hl.1 rfl (lv_room (Nat.le_of_ble_eq_true rfl)) dL_law_251 ⟨Nat.le_of_ble_eq_true rfl, Nat.le_of_ble_eq_true rfl⟩) ?_
  refine lv_icmp_eq (tgt := 974) hx hb dL_law_254 (by decide) (fun c1 => ?_) (fun c1 => absurd rfl c1)
  exact hN C S H locs ls hR2 hP hD hS hl
set_option maxHeartbeats 4000000 in
set_option maxRecDepth 100000 in
theorem lw_pipe {p : Program} {l : Launch} {e : Env} {s : State} {m : MethodId} {below : List Frame} {meth : Method} {c : Code} {b L : Nat} {xs : Nat → Int32} {g : zG} {q r : Nat → Nat} {t : Nat} (hL : L ≤ 320) (hx : p.tables.exec = Jvm.exec) (hb : c.code = cL_law) (hml : c.maxLocals = 4) (hown : s.vm.findClass RL = some m.cls) (hts : ∀ w ∈ wsL_law, w.before #[Value.ref b] s = true) (hX : va_X b L xs s s.heap) (hbl : b < s.heap.size) (hK : zKc g s) (hZ : zFz t (fun q : Nat => s.heap.size ≤ q) s s.heap) (Rel : Nat → Cs → MS → Prop) (h_pipe : ∀ (k : Nat) (C : Cs) (S : MS) (x1 : Int32) (x2 : Int32), k < 64 → Rel k C S → ∃ r : Int32, f6_pipe C x1 x2 = r ∧ f7_pipe S x1 x2 = some r ∧ Rel (k + 1) C S) (k : Nat) (hk : 5 * k + 5 ≤ L) (hk64 : k < 64) (hN : ∀ (C : Cs) (S : MS) (H : Heap) (locs : List Loc) (ls : Array Slot), Rel (k + 1) C S → va_P (zD g) vwCl (CW g q C ++ MW g r S) H → va_D (fun q : Nat => s.heap.size ≤ q) (CW g q C ++ MW g r S) → va_S (fun q : Nat => s.heap.size ≤ q) s.heap H locs → lv_has ls 4 [(3, .int (nI (5 * k))), (2, .ref (r 0)), (1, .ref (q 0)), (0, .ref b)] → W p l e room_1 s m #[Value.ref b] below meth c H locs 140 1238 (lw_Z below #[Value.ref b] s) (F0 m 974 ls [])) (C : Cs) (S : MS) (H : Heap) (locs : List Loc) (ls : Array Slot) (hR : Rel k C S) (hP : va_P (zD g) vwCl (CW g q C ++ MW g r S) H) (hD : va_D (fun q : Nat => s.heap.size ≤ q) (CW g q C ++ MW g r S)) (hS : va_S (fun q : Nat => s.heap.size ≤ q) s.heap H locs) (hl : lv_has ls 4 [(3, .int (nI (5 * k))), (2, .ref (r 0)), (1, .ref (q 0)), (0, .ref b)]) : W p l e room_1 s m #[Value.ref b] below meth c H locs 140 1238 (lw_Z below #[Value.ref b] s) (F0 m 259 ls []) := by
  have hA : ∀ q : Nat, s.heap.size ≤ q → (fun q : Nat => s.heap.size ≤ q) q := fun _ h => h
  have hbA : ¬ (fun q : Nat => s.heap.size ≤ q) b := Nat.not_le.mpr hbl
  refine lv_aload_n hx hb dL_law_259 rfl (lv_at hl 2 rfl) ?_
  refine lv_aload_n hx hb dL_law_260 rfl (lv_at hl 3 rfl) ?_
  refine lv_iload_n hx hb dL_law_261 rfl (lv_at hl 0 rfl) ?_
  refine lv_iconst (v := 1) hx hb dL_law_262 (by decide) ?_
  refine lv_iadd hx hb dL_law_263 ?_
  rw [show nI (5 * k) + 1 = nI (5 * k + 1) from nI_add (5 * k) 1]
  refine va_sld hx hb hX hbl hbA hS (vp_in_nI (n := 5 * k + 1) (N := L) (by omega) (by omega)) dL_law_264 ?_
  rw [nI_clamp (n := 5 * k + 1) (by omega)]
  refine lv_aload_n hx hb dL_law_265 rfl (lv_at hl 3 rfl) ?_
  refine lv_iload_n hx hb dL_law_266 rfl (lv_at hl 0 rfl) ?_
  refine lv_iconst (v := 2) hx hb dL_law_267 (by decide) ?_
  refine lv_iadd hx hb dL_law_268 ?_
  rw [show nI (5 * k) + 2 = nI (5 * k + 2) from nI_add (5 * k) 2]
  refine va_sld hx hb hX hbl hbA hS (vp_in_nI (n := 5 * k + 2) (N := L) (by omega) (by omega)) dL_law_269 ?_
  rw [nI_clamp (n := 5 * k + 2) (by omega)]
  obtain ⟨rr, h6, h7, hR2⟩ := h_pipe k C S (xs (5 * k + 1)) (xs (5 * k + 2)) hk64 hR
  refine z_rgo (va_runV (As := [.int (xs (5 * k + 1)), .int (xs (5 * k + 2))]) (rest := []) ⟨hx, hb, hml, hown, hts⟩ (c6_pipe l g q C (xs (5 * k + 1)) (xs (5 * k + 2))) (cwV 2 hts gL_law_X6_pipe rfl rfl rfl (by decide +kernel) ⟨Nat.le_of_ble_eq_true rfl, Nat.le_of_ble_eq_true rfl⟩) (z_rpreV (ci := 6) (q := (RX6, TX6, 13)) (q0 := 0) (zP_left hP) hK.1 rfl rfl) rfl rfl hl.1 rfl (lv_room (Nat.le_of_ble_eq_true rfl)) dL_law_270 ⟨Nat.le_of_ble_eq_true rfl, Nat.le_of_ble_eq_true rfl⟩) ?_
  rw [h6]
  refine lv_aload_n hx hb dL_law_273 rfl (lv_at hl 1 rfl) ?_
  refine lv_aload_n hx hb dL_law_274 rfl (lv_at hl 3 rfl) ?_
  refine lv_iload_n hx hb dL_law_275 rfl (lv_at hl 0 rfl) ?_
  refine lv_iconst (v := 1) hx hb dL_law_276 (by decide) ?_
  refine lv_iadd hx hb dL_law_277 ?_
  rw [show nI (5 * k) + 1 = nI (5 * k + 1) from nI_add (5 * k) 1]
  refine va_sld hx hb hX hbl hbA hS (vp_in_nI (n := 5 * k + 1) (N := L) (by omega) (by omega)) dL_law_278 ?_
  rw [nI_clamp (n := 5 * k + 1) (by omega)]
  refine lv_aload_n hx hb dL_law_279 rfl (lv_at hl 3 rfl) ?_
  refine lv_iload_n hx hb dL_law_280 rfl (lv_at hl 0 rfl) ?_
  refine lv_iconst (v := 2) hx hb dL_law_281 (by decide) ?_
  refine lv_iadd hx hb dL_law_282 ?_
  rw [show nI (5 * k) + 2 = nI (5 * k + 2) from nI_add (5 * k) 2]
  refine va_sld hx hb hX hbl hbA hS (vp_in_nI (n := 5 * k + 2) (N := L) (by omega) (by omega)) dL_law_283 ?_
  rw [nI_clamp (n := 5 * k + 2) (by omega)]
  refine z_rgo (va_runV (As := [.int (xs (5 * k + 1)), .int (xs (5 * k + 2))]) (rest := [.int rr]) ⟨hx, hb, hml, hown, hts⟩ (c7_pipe l g r S (xs (5 * k + 1)) (xs (5 * k + 2)) rr h7) (cwV 2 hts gL_law_X7_pipe rfl rfl rfl (by decide +kernel) ⟨Nat.le_of_ble_eq_true rfl, Nat.le_of_ble_eq_true rfl⟩) (z_rpreV (ci := 7) (q := (RX7, TX7, 37)) (q0 := 0) (zP_right hP) hK.1 rfl rfl) rfl rfl hl.1 rfl (lv_room (Nat.le_of_ble_eq_true rfl)) dL_law_284 ⟨Nat.le_of_ble_eq_true rfl, Nat.le_of_ble_eq_true rfl⟩) ?_
  refine lv_icmp_eq (tgt := 974) hx hb dL_law_287 (by decide) (fun c1 => ?_) (fun c1 => absurd rfl c1)
  exact hN C S H locs ls hR2 hP hD hS hl
set_option maxHeartbeats 4000000 in
set_option maxRecDepth 100000 in
theorem lw_walker {p : Program} {l : Launch} {e : Env} {s : State} {m : MethodId} {below : List Frame} {meth : Method} {c : Code} {b L : Nat} {xs : Nat → Int32} {g : zG} {q r : Nat → Nat} {t : Nat} (hL : L ≤ 320) (hx : p.tables.exec = Jvm.exec) (hb : c.code = cL_law) (hml : c.maxLocals = 4) (hown : s.vm.findClass RL = some m.cls) (hts : ∀ w ∈ wsL_law, w.before #[Value.ref b] s = true) (hX : va_X b L xs s s.heap) (hbl : b < s.heap.size) (hK : zKc g s) (hZ : zFz t (fun q : Nat => s.heap.size ≤ q) s s.heap) (Rel : Nat → Cs → MS → Prop) (h_walker : ∀ (k : Nat) (C : Cs) (S : MS) (x1 : Int32) (x2 : Int32), k < 64 → Rel k C S → ∃ r : Int32, f6_walker C x1 x2 = some r ∧ f7_walker S x1 x2 = some r ∧ Rel (k + 1) C S) (k : Nat) (hk : 5 * k + 5 ≤ L) (hk64 : k < 64) (hN : ∀ (C : Cs) (S : MS) (H : Heap) (locs : List Loc) (ls : Array Slot), Rel (k + 1) C S → va_P (zD g) vwCl (CW g q C ++ MW g r S) H → va_D (fun q : Nat => s.heap.size ≤ q) (CW g q C ++ MW g r S) → va_S (fun q : Nat => s.heap.size ≤ q) s.heap H locs → lv_has ls 4 [(3, .int (nI (5 * k))), (2, .ref (r 0)), (1, .ref (q 0)), (0, .ref b)] → W p l e room_1 s m #[Value.ref b] below meth c H locs 140 1238 (lw_Z below #[Value.ref b] s) (F0 m 974 ls [])) (C : Cs) (S : MS) (H : Heap) (locs : List Loc) (ls : Array Slot) (hR : Rel k C S) (hP : va_P (zD g) vwCl (CW g q C ++ MW g r S) H) (hD : va_D (fun q : Nat => s.heap.size ≤ q) (CW g q C ++ MW g r S)) (hS : va_S (fun q : Nat => s.heap.size ≤ q) s.heap H locs) (hl : lv_has ls 4 [(3, .int (nI (5 * k))), (2, .ref (r 0)), (1, .ref (q 0)), (0, .ref b)]) : W p l e room_1 s m #[Value.ref b] below meth c H locs 140 1238 (lw_Z below #[Value.ref b] s) (F0 m 292 ls []) := by
  have hA : ∀ q : Nat, s.heap.size ≤ q → (fun q : Nat => s.heap.size ≤ q) q := fun _ h => h
  have hbA : ¬ (fun q : Nat => s.heap.size ≤ q) b := Nat.not_le.mpr hbl
  refine lv_aload_n hx hb dL_law_292 rfl (lv_at hl 2 rfl) ?_
  refine lv_aload_n hx hb dL_law_293 rfl (lv_at hl 3 rfl) ?_
  refine lv_iload_n hx hb dL_law_294 rfl (lv_at hl 0 rfl) ?_
  refine lv_iconst (v := 1) hx hb dL_law_295 (by decide) ?_
  refine lv_iadd hx hb dL_law_296 ?_
  rw [show nI (5 * k) + 1 = nI (5 * k + 1) from nI_add (5 * k) 1]
  refine va_sld hx hb hX hbl hbA hS (vp_in_nI (n := 5 * k + 1) (N := L) (by omega) (by omega)) dL_law_297 ?_
  rw [nI_clamp (n := 5 * k + 1) (by omega)]
  refine lv_aload_n hx hb dL_law_298 rfl (lv_at hl 3 rfl) ?_
  refine lv_iload_n hx hb dL_law_299 rfl (lv_at hl 0 rfl) ?_
  refine lv_iconst (v := 2) hx hb dL_law_300 (by decide) ?_
  refine lv_iadd hx hb dL_law_301 ?_
  rw [show nI (5 * k) + 2 = nI (5 * k + 2) from nI_add (5 * k) 2]
  refine va_sld hx hb hX hbl hbA hS (vp_in_nI (n := 5 * k + 2) (N := L) (by omega) (by omega)) dL_law_302 ?_
  rw [nI_clamp (n := 5 * k + 2) (by omega)]
  obtain ⟨rr, h6, h7, hR2⟩ := h_walker k C S (xs (5 * k + 1)) (xs (5 * k + 2)) hk64 hR
  refine z_rgo (va_runV (As := [.int (xs (5 * k + 1)), .int (xs (5 * k + 2))]) (rest := []) ⟨hx, hb, hml, hown, hts⟩ (c6_walker l g q C (xs (5 * k + 1)) (xs (5 * k + 2)) rr h6) (cwV 2 hts gL_law_X6_walker rfl rfl rfl (by decide +kernel) ⟨Nat.le_of_ble_eq_true rfl, Nat.le_of_ble_eq_true rfl⟩) (z_rpreV (ci := 6) (q := (RX6, TX6, 13)) (q0 := 0) (zP_left hP) hK.1 rfl rfl) rfl rfl hl.1 rfl (lv_room (Nat.le_of_ble_eq_true rfl)) dL_law_303 ⟨Nat.le_of_ble_eq_true rfl, Nat.le_of_ble_eq_true rfl⟩) ?_
  refine lv_aload_n hx hb dL_law_306 rfl (lv_at hl 1 rfl) ?_
  refine lv_aload_n hx hb dL_law_307 rfl (lv_at hl 3 rfl) ?_
  refine lv_iload_n hx hb dL_law_308 rfl (lv_at hl 0 rfl) ?_
  refine lv_iconst (v := 1) hx hb dL_law_309 (by decide) ?_
  refine lv_iadd hx hb dL_law_310 ?_
  rw [show nI (5 * k) + 1 = nI (5 * k + 1) from nI_add (5 * k) 1]
  refine va_sld hx hb hX hbl hbA hS (vp_in_nI (n := 5 * k + 1) (N := L) (by omega) (by omega)) dL_law_311 ?_
  rw [nI_clamp (n := 5 * k + 1) (by omega)]
  refine lv_aload_n hx hb dL_law_312 rfl (lv_at hl 3 rfl) ?_
  refine lv_iload_n hx hb dL_law_313 rfl (lv_at hl 0 rfl) ?_
  refine lv_iconst (v := 2) hx hb dL_law_314 (by decide) ?_
  refine lv_iadd hx hb dL_law_315 ?_
  rw [show nI (5 * k) + 2 = nI (5 * k + 2) from nI_add (5 * k) 2]
  refine va_sld hx hb hX hbl hbA hS (vp_in_nI (n := 5 * k + 2) (N := L) (by omega) (by omega)) dL_law_316 ?_
  rw [nI_clamp (n := 5 * k + 2) (by omega)]
  refine z_rgo (va_runV (As := [.int (xs (5 * k + 1)), .int (xs (5 * k + 2))]) (rest := [.int rr]) ⟨hx, hb, hml, hown, hts⟩ (c7_walker l g r S (xs (5 * k + 1)) (xs (5 * k + 2)) rr h7) (cwV 2 hts gL_law_X7_walker rfl rfl rfl (by decide +kernel) ⟨Nat.le_of_ble_eq_true rfl, Nat.le_of_ble_eq_true rfl⟩) (z_rpreV (ci := 7) (q := (RX7, TX7, 37)) (q0 := 0) (zP_right hP) hK.1 rfl rfl) rfl rfl hl.1 rfl (lv_room (Nat.le_of_ble_eq_true rfl)) dL_law_317 ⟨Nat.le_of_ble_eq_true rfl, Nat.le_of_ble_eq_true rfl⟩) ?_
  refine lv_icmp_eq (tgt := 974) hx hb dL_law_320 (by decide) (fun c1 => ?_) (fun c1 => absurd rfl c1)
  exact hN C S H locs ls hR2 hP hD hS hl
set_option maxHeartbeats 4000000 in
set_option maxRecDepth 100000 in
theorem lw_step {p : Program} {l : Launch} {e : Env} {s : State} {m : MethodId} {below : List Frame} {meth : Method} {c : Code} {b L : Nat} {xs : Nat → Int32} {g : zG} {q r : Nat → Nat} {t : Nat} (hL : L ≤ 320) (hx : p.tables.exec = Jvm.exec) (hb : c.code = cL_law) (hml : c.maxLocals = 4) (hown : s.vm.findClass RL = some m.cls) (hts : ∀ w ∈ wsL_law, w.before #[Value.ref b] s = true) (hX : va_X b L xs s s.heap) (hbl : b < s.heap.size) (hK : zKc g s) (hZ : zFz t (fun q : Nat => s.heap.size ≤ q) s s.heap) (Rel : Nat → Cs → MS → Prop) (h_step : ∀ (k : Nat) (C : Cs) (S : MS), k < 64 → Rel k C S → ∃ (r : Int32) (C2 : Cs) (S2 : MS), f6_step C = some (r, C2) ∧ f7_step S = some (r, S2) ∧ Rel (k + 1) C2 S2) (k : Nat) (hk : 5 * k + 5 ≤ L) (hk64 : k < 64) (hN : ∀ (C : Cs) (S : MS) (H : Heap) (locs : List Loc) (ls : Array Slot), Rel (k + 1) C S → va_P (zD g) vwCl (CW g q C ++ MW g r S) H → va_D (fun q : Nat => s.heap.size ≤ q) (CW g q C ++ MW g r S) → va_S (fun q : Nat => s.heap.size ≤ q) s.heap H locs → lv_has ls 4 [(3, .int (nI (5 * k))), (2, .ref (r 0)), (1, .ref (q 0)), (0, .ref b)] → W p l e room_1 s m #[Value.ref b] below meth c H locs 140 1238 (lw_Z below #[Value.ref b] s) (F0 m 974 ls [])) (C : Cs) (S : MS) (H : Heap) (locs : List Loc) (ls : Array Slot) (hR : Rel k C S) (hP : va_P (zD g) vwCl (CW g q C ++ MW g r S) H) (hD : va_D (fun q : Nat => s.heap.size ≤ q) (CW g q C ++ MW g r S)) (hS : va_S (fun q : Nat => s.heap.size ≤ q) s.heap H locs) (hl : lv_has ls 4 [(3, .int (nI (5 * k))), (2, .ref (r 0)), (1, .ref (q 0)), (0, .ref b)]) : W p l e room_1 s m #[Value.ref b] below meth c H locs 140 1238 (lw_Z below #[Value.ref b] s) (F0 m 325 ls []) := by
  have hA : ∀ q : Nat, s.heap.size ≤ q → (fun q : Nat => s.heap.size ≤ q) q := fun _ h => h
  have hbA : ¬ (fun q : Nat => s.heap.size ≤ q) b := Nat.not_le.mpr hbl
  refine lv_aload_n hx hb dL_law_325 rfl (lv_at hl 2 rfl) ?_
  obtain ⟨rr, C2, S2, h6, h7, hR2⟩ := h_step k C S  hk64 hR
  refine z_wgoP (wn := CW g q C2 ++ MW g r S) (va_runV (As := []) (rest := []) ⟨hx, hb, hml, hown, hts⟩ ((c6_step l g q C  rr C2 h6) H.size) (cwV 0 hts gL_law_X6_step rfl rfl rfl (by decide +kernel) ⟨Nat.le_of_ble_eq_true rfl, Nat.le_of_ble_eq_true rfl⟩) (z_wpreV (ci := 6) (q := (RX6, TX6, 13)) (q0 := 0) (zP_left hP) hK.1 (z_any (zD_left hD)) rfl rfl) rfl rfl hl.1 rfl (lv_room (Nat.le_of_ble_eq_true rfl)) dL_law_326 ⟨Nat.le_of_ble_eq_true rfl, Nat.le_of_ble_eq_true rfl⟩) hP hD hS hA (MW g r S) (List.Perm.refl _) rfl (List.Perm.refl _) (fun H locs hP hD hS => ?_)
  show W p l e room_1 s m #[Value.ref b] below meth c H locs 140 1238 (lw_Z below #[Value.ref b] s) (F0 m 329 ls [.int rr])
  refine lv_aload_n hx hb dL_law_329 rfl (lv_at hl 1 rfl) ?_
  refine z_wgoP (wn := CW g q C2 ++ MW g r S2) (va_runV (As := []) (rest := [.int rr]) ⟨hx, hb, hml, hown, hts⟩ ((c7_step l g r S  rr S2 h7) H.size) (cwV 0 hts gL_law_X7_step rfl rfl rfl (by decide +kernel) ⟨Nat.le_of_ble_eq_true rfl, Nat.le_of_ble_eq_true rfl⟩) (z_wpreV (ci := 7) (q := (RX7, TX7, 37)) (q0 := 0) (zP_right hP) hK.1 (z_any (zD_right hD)) rfl rfl) rfl rfl hl.1 rfl (lv_room (Nat.le_of_ble_eq_true rfl)) dL_law_330 ⟨Nat.le_of_ble_eq_true rfl, Nat.le_of_ble_eq_true rfl⟩) hP hD hS hA (CW g q C2) List.perm_append_comm rfl List.perm_append_comm (fun H locs hP hD hS => ?_)
  show W p l e room_1 s m #[Value.ref b] below meth c H locs 140 1238 (lw_Z below #[Value.ref b] s) (F0 m 333 ls [.int rr, .int rr])
  refine lv_icmp_eq (tgt := 974) hx hb dL_law_333 (by decide) (fun c1 => ?_) (fun c1 => absurd rfl c1)
  exact hN C2 S2 H locs ls hR2 hP hD hS hl
set_option maxHeartbeats 4000000 in
set_option maxRecDepth 100000 in
theorem lw_shut {p : Program} {l : Launch} {e : Env} {s : State} {m : MethodId} {below : List Frame} {meth : Method} {c : Code} {b L : Nat} {xs : Nat → Int32} {g : zG} {q r : Nat → Nat} {t : Nat} (hL : L ≤ 320) (hx : p.tables.exec = Jvm.exec) (hb : c.code = cL_law) (hml : c.maxLocals = 4) (hown : s.vm.findClass RL = some m.cls) (hts : ∀ w ∈ wsL_law, w.before #[Value.ref b] s = true) (hX : va_X b L xs s s.heap) (hbl : b < s.heap.size) (hK : zKc g s) (hZ : zFz t (fun q : Nat => s.heap.size ≤ q) s s.heap) (Rel : Nat → Cs → MS → Prop) (h_shut : ∀ (k : Nat) (C : Cs) (S : MS) (x1 : Int32), k < 64 → Rel k C S → ∃ (r : Int32) (C2 : Cs) (S2 : MS), f6_shut C x1 = some (r, C2) ∧ f7_shut S x1 = some (r, S2) ∧ Rel (k + 1) C2 S2) (k : Nat) (hk : 5 * k + 5 ≤ L) (hk64 : k < 64) (hN : ∀ (C : Cs) (S : MS) (H : Heap) (locs : List Loc) (ls : Array Slot), Rel (k + 1) C S → va_P (zD g) vwCl (CW g q C ++ MW g r S) H → va_D (fun q : Nat => s.heap.size ≤ q) (CW g q C ++ MW g r S) → va_S (fun q : Nat => s.heap.size ≤ q) s.heap H locs → lv_has ls 4 [(3, .int (nI (5 * k))), (2, .ref (r 0)), (1, .ref (q 0)), (0, .ref b)] → W p l e room_1 s m #[Value.ref b] below meth c H locs 140 1238 (lw_Z below #[Value.ref b] s) (F0 m 974 ls [])) (C : Cs) (S : MS) (H : Heap) (locs : List Loc) (ls : Array Slot) (hR : Rel k C S) (hP : va_P (zD g) vwCl (CW g q C ++ MW g r S) H) (hD : va_D (fun q : Nat => s.heap.size ≤ q) (CW g q C ++ MW g r S)) (hS : va_S (fun q : Nat => s.heap.size ≤ q) s.heap H locs) (hl : lv_has ls 4 [(3, .int (nI (5 * k))), (2, .ref (r 0)), (1, .ref (q 0)), (0, .ref b)]) : W p l e room_1 s m #[Value.ref b] below meth c H locs 140 1238 (lw_Z below #[Value.ref b] s) (F0 m 338 ls []) := by
  have hA : ∀ q : Nat, s.heap.size ≤ q → (fun q : Nat => s.heap.size ≤ q) q := fun _ h => h
  have hbA : ¬ (fun q : Nat => s.heap.size ≤ q) b := Nat.not_le.mpr hbl
  refine lv_aload_n hx hb dL_law_338 rfl (lv_at hl 2 rfl) ?_
  refine lv_aload_n hx hb dL_law_339 rfl (lv_at hl 3 rfl) ?_
  refine lv_iload_n hx hb dL_law_340 rfl (lv_at hl 0 rfl) ?_
  refine lv_iconst (v := 1) hx hb dL_law_341 (by decide) ?_
  refine lv_iadd hx hb dL_law_342 ?_
  rw [show nI (5 * k) + 1 = nI (5 * k + 1) from nI_add (5 * k) 1]
  refine va_sld hx hb hX hbl hbA hS (vp_in_nI (n := 5 * k + 1) (N := L) (by omega) (by omega)) dL_law_343 ?_
  rw [nI_clamp (n := 5 * k + 1) (by omega)]
  obtain ⟨rr, C2, S2, h6, h7, hR2⟩ := h_shut k C S (xs (5 * k + 1)) hk64 hR
  refine z_wgoP (wn := CW g q C2 ++ MW g r S) (va_runV (As := [.int (xs (5 * k + 1))]) (rest := []) ⟨hx, hb, hml, hown, hts⟩ ((c6_shut l g q C (xs (5 * k + 1)) rr C2 h6) H.size) (cwV 1 hts gL_law_X6_shut rfl rfl rfl (by decide +kernel) ⟨Nat.le_of_ble_eq_true rfl, Nat.le_of_ble_eq_true rfl⟩) (z_wpreV (ci := 6) (q := (RX6, TX6, 13)) (q0 := 0) (zP_left hP) hK.1 (z_any (zD_left hD)) rfl rfl) rfl rfl hl.1 rfl (lv_room (Nat.le_of_ble_eq_true rfl)) dL_law_344 ⟨Nat.le_of_ble_eq_true rfl, Nat.le_of_ble_eq_true rfl⟩) hP hD hS hA (MW g r S) (List.Perm.refl _) rfl (List.Perm.refl _) (fun H locs hP hD hS => ?_)
  show W p l e room_1 s m #[Value.ref b] below meth c H locs 140 1238 (lw_Z below #[Value.ref b] s) (F0 m 347 ls [.int rr])
  refine lv_aload_n hx hb dL_law_347 rfl (lv_at hl 1 rfl) ?_
  refine lv_aload_n hx hb dL_law_348 rfl (lv_at hl 3 rfl) ?_
  refine lv_iload_n hx hb dL_law_349 rfl (lv_at hl 0 rfl) ?_
  refine lv_iconst (v := 1) hx hb dL_law_350 (by decide) ?_
  refine lv_iadd hx hb dL_law_351 ?_
  rw [show nI (5 * k) + 1 = nI (5 * k + 1) from nI_add (5 * k) 1]
  refine va_sld hx hb hX hbl hbA hS (vp_in_nI (n := 5 * k + 1) (N := L) (by omega) (by omega)) dL_law_352 ?_
  rw [nI_clamp (n := 5 * k + 1) (by omega)]
  refine z_wgoP (wn := CW g q C2 ++ MW g r S2) (va_runV (As := [.int (xs (5 * k + 1))]) (rest := [.int rr]) ⟨hx, hb, hml, hown, hts⟩ ((c7_shut l g r S (xs (5 * k + 1)) rr S2 h7) H.size) (cwV 1 hts gL_law_X7_shut rfl rfl rfl (by decide +kernel) ⟨Nat.le_of_ble_eq_true rfl, Nat.le_of_ble_eq_true rfl⟩) (z_wpreV (ci := 7) (q := (RX7, TX7, 37)) (q0 := 0) (zP_right hP) hK.1 (z_any (zD_right hD)) rfl rfl) rfl rfl hl.1 rfl (lv_room (Nat.le_of_ble_eq_true rfl)) dL_law_353 ⟨Nat.le_of_ble_eq_true rfl, Nat.le_of_ble_eq_true rfl⟩) hP hD hS hA (CW g q C2) List.perm_append_comm rfl List.perm_append_comm (fun H locs hP hD hS => ?_)
  show W p l e room_1 s m #[Value.ref b] below meth c H locs 140 1238 (lw_Z below #[Value.ref b] s) (F0 m 356 ls [.int rr, .int rr])
  refine lv_icmp_eq (tgt := 974) hx hb dL_law_356 (by decide) (fun c1 => ?_) (fun c1 => absurd rfl c1)
  exact hN C2 S2 H locs ls hR2 hP hD hS hl
set_option maxHeartbeats 4000000 in
set_option maxRecDepth 100000 in
theorem lw_seal {p : Program} {l : Launch} {e : Env} {s : State} {m : MethodId} {below : List Frame} {meth : Method} {c : Code} {b L : Nat} {xs : Nat → Int32} {g : zG} {q r : Nat → Nat} {t : Nat} (hL : L ≤ 320) (hx : p.tables.exec = Jvm.exec) (hb : c.code = cL_law) (hml : c.maxLocals = 4) (hown : s.vm.findClass RL = some m.cls) (hts : ∀ w ∈ wsL_law, w.before #[Value.ref b] s = true) (hX : va_X b L xs s s.heap) (hbl : b < s.heap.size) (hK : zKc g s) (hZ : zFz t (fun q : Nat => s.heap.size ≤ q) s s.heap) (Rel : Nat → Cs → MS → Prop) (h_seal : ∀ (k : Nat) (C : Cs) (S : MS) (x1 : Int32), k < 64 → Rel k C S → ∃ (r : Int32) (C2 : Cs) (S2 : MS), f6_seal C x1 = some (r, C2) ∧ f7_seal S x1 = some (r, S2) ∧ Rel (k + 1) C2 S2) (k : Nat) (hk : 5 * k + 5 ≤ L) (hk64 : k < 64) (hN : ∀ (C : Cs) (S : MS) (H : Heap) (locs : List Loc) (ls : Array Slot), Rel (k + 1) C S → va_P (zD g) vwCl (CW g q C ++ MW g r S) H → va_D (fun q : Nat => s.heap.size ≤ q) (CW g q C ++ MW g r S) → va_S (fun q : Nat => s.heap.size ≤ q) s.heap H locs → lv_has ls 4 [(3, .int (nI (5 * k))), (2, .ref (r 0)), (1, .ref (q 0)), (0, .ref b)] → W p l e room_1 s m #[Value.ref b] below meth c H locs 140 1238 (lw_Z below #[Value.ref b] s) (F0 m 974 ls [])) (C : Cs) (S : MS) (H : Heap) (locs : List Loc) (ls : Array Slot) (hR : Rel k C S) (hP : va_P (zD g) vwCl (CW g q C ++ MW g r S) H) (hD : va_D (fun q : Nat => s.heap.size ≤ q) (CW g q C ++ MW g r S)) (hS : va_S (fun q : Nat => s.heap.size ≤ q) s.heap H locs) (hl : lv_has ls 4 [(3, .int (nI (5 * k))), (2, .ref (r 0)), (1, .ref (q 0)), (0, .ref b)]) : W p l e room_1 s m #[Value.ref b] below meth c H locs 140 1238 (lw_Z below #[Value.ref b] s) (F0 m 361 ls []) := by
  have hA : ∀ q : Nat, s.heap.size ≤ q → (fun q : Nat => s.heap.size ≤ q) q := fun _ h => h
  have hbA : ¬ (fun q : Nat => s.heap.size ≤ q) b := Nat.not_le.mpr hbl
  refine lv_aload_n hx hb dL_law_361 rfl (lv_at hl 2 rfl) ?_
  refine lv_aload_n hx hb dL_law_362 rfl (lv_at hl 3 rfl) ?_
  refine lv_iload_n hx hb dL_law_363 rfl (lv_at hl 0 rfl) ?_
  refine lv_iconst (v := 1) hx hb dL_law_364 (by decide) ?_
  refine lv_iadd hx hb dL_law_365 ?_
  rw [show nI (5 * k) + 1 = nI (5 * k + 1) from nI_add (5 * k) 1]
  refine va_sld hx hb hX hbl hbA hS (vp_in_nI (n := 5 * k + 1) (N := L) (by omega) (by omega)) dL_law_366 ?_
  rw [nI_clamp (n := 5 * k + 1) (by omega)]
  obtain ⟨rr, C2, S2, h6, h7, hR2⟩ := h_seal k C S (xs (5 * k + 1)) hk64 hR
  refine z_wgoP (wn := CW g q C2 ++ MW g r S) (va_runV (As := [.int (xs (5 * k + 1))]) (rest := []) ⟨hx, hb, hml, hown, hts⟩ ((c6_seal l g q C (xs (5 * k + 1)) rr C2 h6) H.size) (cwV 1 hts gL_law_X6_seal rfl rfl rfl (by decide +kernel) ⟨Nat.le_of_ble_eq_true rfl, Nat.le_of_ble_eq_true rfl⟩) (z_wpreV (ci := 6) (q := (RX6, TX6, 13)) (q0 := 0) (zP_left hP) hK.1 (z_any (zD_left hD)) rfl rfl) rfl rfl hl.1 rfl (lv_room (Nat.le_of_ble_eq_true rfl)) dL_law_367 ⟨Nat.le_of_ble_eq_true rfl, Nat.le_of_ble_eq_true rfl⟩) hP hD hS hA (MW g r S) (List.Perm.refl _) rfl (List.Perm.refl _) (fun H locs hP hD hS => ?_)
  show W p l e room_1 s m #[Value.ref b] below meth c H locs 140 1238 (lw_Z below #[Value.ref b] s) (F0 m 370 ls [.int rr])
  refine lv_aload_n hx hb dL_law_370 rfl (lv_at hl 1 rfl) ?_
  refine lv_aload_n hx hb dL_law_371 rfl (lv_at hl 3 rfl) ?_
  refine lv_iload_n hx hb dL_law_372 rfl (lv_at hl 0 rfl) ?_
  refine lv_iconst (v := 1) hx hb dL_law_373 (by decide) ?_
  refine lv_iadd hx hb dL_law_374 ?_
  rw [show nI (5 * k) + 1 = nI (5 * k + 1) from nI_add (5 * k) 1]
  refine va_sld hx hb hX hbl hbA hS (vp_in_nI (n := 5 * k + 1) (N := L) (by omega) (by omega)) dL_law_375 ?_
  rw [nI_clamp (n := 5 * k + 1) (by omega)]
  refine z_wgoP (wn := CW g q C2 ++ MW g r S2) (va_runV (As := [.int (xs (5 * k + 1))]) (rest := [.int rr]) ⟨hx, hb, hml, hown, hts⟩ ((c7_seal l g r S (xs (5 * k + 1)) rr S2 h7) H.size) (cwV 1 hts gL_law_X7_seal rfl rfl rfl (by decide +kernel) ⟨Nat.le_of_ble_eq_true rfl, Nat.le_of_ble_eq_true rfl⟩) (z_wpreV (ci := 7) (q := (RX7, TX7, 37)) (q0 := 0) (zP_right hP) hK.1 (z_any (zD_right hD)) rfl rfl) rfl rfl hl.1 rfl (lv_room (Nat.le_of_ble_eq_true rfl)) dL_law_376 ⟨Nat.le_of_ble_eq_true rfl, Nat.le_of_ble_eq_true rfl⟩) hP hD hS hA (CW g q C2) List.perm_append_comm rfl List.perm_append_comm (fun H locs hP hD hS => ?_)
  show W p l e room_1 s m #[Value.ref b] below meth c H locs 140 1238 (lw_Z below #[Value.ref b] s) (F0 m 379 ls [.int rr, .int rr])
  refine lv_icmp_eq (tgt := 974) hx hb dL_law_379 (by decide) (fun c1 => ?_) (fun c1 => absurd rfl c1)
  exact hN C2 S2 H locs ls hR2 hP hD hS hl
set_option maxHeartbeats 4000000 in
set_option maxRecDepth 100000 in
theorem lw_call {p : Program} {l : Launch} {e : Env} {s : State} {m : MethodId} {below : List Frame} {meth : Method} {c : Code} {b L : Nat} {xs : Nat → Int32} {g : zG} {q r : Nat → Nat} {t : Nat} (hL : L ≤ 320) (hx : p.tables.exec = Jvm.exec) (hb : c.code = cL_law) (hml : c.maxLocals = 4) (hown : s.vm.findClass RL = some m.cls) (hts : ∀ w ∈ wsL_law, w.before #[Value.ref b] s = true) (hX : va_X b L xs s s.heap) (hbl : b < s.heap.size) (hK : zKc g s) (hZ : zFz t (fun q : Nat => s.heap.size ≤ q) s s.heap) (Rel : Nat → Cs → MS → Prop) (h_call : ∀ (k : Nat) (C : Cs) (S : MS) (x1 : Int32), k < 64 → Rel k C S → ∃ (r : Int32) (C2 : Cs) (S2 : MS), f6_call C x1 = some (r, C2) ∧ f7_call S x1 = some (r, S2) ∧ Rel (k + 1) C2 S2) (k : Nat) (hk : 5 * k + 5 ≤ L) (hk64 : k < 64) (hN : ∀ (C : Cs) (S : MS) (H : Heap) (locs : List Loc) (ls : Array Slot), Rel (k + 1) C S → va_P (zD g) vwCl (CW g q C ++ MW g r S) H → va_D (fun q : Nat => s.heap.size ≤ q) (CW g q C ++ MW g r S) → va_S (fun q : Nat => s.heap.size ≤ q) s.heap H locs → lv_has ls 4 [(3, .int (nI (5 * k))), (2, .ref (r 0)), (1, .ref (q 0)), (0, .ref b)] → W p l e room_1 s m #[Value.ref b] below meth c H locs 140 1238 (lw_Z below #[Value.ref b] s) (F0 m 974 ls [])) (C : Cs) (S : MS) (H : Heap) (locs : List Loc) (ls : Array Slot) (hR : Rel k C S) (hP : va_P (zD g) vwCl (CW g q C ++ MW g r S) H) (hD : va_D (fun q : Nat => s.heap.size ≤ q) (CW g q C ++ MW g r S)) (hS : va_S (fun q : Nat => s.heap.size ≤ q) s.heap H locs) (hl : lv_has ls 4 [(3, .int (nI (5 * k))), (2, .ref (r 0)), (1, .ref (q 0)), (0, .ref b)]) : W p l e room_1 s m #[Value.ref b] below meth c H locs 140 1238 (lw_Z below #[Value.ref b] s) (F0 m 384 ls []) := by
  have hA : ∀ q : Nat, s.heap.size ≤ q → (fun q : Nat => s.heap.size ≤ q) q := fun _ h => h
  have hbA : ¬ (fun q : Nat => s.heap.size ≤ q) b := Nat.not_le.mpr hbl
  refine lv_aload_n hx hb dL_law_384 rfl (lv_at hl 2 rfl) ?_
  refine lv_aload_n hx hb dL_law_385 rfl (lv_at hl 3 rfl) ?_
  refine lv_iload_n hx hb dL_law_386 rfl (lv_at hl 0 rfl) ?_
  refine lv_iconst (v := 1) hx hb dL_law_387 (by decide) ?_
  refine lv_iadd hx hb dL_law_388 ?_
  rw [show nI (5 * k) + 1 = nI (5 * k + 1) from nI_add (5 * k) 1]
  refine va_sld hx hb hX hbl hbA hS (vp_in_nI (n := 5 * k + 1) (N := L) (by omega) (by omega)) dL_law_389 ?_
  rw [nI_clamp (n := 5 * k + 1) (by omega)]
  obtain ⟨rr, C2, S2, h6, h7, hR2⟩ := h_call k C S (xs (5 * k + 1)) hk64 hR
  refine z_wgoP (wn := CW g q C2 ++ MW g r S) (va_runV (As := [.int (xs (5 * k + 1))]) (rest := []) ⟨hx, hb, hml, hown, hts⟩ ((c6_call l g q C (xs (5 * k + 1)) rr C2 h6) H.size) (cwV 1 hts gL_law_X6_call rfl rfl rfl (by decide +kernel) ⟨Nat.le_of_ble_eq_true rfl, Nat.le_of_ble_eq_true rfl⟩) (z_wpreV (ci := 6) (q := (RX6, TX6, 13)) (q0 := 0) (zP_left hP) hK.1 (z_any (zD_left hD)) rfl rfl) rfl rfl hl.1 rfl (lv_room (Nat.le_of_ble_eq_true rfl)) dL_law_390 ⟨Nat.le_of_ble_eq_true rfl, Nat.le_of_ble_eq_true rfl⟩) hP hD hS hA (MW g r S) (List.Perm.refl _) rfl (List.Perm.refl _) (fun H locs hP hD hS => ?_)
  show W p l e room_1 s m #[Value.ref b] below meth c H locs 140 1238 (lw_Z below #[Value.ref b] s) (F0 m 393 ls [.int rr])
  refine lv_aload_n hx hb dL_law_393 rfl (lv_at hl 1 rfl) ?_
  refine lv_aload_n hx hb dL_law_394 rfl (lv_at hl 3 rfl) ?_
  refine lv_iload_n hx hb dL_law_395 rfl (lv_at hl 0 rfl) ?_
  refine lv_iconst (v := 1) hx hb dL_law_396 (by decide) ?_
  refine lv_iadd hx hb dL_law_397 ?_
  rw [show nI (5 * k) + 1 = nI (5 * k + 1) from nI_add (5 * k) 1]
  refine va_sld hx hb hX hbl hbA hS (vp_in_nI (n := 5 * k + 1) (N := L) (by omega) (by omega)) dL_law_398 ?_
  rw [nI_clamp (n := 5 * k + 1) (by omega)]
  refine z_wgoP (wn := CW g q C2 ++ MW g r S2) (va_runV (As := [.int (xs (5 * k + 1))]) (rest := [.int rr]) ⟨hx, hb, hml, hown, hts⟩ ((c7_call l g r S (xs (5 * k + 1)) rr S2 h7) H.size) (cwV 1 hts gL_law_X7_call rfl rfl rfl (by decide +kernel) ⟨Nat.le_of_ble_eq_true rfl, Nat.le_of_ble_eq_true rfl⟩) (z_wpreV (ci := 7) (q := (RX7, TX7, 37)) (q0 := 0) (zP_right hP) hK.1 (z_any (zD_right hD)) rfl rfl) rfl rfl hl.1 rfl (lv_room (Nat.le_of_ble_eq_true rfl)) dL_law_399 ⟨Nat.le_of_ble_eq_true rfl, Nat.le_of_ble_eq_true rfl⟩) hP hD hS hA (CW g q C2) List.perm_append_comm rfl List.perm_append_comm (fun H locs hP hD hS => ?_)
  show W p l e room_1 s m #[Value.ref b] below meth c H locs 140 1238 (lw_Z below #[Value.ref b] s) (F0 m 402 ls [.int rr, .int rr])
  refine lv_icmp_eq (tgt := 974) hx hb dL_law_402 (by decide) (fun c1 => ?_) (fun c1 => absurd rfl c1)
  exact hN C2 S2 H locs ls hR2 hP hD hS hl
set_option maxHeartbeats 4000000 in
set_option maxRecDepth 100000 in
theorem lw_undo {p : Program} {l : Launch} {e : Env} {s : State} {m : MethodId} {below : List Frame} {meth : Method} {c : Code} {b L : Nat} {xs : Nat → Int32} {g : zG} {q r : Nat → Nat} {t : Nat} (hL : L ≤ 320) (hx : p.tables.exec = Jvm.exec) (hb : c.code = cL_law) (hml : c.maxLocals = 4) (hown : s.vm.findClass RL = some m.cls) (hts : ∀ w ∈ wsL_law, w.before #[Value.ref b] s = true) (hX : va_X b L xs s s.heap) (hbl : b < s.heap.size) (hK : zKc g s) (hZ : zFz t (fun q : Nat => s.heap.size ≤ q) s s.heap) (Rel : Nat → Cs → MS → Prop) (h_undo : ∀ (k : Nat) (C : Cs) (S : MS), k < 64 → Rel k C S → ∃ (r : Int32) (C2 : Cs) (S2 : MS), f6_undo C = some (r, C2) ∧ f7_undo S = some (r, S2) ∧ Rel (k + 1) C2 S2) (k : Nat) (hk : 5 * k + 5 ≤ L) (hk64 : k < 64) (hN : ∀ (C : Cs) (S : MS) (H : Heap) (locs : List Loc) (ls : Array Slot), Rel (k + 1) C S → va_P (zD g) vwCl (CW g q C ++ MW g r S) H → va_D (fun q : Nat => s.heap.size ≤ q) (CW g q C ++ MW g r S) → va_S (fun q : Nat => s.heap.size ≤ q) s.heap H locs → lv_has ls 4 [(3, .int (nI (5 * k))), (2, .ref (r 0)), (1, .ref (q 0)), (0, .ref b)] → W p l e room_1 s m #[Value.ref b] below meth c H locs 140 1238 (lw_Z below #[Value.ref b] s) (F0 m 974 ls [])) (C : Cs) (S : MS) (H : Heap) (locs : List Loc) (ls : Array Slot) (hR : Rel k C S) (hP : va_P (zD g) vwCl (CW g q C ++ MW g r S) H) (hD : va_D (fun q : Nat => s.heap.size ≤ q) (CW g q C ++ MW g r S)) (hS : va_S (fun q : Nat => s.heap.size ≤ q) s.heap H locs) (hl : lv_has ls 4 [(3, .int (nI (5 * k))), (2, .ref (r 0)), (1, .ref (q 0)), (0, .ref b)]) : W p l e room_1 s m #[Value.ref b] below meth c H locs 140 1238 (lw_Z below #[Value.ref b] s) (F0 m 407 ls []) := by
  have hA : ∀ q : Nat, s.heap.size ≤ q → (fun q : Nat => s.heap.size ≤ q) q := fun _ h => h
  have hbA : ¬ (fun q : Nat => s.heap.size ≤ q) b := Nat.not_le.mpr hbl
  refine lv_aload_n hx hb dL_law_407 rfl (lv_at hl 2 rfl) ?_
  obtain ⟨rr, C2, S2, h6, h7, hR2⟩ := h_undo k C S  hk64 hR
  refine z_wgoP (wn := CW g q C2 ++ MW g r S) (va_runV (As := []) (rest := []) ⟨hx, hb, hml, hown, hts⟩ ((c6_undo l g q C  rr C2 h6) H.size) (cwV 0 hts gL_law_X6_undo rfl rfl rfl (by decide +kernel) ⟨Nat.le_of_ble_eq_true rfl, Nat.le_of_ble_eq_true rfl⟩) (z_wpreV (ci := 6) (q := (RX6, TX6, 13)) (q0 := 0) (zP_left hP) hK.1 (z_any (zD_left hD)) rfl rfl) rfl rfl hl.1 rfl (lv_room (Nat.le_of_ble_eq_true rfl)) dL_law_408 ⟨Nat.le_of_ble_eq_true rfl, Nat.le_of_ble_eq_true rfl⟩) hP hD hS hA (MW g r S) (List.Perm.refl _) rfl (List.Perm.refl _) (fun H locs hP hD hS => ?_)
  show W p l e room_1 s m #[Value.ref b] below meth c H locs 140 1238 (lw_Z below #[Value.ref b] s) (F0 m 411 ls [.int rr])
  refine lv_aload_n hx hb dL_law_411 rfl (lv_at hl 1 rfl) ?_
  refine z_wgoP (wn := CW g q C2 ++ MW g r S2) (va_runV (As := []) (rest := [.int rr]) ⟨hx, hb, hml, hown, hts⟩ ((c7_undo l g r S  rr S2 h7) H.size) (cwV 0 hts gL_law_X7_undo rfl rfl rfl (by decide +kernel) ⟨Nat.le_of_ble_eq_true rfl, Nat.le_of_ble_eq_true rfl⟩) (z_wpreV (ci := 7) (q := (RX7, TX7, 37)) (q0 := 0) (zP_right hP) hK.1 (z_any (zD_right hD)) rfl rfl) rfl rfl hl.1 rfl (lv_room (Nat.le_of_ble_eq_true rfl)) dL_law_412 ⟨Nat.le_of_ble_eq_true rfl, Nat.le_of_ble_eq_true rfl⟩) hP hD hS hA (CW g q C2) List.perm_append_comm rfl List.perm_append_comm (fun H locs hP hD hS => ?_)
  show W p l e room_1 s m #[Value.ref b] below meth c H locs 140 1238 (lw_Z below #[Value.ref b] s) (F0 m 415 ls [.int rr, .int rr])
  refine lv_icmp_eq (tgt := 974) hx hb dL_law_415 (by decide) (fun c1 => ?_) (fun c1 => absurd rfl c1)
  exact hN C2 S2 H locs ls hR2 hP hD hS hl
set_option maxHeartbeats 4000000 in
set_option maxRecDepth 100000 in
theorem lw_ahead {p : Program} {l : Launch} {e : Env} {s : State} {m : MethodId} {below : List Frame} {meth : Method} {c : Code} {b L : Nat} {xs : Nat → Int32} {g : zG} {q r : Nat → Nat} {t : Nat} (hL : L ≤ 320) (hx : p.tables.exec = Jvm.exec) (hb : c.code = cL_law) (hml : c.maxLocals = 4) (hown : s.vm.findClass RL = some m.cls) (hts : ∀ w ∈ wsL_law, w.before #[Value.ref b] s = true) (hX : va_X b L xs s s.heap) (hbl : b < s.heap.size) (hK : zKc g s) (hZ : zFz t (fun q : Nat => s.heap.size ≤ q) s s.heap) (Rel : Nat → Cs → MS → Prop) (h_ahead : ∀ (k : Nat) (C : Cs) (S : MS) (x1 : Int32) (x2 : Int32), k < 64 → Rel k C S → ∃ (r : Int32) (C2 : Cs) (S2 : MS), f6_ahead C x1 x2 = some (r, C2) ∧ f7_ahead S x1 x2 = some (r, S2) ∧ Rel (k + 1) C2 S2) (k : Nat) (hk : 5 * k + 5 ≤ L) (hk64 : k < 64) (hN : ∀ (C : Cs) (S : MS) (H : Heap) (locs : List Loc) (ls : Array Slot), Rel (k + 1) C S → va_P (zD g) vwCl (CW g q C ++ MW g r S) H → va_D (fun q : Nat => s.heap.size ≤ q) (CW g q C ++ MW g r S) → va_S (fun q : Nat => s.heap.size ≤ q) s.heap H locs → lv_has ls 4 [(3, .int (nI (5 * k))), (2, .ref (r 0)), (1, .ref (q 0)), (0, .ref b)] → W p l e room_1 s m #[Value.ref b] below meth c H locs 140 1238 (lw_Z below #[Value.ref b] s) (F0 m 974 ls [])) (C : Cs) (S : MS) (H : Heap) (locs : List Loc) (ls : Array Slot) (hR : Rel k C S) (hP : va_P (zD g) vwCl (CW g q C ++ MW g r S) H) (hD : va_D (fun q : Nat => s.heap.size ≤ q) (CW g q C ++ MW g r S)) (hS : va_S (fun q : Nat => s.heap.size ≤ q) s.heap H locs) (hl : lv_has ls 4 [(3, .int (nI (5 * k))), (2, .ref (r 0)), (1, .ref (q 0)), (0, .ref b)]) : W p l e room_1 s m #[Value.ref b] below meth c H locs 140 1238 (lw_Z below #[Value.ref b] s) (F0 m 420 ls []) := by
  have hA : ∀ q : Nat, s.heap.size ≤ q → (fun q : Nat => s.heap.size ≤ q) q := fun _ h => h
  have hbA : ¬ (fun q : Nat => s.heap.size ≤ q) b := Nat.not_le.mpr hbl
  refine lv_aload_n hx hb dL_law_420 rfl (lv_at hl 2 rfl) ?_
  refine lv_aload_n hx hb dL_law_421 rfl (lv_at hl 3 rfl) ?_
  refine lv_iload_n hx hb dL_law_422 rfl (lv_at hl 0 rfl) ?_
  refine lv_iconst (v := 1) hx hb dL_law_423 (by decide) ?_
  refine lv_iadd hx hb dL_law_424 ?_
  rw [show nI (5 * k) + 1 = nI (5 * k + 1) from nI_add (5 * k) 1]
  refine va_sld hx hb hX hbl hbA hS (vp_in_nI (n := 5 * k + 1) (N := L) (by omega) (by omega)) dL_law_425 ?_
  rw [nI_clamp (n := 5 * k + 1) (by omega)]
  refine lv_aload_n hx hb dL_law_426 rfl (lv_at hl 3 rfl) ?_
  refine lv_iload_n hx hb dL_law_427 rfl (lv_at hl 0 rfl) ?_
  refine lv_iconst (v := 2) hx hb dL_law_428 (by decide) ?_
  refine lv_iadd hx hb dL_law_429 ?_
  rw [show nI (5 * k) + 2 = nI (5 * k + 2) from nI_add (5 * k) 2]
  refine va_sld hx hb hX hbl hbA hS (vp_in_nI (n := 5 * k + 2) (N := L) (by omega) (by omega)) dL_law_430 ?_
  rw [nI_clamp (n := 5 * k + 2) (by omega)]
  obtain ⟨rr, C2, S2, h6, h7, hR2⟩ := h_ahead k C S (xs (5 * k + 1)) (xs (5 * k + 2)) hk64 hR
  refine z_wgoP (wn := CW g q C2 ++ MW g r S) (va_runV (As := [.int (xs (5 * k + 1)), .int (xs (5 * k + 2))]) (rest := []) ⟨hx, hb, hml, hown, hts⟩ ((c6_ahead l g q C (xs (5 * k + 1)) (xs (5 * k + 2)) rr C2 h6) H.size) (cwV 2 hts gL_law_X6_ahead rfl rfl rfl (by decide +kernel) ⟨Nat.le_of_ble_eq_true rfl, Nat.le_of_ble_eq_true rfl⟩) (z_wpreV (ci := 6) (q := (RX6, TX6, 13)) (q0 := 0) (zP_left hP) hK.1 (z_any (zD_left hD)) rfl rfl) rfl rfl hl.1 rfl (lv_room (Nat.le_of_ble_eq_true rfl)) dL_law_431 ⟨Nat.le_of_ble_eq_true rfl, Nat.le_of_ble_eq_true rfl⟩) hP hD hS hA (MW g r S) (List.Perm.refl _) rfl (List.Perm.refl _) (fun H locs hP hD hS => ?_)
  show W p l e room_1 s m #[Value.ref b] below meth c H locs 140 1238 (lw_Z below #[Value.ref b] s) (F0 m 434 ls [.int rr])
  refine lv_aload_n hx hb dL_law_434 rfl (lv_at hl 1 rfl) ?_
  refine lv_aload_n hx hb dL_law_435 rfl (lv_at hl 3 rfl) ?_
  refine lv_iload_n hx hb dL_law_436 rfl (lv_at hl 0 rfl) ?_
  refine lv_iconst (v := 1) hx hb dL_law_437 (by decide) ?_
  refine lv_iadd hx hb dL_law_438 ?_
  rw [show nI (5 * k) + 1 = nI (5 * k + 1) from nI_add (5 * k) 1]
  refine va_sld hx hb hX hbl hbA hS (vp_in_nI (n := 5 * k + 1) (N := L) (by omega) (by omega)) dL_law_439 ?_
  rw [nI_clamp (n := 5 * k + 1) (by omega)]
  refine lv_aload_n hx hb dL_law_440 rfl (lv_at hl 3 rfl) ?_
  refine lv_iload_n hx hb dL_law_441 rfl (lv_at hl 0 rfl) ?_
  refine lv_iconst (v := 2) hx hb dL_law_442 (by decide) ?_
  refine lv_iadd hx hb dL_law_443 ?_
  rw [show nI (5 * k) + 2 = nI (5 * k + 2) from nI_add (5 * k) 2]
  refine va_sld hx hb hX hbl hbA hS (vp_in_nI (n := 5 * k + 2) (N := L) (by omega) (by omega)) dL_law_444 ?_
  rw [nI_clamp (n := 5 * k + 2) (by omega)]
  refine z_wgoP (wn := CW g q C2 ++ MW g r S2) (va_runV (As := [.int (xs (5 * k + 1)), .int (xs (5 * k + 2))]) (rest := [.int rr]) ⟨hx, hb, hml, hown, hts⟩ ((c7_ahead l g r S (xs (5 * k + 1)) (xs (5 * k + 2)) rr S2 h7) H.size) (cwV 2 hts gL_law_X7_ahead rfl rfl rfl (by decide +kernel) ⟨Nat.le_of_ble_eq_true rfl, Nat.le_of_ble_eq_true rfl⟩) (z_wpreV (ci := 7) (q := (RX7, TX7, 37)) (q0 := 0) (zP_right hP) hK.1 (z_any (zD_right hD)) rfl rfl) rfl rfl hl.1 rfl (lv_room (Nat.le_of_ble_eq_true rfl)) dL_law_445 ⟨Nat.le_of_ble_eq_true rfl, Nat.le_of_ble_eq_true rfl⟩) hP hD hS hA (CW g q C2) List.perm_append_comm rfl List.perm_append_comm (fun H locs hP hD hS => ?_)
  show W p l e room_1 s m #[Value.ref b] below meth c H locs 140 1238 (lw_Z below #[Value.ref b] s) (F0 m 448 ls [.int rr, .int rr])
  refine lv_icmp_eq (tgt := 974) hx hb dL_law_448 (by decide) (fun c1 => ?_) (fun c1 => absurd rfl c1)
  exact hN C2 S2 H locs ls hR2 hP hD hS hl
set_option maxHeartbeats 4000000 in
set_option maxRecDepth 100000 in
theorem lw_comes {p : Program} {l : Launch} {e : Env} {s : State} {m : MethodId} {below : List Frame} {meth : Method} {c : Code} {b L : Nat} {xs : Nat → Int32} {g : zG} {q r : Nat → Nat} {t : Nat} (hL : L ≤ 320) (hx : p.tables.exec = Jvm.exec) (hb : c.code = cL_law) (hml : c.maxLocals = 4) (hown : s.vm.findClass RL = some m.cls) (hts : ∀ w ∈ wsL_law, w.before #[Value.ref b] s = true) (hX : va_X b L xs s s.heap) (hbl : b < s.heap.size) (hK : zKc g s) (hZ : zFz t (fun q : Nat => s.heap.size ≤ q) s s.heap) (Rel : Nat → Cs → MS → Prop) (h_comes : ∀ (k : Nat) (C : Cs) (S : MS) (x1 : Int32) (x2 : Int32), k < 64 → Rel k C S → ∃ (r : Int32) (C2 : Cs) (S2 : MS), f6_comes C x1 x2 = some (r, C2) ∧ f7_comes S x1 x2 = some (r, S2) ∧ Rel (k + 1) C2 S2) (k : Nat) (hk : 5 * k + 5 ≤ L) (hk64 : k < 64) (hN : ∀ (C : Cs) (S : MS) (H : Heap) (locs : List Loc) (ls : Array Slot), Rel (k + 1) C S → va_P (zD g) vwCl (CW g q C ++ MW g r S) H → va_D (fun q : Nat => s.heap.size ≤ q) (CW g q C ++ MW g r S) → va_S (fun q : Nat => s.heap.size ≤ q) s.heap H locs → lv_has ls 4 [(3, .int (nI (5 * k))), (2, .ref (r 0)), (1, .ref (q 0)), (0, .ref b)] → W p l e room_1 s m #[Value.ref b] below meth c H locs 140 1238 (lw_Z below #[Value.ref b] s) (F0 m 974 ls [])) (C : Cs) (S : MS) (H : Heap) (locs : List Loc) (ls : Array Slot) (hR : Rel k C S) (hP : va_P (zD g) vwCl (CW g q C ++ MW g r S) H) (hD : va_D (fun q : Nat => s.heap.size ≤ q) (CW g q C ++ MW g r S)) (hS : va_S (fun q : Nat => s.heap.size ≤ q) s.heap H locs) (hl : lv_has ls 4 [(3, .int (nI (5 * k))), (2, .ref (r 0)), (1, .ref (q 0)), (0, .ref b)]) : W p l e room_1 s m #[Value.ref b] below meth c H locs 140 1238 (lw_Z below #[Value.ref b] s) (F0 m 453 ls []) := by
  have hA : ∀ q : Nat, s.heap.size ≤ q → (fun q : Nat => s.heap.size ≤ q) q := fun _ h => h
  have hbA : ¬ (fun q : Nat => s.heap.size ≤ q) b := Nat.not_le.mpr hbl
  refine lv_aload_n hx hb dL_law_453 rfl (lv_at hl 2 rfl) ?_
  refine lv_aload_n hx hb dL_law_454 rfl (lv_at hl 3 rfl) ?_
  refine lv_iload_n hx hb dL_law_455 rfl (lv_at hl 0 rfl) ?_
  refine lv_iconst (v := 1) hx hb dL_law_456 (by decide) ?_
  refine lv_iadd hx hb dL_law_457 ?_
  rw [show nI (5 * k) + 1 = nI (5 * k + 1) from nI_add (5 * k) 1]
  refine va_sld hx hb hX hbl hbA hS (vp_in_nI (n := 5 * k + 1) (N := L) (by omega) (by omega)) dL_law_458 ?_
  rw [nI_clamp (n := 5 * k + 1) (by omega)]
  refine lv_aload_n hx hb dL_law_459 rfl (lv_at hl 3 rfl) ?_
  refine lv_iload_n hx hb dL_law_460 rfl (lv_at hl 0 rfl) ?_
  refine lv_iconst (v := 2) hx hb dL_law_461 (by decide) ?_
  refine lv_iadd hx hb dL_law_462 ?_
  rw [show nI (5 * k) + 2 = nI (5 * k + 2) from nI_add (5 * k) 2]
  refine va_sld hx hb hX hbl hbA hS (vp_in_nI (n := 5 * k + 2) (N := L) (by omega) (by omega)) dL_law_463 ?_
  rw [nI_clamp (n := 5 * k + 2) (by omega)]
  obtain ⟨rr, C2, S2, h6, h7, hR2⟩ := h_comes k C S (xs (5 * k + 1)) (xs (5 * k + 2)) hk64 hR
  refine z_wgoP (wn := CW g q C2 ++ MW g r S) (va_runV (As := [.int (xs (5 * k + 1)), .int (xs (5 * k + 2))]) (rest := []) ⟨hx, hb, hml, hown, hts⟩ ((c6_comes l g q C (xs (5 * k + 1)) (xs (5 * k + 2)) rr C2 h6) H.size) (cwV 2 hts gL_law_X6_comes rfl rfl rfl (by decide +kernel) ⟨Nat.le_of_ble_eq_true rfl, Nat.le_of_ble_eq_true rfl⟩) (z_wpreV (ci := 6) (q := (RX6, TX6, 13)) (q0 := 0) (zP_left hP) hK.1 (z_any (zD_left hD)) rfl rfl) rfl rfl hl.1 rfl (lv_room (Nat.le_of_ble_eq_true rfl)) dL_law_464 ⟨Nat.le_of_ble_eq_true rfl, Nat.le_of_ble_eq_true rfl⟩) hP hD hS hA (MW g r S) (List.Perm.refl _) rfl (List.Perm.refl _) (fun H locs hP hD hS => ?_)
  show W p l e room_1 s m #[Value.ref b] below meth c H locs 140 1238 (lw_Z below #[Value.ref b] s) (F0 m 467 ls [.int rr])
  refine lv_aload_n hx hb dL_law_467 rfl (lv_at hl 1 rfl) ?_
  refine lv_aload_n hx hb dL_law_468 rfl (lv_at hl 3 rfl) ?_
  refine lv_iload_n hx hb dL_law_469 rfl (lv_at hl 0 rfl) ?_
  refine lv_iconst (v := 1) hx hb dL_law_470 (by decide) ?_
  refine lv_iadd hx hb dL_law_471 ?_
  rw [show nI (5 * k) + 1 = nI (5 * k + 1) from nI_add (5 * k) 1]
  refine va_sld hx hb hX hbl hbA hS (vp_in_nI (n := 5 * k + 1) (N := L) (by omega) (by omega)) dL_law_472 ?_
  rw [nI_clamp (n := 5 * k + 1) (by omega)]
  refine lv_aload_n hx hb dL_law_473 rfl (lv_at hl 3 rfl) ?_
  refine lv_iload_n hx hb dL_law_474 rfl (lv_at hl 0 rfl) ?_
  refine lv_iconst (v := 2) hx hb dL_law_475 (by decide) ?_
  refine lv_iadd hx hb dL_law_476 ?_
  rw [show nI (5 * k) + 2 = nI (5 * k + 2) from nI_add (5 * k) 2]
  refine va_sld hx hb hX hbl hbA hS (vp_in_nI (n := 5 * k + 2) (N := L) (by omega) (by omega)) dL_law_477 ?_
  rw [nI_clamp (n := 5 * k + 2) (by omega)]
  refine z_wgoP (wn := CW g q C2 ++ MW g r S2) (va_runV (As := [.int (xs (5 * k + 1)), .int (xs (5 * k + 2))]) (rest := [.int rr]) ⟨hx, hb, hml, hown, hts⟩ ((c7_comes l g r S (xs (5 * k + 1)) (xs (5 * k + 2)) rr S2 h7) H.size) (cwV 2 hts gL_law_X7_comes rfl rfl rfl (by decide +kernel) ⟨Nat.le_of_ble_eq_true rfl, Nat.le_of_ble_eq_true rfl⟩) (z_wpreV (ci := 7) (q := (RX7, TX7, 37)) (q0 := 0) (zP_right hP) hK.1 (z_any (zD_right hD)) rfl rfl) rfl rfl hl.1 rfl (lv_room (Nat.le_of_ble_eq_true rfl)) dL_law_478 ⟨Nat.le_of_ble_eq_true rfl, Nat.le_of_ble_eq_true rfl⟩) hP hD hS hA (CW g q C2) List.perm_append_comm rfl List.perm_append_comm (fun H locs hP hD hS => ?_)
  show W p l e room_1 s m #[Value.ref b] below meth c H locs 140 1238 (lw_Z below #[Value.ref b] s) (F0 m 481 ls [.int rr, .int rr])
  refine lv_icmp_eq (tgt := 974) hx hb dL_law_481 (by decide) (fun c1 => ?_) (fun c1 => absurd rfl c1)
  exact hN C2 S2 H locs ls hR2 hP hD hS hl
set_option maxHeartbeats 4000000 in
set_option maxRecDepth 100000 in
theorem lw_way {p : Program} {l : Launch} {e : Env} {s : State} {m : MethodId} {below : List Frame} {meth : Method} {c : Code} {b L : Nat} {xs : Nat → Int32} {g : zG} {q r : Nat → Nat} {t : Nat} (hL : L ≤ 320) (hx : p.tables.exec = Jvm.exec) (hb : c.code = cL_law) (hml : c.maxLocals = 4) (hown : s.vm.findClass RL = some m.cls) (hts : ∀ w ∈ wsL_law, w.before #[Value.ref b] s = true) (hX : va_X b L xs s s.heap) (hbl : b < s.heap.size) (hK : zKc g s) (hZ : zFz t (fun q : Nat => s.heap.size ≤ q) s s.heap) (Rel : Nat → Cs → MS → Prop) (h_way : ∀ (k : Nat) (C : Cs) (S : MS) (x1 : Int32) (x2 : Int32), k < 64 → Rel k C S → ∃ r : Int32, f6_way C x1 x2 = some r ∧ f7_way S x1 x2 = some r ∧ Rel (k + 1) C S) (k : Nat) (hk : 5 * k + 5 ≤ L) (hk64 : k < 64) (hN : ∀ (C : Cs) (S : MS) (H : Heap) (locs : List Loc) (ls : Array Slot), Rel (k + 1) C S → va_P (zD g) vwCl (CW g q C ++ MW g r S) H → va_D (fun q : Nat => s.heap.size ≤ q) (CW g q C ++ MW g r S) → va_S (fun q : Nat => s.heap.size ≤ q) s.heap H locs → lv_has ls 4 [(3, .int (nI (5 * k))), (2, .ref (r 0)), (1, .ref (q 0)), (0, .ref b)] → W p l e room_1 s m #[Value.ref b] below meth c H locs 140 1238 (lw_Z below #[Value.ref b] s) (F0 m 974 ls [])) (C : Cs) (S : MS) (H : Heap) (locs : List Loc) (ls : Array Slot) (hR : Rel k C S) (hP : va_P (zD g) vwCl (CW g q C ++ MW g r S) H) (hD : va_D (fun q : Nat => s.heap.size ≤ q) (CW g q C ++ MW g r S)) (hS : va_S (fun q : Nat => s.heap.size ≤ q) s.heap H locs) (hl : lv_has ls 4 [(3, .int (nI (5 * k))), (2, .ref (r 0)), (1, .ref (q 0)), (0, .ref b)]) : W p l e room_1 s m #[Value.ref b] below meth c H locs 140 1238 (lw_Z below #[Value.ref b] s) (F0 m 486 ls []) := by
  have hA : ∀ q : Nat, s.heap.size ≤ q → (fun q : Nat => s.heap.size ≤ q) q := fun _ h => h
  have hbA : ¬ (fun q : Nat => s.heap.size ≤ q) b := Nat.not_le.mpr hbl
  refine lv_aload_n hx hb dL_law_486 rfl (lv_at hl 2 rfl) ?_
  refine lv_aload_n hx hb dL_law_487 rfl (lv_at hl 3 rfl) ?_
  refine lv_iload_n hx hb dL_law_488 rfl (lv_at hl 0 rfl) ?_
  refine lv_iconst (v := 1) hx hb dL_law_489 (by decide) ?_
  refine lv_iadd hx hb dL_law_490 ?_
  rw [show nI (5 * k) + 1 = nI (5 * k + 1) from nI_add (5 * k) 1]
  refine va_sld hx hb hX hbl hbA hS (vp_in_nI (n := 5 * k + 1) (N := L) (by omega) (by omega)) dL_law_491 ?_
  rw [nI_clamp (n := 5 * k + 1) (by omega)]
  refine lv_aload_n hx hb dL_law_492 rfl (lv_at hl 3 rfl) ?_
  refine lv_iload_n hx hb dL_law_493 rfl (lv_at hl 0 rfl) ?_
  refine lv_iconst (v := 2) hx hb dL_law_494 (by decide) ?_
  refine lv_iadd hx hb dL_law_495 ?_
  rw [show nI (5 * k) + 2 = nI (5 * k + 2) from nI_add (5 * k) 2]
  refine va_sld hx hb hX hbl hbA hS (vp_in_nI (n := 5 * k + 2) (N := L) (by omega) (by omega)) dL_law_496 ?_
  rw [nI_clamp (n := 5 * k + 2) (by omega)]
  obtain ⟨rr, h6, h7, hR2⟩ := h_way k C S (xs (5 * k + 1)) (xs (5 * k + 2)) hk64 hR
  refine z_rgo (va_runV (As := [.int (xs (5 * k + 1)), .int (xs (5 * k + 2))]) (rest := []) ⟨hx, hb, hml, hown, hts⟩ (c6_way l g q C (xs (5 * k + 1)) (xs (5 * k + 2)) rr h6) (cwV 2 hts gL_law_X6_way rfl rfl rfl (by decide +kernel) ⟨Nat.le_of_ble_eq_true rfl, Nat.le_of_ble_eq_true rfl⟩) (z_rpreV (ci := 6) (q := (RX6, TX6, 13)) (q0 := 0) (zP_left hP) hK.1 rfl rfl) rfl rfl hl.1 rfl (lv_room (Nat.le_of_ble_eq_true rfl)) dL_law_497 ⟨Nat.le_of_ble_eq_true rfl, Nat.le_of_ble_eq_true rfl⟩) ?_
  refine lv_aload_n hx hb dL_law_500 rfl (lv_at hl 1 rfl) ?_
  refine lv_aload_n hx hb dL_law_501 rfl (lv_at hl 3 rfl) ?_
  refine lv_iload_n hx hb dL_law_502 rfl (lv_at hl 0 rfl) ?_
  refine lv_iconst (v := 1) hx hb dL_law_503 (by decide) ?_
  refine lv_iadd hx hb dL_law_504 ?_
  rw [show nI (5 * k) + 1 = nI (5 * k + 1) from nI_add (5 * k) 1]
  refine va_sld hx hb hX hbl hbA hS (vp_in_nI (n := 5 * k + 1) (N := L) (by omega) (by omega)) dL_law_505 ?_
  rw [nI_clamp (n := 5 * k + 1) (by omega)]
  refine lv_aload_n hx hb dL_law_506 rfl (lv_at hl 3 rfl) ?_
  refine lv_iload_n hx hb dL_law_507 rfl (lv_at hl 0 rfl) ?_
  refine lv_iconst (v := 2) hx hb dL_law_508 (by decide) ?_
  refine lv_iadd hx hb dL_law_509 ?_
  rw [show nI (5 * k) + 2 = nI (5 * k + 2) from nI_add (5 * k) 2]
  refine va_sld hx hb hX hbl hbA hS (vp_in_nI (n := 5 * k + 2) (N := L) (by omega) (by omega)) dL_law_510 ?_
  rw [nI_clamp (n := 5 * k + 2) (by omega)]
  refine z_rgo (va_runV (As := [.int (xs (5 * k + 1)), .int (xs (5 * k + 2))]) (rest := [.int rr]) ⟨hx, hb, hml, hown, hts⟩ (c7_way l g r S (xs (5 * k + 1)) (xs (5 * k + 2)) rr h7) (cwV 2 hts gL_law_X7_way rfl rfl rfl (by decide +kernel) ⟨Nat.le_of_ble_eq_true rfl, Nat.le_of_ble_eq_true rfl⟩) (z_rpreV (ci := 7) (q := (RX7, TX7, 37)) (q0 := 0) (zP_right hP) hK.1 rfl rfl) rfl rfl hl.1 rfl (lv_room (Nat.le_of_ble_eq_true rfl)) dL_law_511 ⟨Nat.le_of_ble_eq_true rfl, Nat.le_of_ble_eq_true rfl⟩) ?_
  refine lv_icmp_eq (tgt := 974) hx hb dL_law_514 (by decide) (fun c1 => ?_) (fun c1 => absurd rfl c1)
  exact hN C S H locs ls hR2 hP hD hS hl
set_option maxHeartbeats 4000000 in
set_option maxRecDepth 100000 in
theorem lw_mend {p : Program} {l : Launch} {e : Env} {s : State} {m : MethodId} {below : List Frame} {meth : Method} {c : Code} {b L : Nat} {xs : Nat → Int32} {g : zG} {q r : Nat → Nat} {t : Nat} (hL : L ≤ 320) (hx : p.tables.exec = Jvm.exec) (hb : c.code = cL_law) (hml : c.maxLocals = 4) (hown : s.vm.findClass RL = some m.cls) (hts : ∀ w ∈ wsL_law, w.before #[Value.ref b] s = true) (hX : va_X b L xs s s.heap) (hbl : b < s.heap.size) (hK : zKc g s) (hZ : zFz t (fun q : Nat => s.heap.size ≤ q) s s.heap) (Rel : Nat → Cs → MS → Prop) (h_mend : ∀ (k : Nat) (C : Cs) (S : MS) (x1 : Int32), k < 64 → Rel k C S → ∃ (r : Int32) (C2 : Cs) (S2 : MS), f6_mend C x1 = some (r, C2) ∧ f7_mend S x1 = some (r, S2) ∧ Rel (k + 1) C2 S2) (k : Nat) (hk : 5 * k + 5 ≤ L) (hk64 : k < 64) (hN : ∀ (C : Cs) (S : MS) (H : Heap) (locs : List Loc) (ls : Array Slot), Rel (k + 1) C S → va_P (zD g) vwCl (CW g q C ++ MW g r S) H → va_D (fun q : Nat => s.heap.size ≤ q) (CW g q C ++ MW g r S) → va_S (fun q : Nat => s.heap.size ≤ q) s.heap H locs → lv_has ls 4 [(3, .int (nI (5 * k))), (2, .ref (r 0)), (1, .ref (q 0)), (0, .ref b)] → W p l e room_1 s m #[Value.ref b] below meth c H locs 140 1238 (lw_Z below #[Value.ref b] s) (F0 m 974 ls [])) (C : Cs) (S : MS) (H : Heap) (locs : List Loc) (ls : Array Slot) (hR : Rel k C S) (hP : va_P (zD g) vwCl (CW g q C ++ MW g r S) H) (hD : va_D (fun q : Nat => s.heap.size ≤ q) (CW g q C ++ MW g r S)) (hS : va_S (fun q : Nat => s.heap.size ≤ q) s.heap H locs) (hl : lv_has ls 4 [(3, .int (nI (5 * k))), (2, .ref (r 0)), (1, .ref (q 0)), (0, .ref b)]) : W p l e room_1 s m #[Value.ref b] below meth c H locs 140 1238 (lw_Z below #[Value.ref b] s) (F0 m 519 ls []) := by
  have hA : ∀ q : Nat, s.heap.size ≤ q → (fun q : Nat => s.heap.size ≤ q) q := fun _ h => h
  have hbA : ¬ (fun q : Nat => s.heap.size ≤ q) b := Nat.not_le.mpr hbl
  refine lv_aload_n hx hb dL_law_519 rfl (lv_at hl 2 rfl) ?_
  refine lv_aload_n hx hb dL_law_520 rfl (lv_at hl 3 rfl) ?_
  refine lv_iload_n hx hb dL_law_521 rfl (lv_at hl 0 rfl) ?_
  refine lv_iconst (v := 1) hx hb dL_law_522 (by decide) ?_
  refine lv_iadd hx hb dL_law_523 ?_
  rw [show nI (5 * k) + 1 = nI (5 * k + 1) from nI_add (5 * k) 1]
  refine va_sld hx hb hX hbl hbA hS (vp_in_nI (n := 5 * k + 1) (N := L) (by omega) (by omega)) dL_law_524 ?_
  rw [nI_clamp (n := 5 * k + 1) (by omega)]
  obtain ⟨rr, C2, S2, h6, h7, hR2⟩ := h_mend k C S (xs (5 * k + 1)) hk64 hR
  refine z_wgoP (wn := CW g q C2 ++ MW g r S) (va_runV (As := [.int (xs (5 * k + 1))]) (rest := []) ⟨hx, hb, hml, hown, hts⟩ ((c6_mend l g q C (xs (5 * k + 1)) rr C2 h6) H.size) (cwV 1 hts gL_law_X6_mend rfl rfl rfl (by decide +kernel) ⟨Nat.le_of_ble_eq_true rfl, Nat.le_of_ble_eq_true rfl⟩) (z_wpreV (ci := 6) (q := (RX6, TX6, 13)) (q0 := 0) (zP_left hP) hK.1 (z_any (zD_left hD)) rfl rfl) rfl rfl hl.1 rfl (lv_room (Nat.le_of_ble_eq_true rfl)) dL_law_525 ⟨Nat.le_of_ble_eq_true rfl, Nat.le_of_ble_eq_true rfl⟩) hP hD hS hA (MW g r S) (List.Perm.refl _) rfl (List.Perm.refl _) (fun H locs hP hD hS => ?_)
  show W p l e room_1 s m #[Value.ref b] below meth c H locs 140 1238 (lw_Z below #[Value.ref b] s) (F0 m 528 ls [.int rr])
  refine lv_aload_n hx hb dL_law_528 rfl (lv_at hl 1 rfl) ?_
  refine lv_aload_n hx hb dL_law_529 rfl (lv_at hl 3 rfl) ?_
  refine lv_iload_n hx hb dL_law_530 rfl (lv_at hl 0 rfl) ?_
  refine lv_iconst (v := 1) hx hb dL_law_531 (by decide) ?_
  refine lv_iadd hx hb dL_law_532 ?_
  rw [show nI (5 * k) + 1 = nI (5 * k + 1) from nI_add (5 * k) 1]
  refine va_sld hx hb hX hbl hbA hS (vp_in_nI (n := 5 * k + 1) (N := L) (by omega) (by omega)) dL_law_533 ?_
  rw [nI_clamp (n := 5 * k + 1) (by omega)]
  refine z_wgoP (wn := CW g q C2 ++ MW g r S2) (va_runV (As := [.int (xs (5 * k + 1))]) (rest := [.int rr]) ⟨hx, hb, hml, hown, hts⟩ ((c7_mend l g r S (xs (5 * k + 1)) rr S2 h7) H.size) (cwV 1 hts gL_law_X7_mend rfl rfl rfl (by decide +kernel) ⟨Nat.le_of_ble_eq_true rfl, Nat.le_of_ble_eq_true rfl⟩) (z_wpreV (ci := 7) (q := (RX7, TX7, 37)) (q0 := 0) (zP_right hP) hK.1 (z_any (zD_right hD)) rfl rfl) rfl rfl hl.1 rfl (lv_room (Nat.le_of_ble_eq_true rfl)) dL_law_534 ⟨Nat.le_of_ble_eq_true rfl, Nat.le_of_ble_eq_true rfl⟩) hP hD hS hA (CW g q C2) List.perm_append_comm rfl List.perm_append_comm (fun H locs hP hD hS => ?_)
  show W p l e room_1 s m #[Value.ref b] below meth c H locs 140 1238 (lw_Z below #[Value.ref b] s) (F0 m 537 ls [.int rr, .int rr])
  refine lv_icmp_eq (tgt := 974) hx hb dL_law_537 (by decide) (fun c1 => ?_) (fun c1 => absurd rfl c1)
  exact hN C2 S2 H locs ls hR2 hP hD hS hl
set_option maxHeartbeats 4000000 in
set_option maxRecDepth 100000 in
theorem lw_watch {p : Program} {l : Launch} {e : Env} {s : State} {m : MethodId} {below : List Frame} {meth : Method} {c : Code} {b L : Nat} {xs : Nat → Int32} {g : zG} {q r : Nat → Nat} {t : Nat} (hL : L ≤ 320) (hx : p.tables.exec = Jvm.exec) (hb : c.code = cL_law) (hml : c.maxLocals = 4) (hown : s.vm.findClass RL = some m.cls) (hts : ∀ w ∈ wsL_law, w.before #[Value.ref b] s = true) (hX : va_X b L xs s s.heap) (hbl : b < s.heap.size) (hK : zKc g s) (hZ : zFz t (fun q : Nat => s.heap.size ≤ q) s s.heap) (Rel : Nat → Cs → MS → Prop) (h_watch : ∀ (k : Nat) (C : Cs) (S : MS), k < 64 → Rel k C S → ∃ (r : Int32) (C2 : Cs) (S2 : MS), f6_watch C = some (r, C2) ∧ f7_watch S = some (r, S2) ∧ Rel (k + 1) C2 S2) (k : Nat) (hk : 5 * k + 5 ≤ L) (hk64 : k < 64) (hN : ∀ (C : Cs) (S : MS) (H : Heap) (locs : List Loc) (ls : Array Slot), Rel (k + 1) C S → va_P (zD g) vwCl (CW g q C ++ MW g r S) H → va_D (fun q : Nat => s.heap.size ≤ q) (CW g q C ++ MW g r S) → va_S (fun q : Nat => s.heap.size ≤ q) s.heap H locs → lv_has ls 4 [(3, .int (nI (5 * k))), (2, .ref (r 0)), (1, .ref (q 0)), (0, .ref b)] → W p l e room_1 s m #[Value.ref b] below meth c H locs 140 1238 (lw_Z below #[Value.ref b] s) (F0 m 974 ls [])) (C : Cs) (S : MS) (H : Heap) (locs : List Loc) (ls : Array Slot) (hR : Rel k C S) (hP : va_P (zD g) vwCl (CW g q C ++ MW g r S) H) (hD : va_D (fun q : Nat => s.heap.size ≤ q) (CW g q C ++ MW g r S)) (hS : va_S (fun q : Nat => s.heap.size ≤ q) s.heap H locs) (hl : lv_has ls 4 [(3, .int (nI (5 * k))), (2, .ref (r 0)), (1, .ref (q 0)), (0, .ref b)]) : W p l e room_1 s m #[Value.ref b] below meth c H locs 140 1238 (lw_Z below #[Value.ref b] s) (F0 m 542 ls []) := by
  have hA : ∀ q : Nat, s.heap.size ≤ q → (fun q : Nat => s.heap.size ≤ q) q := fun _ h => h
  have hbA : ¬ (fun q : Nat => s.heap.size ≤ q) b := Nat.not_le.mpr hbl
  refine lv_aload_n hx hb dL_law_542 rfl (lv_at hl 2 rfl) ?_
  obtain ⟨rr, C2, S2, h6, h7, hR2⟩ := h_watch k C S  hk64 hR
  refine z_wgoP (wn := CW g q C2 ++ MW g r S) (va_runV (As := []) (rest := []) ⟨hx, hb, hml, hown, hts⟩ ((c6_watch l g q C  rr C2 h6) H.size) (cwV 0 hts gL_law_X6_watch rfl rfl rfl (by decide +kernel) ⟨Nat.le_of_ble_eq_true rfl, Nat.le_of_ble_eq_true rfl⟩) (z_wpreV (ci := 6) (q := (RX6, TX6, 13)) (q0 := 0) (zP_left hP) hK.1 (z_any (zD_left hD)) rfl rfl) rfl rfl hl.1 rfl (lv_room (Nat.le_of_ble_eq_true rfl)) dL_law_543 ⟨Nat.le_of_ble_eq_true rfl, Nat.le_of_ble_eq_true rfl⟩) hP hD hS hA (MW g r S) (List.Perm.refl _) rfl (List.Perm.refl _) (fun H locs hP hD hS => ?_)
  show W p l e room_1 s m #[Value.ref b] below meth c H locs 140 1238 (lw_Z below #[Value.ref b] s) (F0 m 546 ls [.int rr])
  refine lv_aload_n hx hb dL_law_546 rfl (lv_at hl 1 rfl) ?_
  refine z_wgoP (wn := CW g q C2 ++ MW g r S2) (va_runV (As := []) (rest := [.int rr]) ⟨hx, hb, hml, hown, hts⟩ ((c7_watch l g r S  rr S2 h7) H.size) (cwV 0 hts gL_law_X7_watch rfl rfl rfl (by decide +kernel) ⟨Nat.le_of_ble_eq_true rfl, Nat.le_of_ble_eq_true rfl⟩) (z_wpreV (ci := 7) (q := (RX7, TX7, 37)) (q0 := 0) (zP_right hP) hK.1 (z_any (zD_right hD)) rfl rfl) rfl rfl hl.1 rfl (lv_room (Nat.le_of_ble_eq_true rfl)) dL_law_547 ⟨Nat.le_of_ble_eq_true rfl, Nat.le_of_ble_eq_true rfl⟩) hP hD hS hA (CW g q C2) List.perm_append_comm rfl List.perm_append_comm (fun H locs hP hD hS => ?_)
  show W p l e room_1 s m #[Value.ref b] below meth c H locs 140 1238 (lw_Z below #[Value.ref b] s) (F0 m 550 ls [.int rr, .int rr])
  refine lv_icmp_eq (tgt := 974) hx hb dL_law_550 (by decide) (fun c1 => ?_) (fun c1 => absurd rfl c1)
  exact hN C2 S2 H locs ls hR2 hP hD hS hl
set_option maxHeartbeats 4000000 in
set_option maxRecDepth 100000 in
theorem lw_judge {p : Program} {l : Launch} {e : Env} {s : State} {m : MethodId} {below : List Frame} {meth : Method} {c : Code} {b L : Nat} {xs : Nat → Int32} {g : zG} {q r : Nat → Nat} {t : Nat} (hL : L ≤ 320) (hx : p.tables.exec = Jvm.exec) (hb : c.code = cL_law) (hml : c.maxLocals = 4) (hown : s.vm.findClass RL = some m.cls) (hts : ∀ w ∈ wsL_law, w.before #[Value.ref b] s = true) (hX : va_X b L xs s s.heap) (hbl : b < s.heap.size) (hK : zKc g s) (hZ : zFz t (fun q : Nat => s.heap.size ≤ q) s s.heap) (Rel : Nat → Cs → MS → Prop) (h_judge : ∀ (k : Nat) (C : Cs) (S : MS) (x1 : Int32) (x2 : Int32), k < 64 → Rel k C S → ∃ (r : Int32) (C2 : Cs) (S2 : MS), f6_judge C x1 x2 = some (r, C2) ∧ f7_judge S x1 x2 = some (r, S2) ∧ Rel (k + 1) C2 S2) (k : Nat) (hk : 5 * k + 5 ≤ L) (hk64 : k < 64) (hN : ∀ (C : Cs) (S : MS) (H : Heap) (locs : List Loc) (ls : Array Slot), Rel (k + 1) C S → va_P (zD g) vwCl (CW g q C ++ MW g r S) H → va_D (fun q : Nat => s.heap.size ≤ q) (CW g q C ++ MW g r S) → va_S (fun q : Nat => s.heap.size ≤ q) s.heap H locs → lv_has ls 4 [(3, .int (nI (5 * k))), (2, .ref (r 0)), (1, .ref (q 0)), (0, .ref b)] → W p l e room_1 s m #[Value.ref b] below meth c H locs 140 1238 (lw_Z below #[Value.ref b] s) (F0 m 974 ls [])) (C : Cs) (S : MS) (H : Heap) (locs : List Loc) (ls : Array Slot) (hR : Rel k C S) (hP : va_P (zD g) vwCl (CW g q C ++ MW g r S) H) (hD : va_D (fun q : Nat => s.heap.size ≤ q) (CW g q C ++ MW g r S)) (hS : va_S (fun q : Nat => s.heap.size ≤ q) s.heap H locs) (hl : lv_has ls 4 [(3, .int (nI (5 * k))), (2, .ref (r 0)), (1, .ref (q 0)), (0, .ref b)]) : W p l e room_1 s m #[Value.ref b] below meth c H locs 140 1238 (lw_Z below #[Value.ref b] s) (F0 m 555 ls []) := by
  have hA : ∀ q : Nat, s.heap.size ≤ q → (fun q : Nat => s.heap.size ≤ q) q := fun _ h => h
  have hbA : ¬ (fun q : Nat => s.heap.size ≤ q) b := Nat.not_le.mpr hbl
  refine lv_aload_n hx hb dL_law_555 rfl (lv_at hl 2 rfl) ?_
  refine lv_aload_n hx hb dL_law_556 rfl (lv_at hl 3 rfl) ?_
  refine lv_iload_n hx hb dL_law_557 rfl (lv_at hl 0 rfl) ?_
  refine lv_iconst (v := 1) hx hb dL_law_558 (by decide) ?_
  refine lv_iadd hx hb dL_law_559 ?_
  rw [show nI (5 * k) + 1 = nI (5 * k + 1) from nI_add (5 * k) 1]
  refine va_sld hx hb hX hbl hbA hS (vp_in_nI (n := 5 * k + 1) (N := L) (by omega) (by omega)) dL_law_560 ?_
  rw [nI_clamp (n := 5 * k + 1) (by omega)]
  refine lv_aload_n hx hb dL_law_561 rfl (lv_at hl 3 rfl) ?_
  refine lv_iload_n hx hb dL_law_562 rfl (lv_at hl 0 rfl) ?_
  refine lv_iconst (v := 2) hx hb dL_law_563 (by decide) ?_
  refine lv_iadd hx hb dL_law_564 ?_
  rw [show nI (5 * k) + 2 = nI (5 * k + 2) from nI_add (5 * k) 2]
  refine va_sld hx hb hX hbl hbA hS (vp_in_nI (n := 5 * k + 2) (N := L) (by omega) (by omega)) dL_law_565 ?_
  rw [nI_clamp (n := 5 * k + 2) (by omega)]
  obtain ⟨rr, C2, S2, h6, h7, hR2⟩ := h_judge k C S (xs (5 * k + 1)) (xs (5 * k + 2)) hk64 hR
  refine z_wgoP (wn := CW g q C2 ++ MW g r S) (va_runV (As := [.int (xs (5 * k + 1)), .int (xs (5 * k + 2))]) (rest := []) ⟨hx, hb, hml, hown, hts⟩ ((c6_judge l g q C (xs (5 * k + 1)) (xs (5 * k + 2)) rr C2 h6) H.size) (cwV 2 hts gL_law_X6_judge rfl rfl rfl (by decide +kernel) ⟨Nat.le_of_ble_eq_true rfl, Nat.le_of_ble_eq_true rfl⟩) (z_wpreV (ci := 6) (q := (RX6, TX6, 13)) (q0 := 0) (zP_left hP) hK.1 (z_any (zD_left hD)) rfl rfl) rfl rfl hl.1 rfl (lv_room (Nat.le_of_ble_eq_true rfl)) dL_law_566 ⟨Nat.le_of_ble_eq_true rfl, Nat.le_of_ble_eq_true rfl⟩) hP hD hS hA (MW g r S) (List.Perm.refl _) rfl (List.Perm.refl _) (fun H locs hP hD hS => ?_)
  show W p l e room_1 s m #[Value.ref b] below meth c H locs 140 1238 (lw_Z below #[Value.ref b] s) (F0 m 569 ls [.int rr])
  refine lv_aload_n hx hb dL_law_569 rfl (lv_at hl 1 rfl) ?_
  refine lv_aload_n hx hb dL_law_570 rfl (lv_at hl 3 rfl) ?_
  refine lv_iload_n hx hb dL_law_571 rfl (lv_at hl 0 rfl) ?_
  refine lv_iconst (v := 1) hx hb dL_law_572 (by decide) ?_
  refine lv_iadd hx hb dL_law_573 ?_
  rw [show nI (5 * k) + 1 = nI (5 * k + 1) from nI_add (5 * k) 1]
  refine va_sld hx hb hX hbl hbA hS (vp_in_nI (n := 5 * k + 1) (N := L) (by omega) (by omega)) dL_law_574 ?_
  rw [nI_clamp (n := 5 * k + 1) (by omega)]
  refine lv_aload_n hx hb dL_law_575 rfl (lv_at hl 3 rfl) ?_
  refine lv_iload_n hx hb dL_law_576 rfl (lv_at hl 0 rfl) ?_
  refine lv_iconst (v := 2) hx hb dL_law_577 (by decide) ?_
  refine lv_iadd hx hb dL_law_578 ?_
  rw [show nI (5 * k) + 2 = nI (5 * k + 2) from nI_add (5 * k) 2]
  refine va_sld hx hb hX hbl hbA hS (vp_in_nI (n := 5 * k + 2) (N := L) (by omega) (by omega)) dL_law_579 ?_
  rw [nI_clamp (n := 5 * k + 2) (by omega)]
  refine z_wgoP (wn := CW g q C2 ++ MW g r S2) (va_runV (As := [.int (xs (5 * k + 1)), .int (xs (5 * k + 2))]) (rest := [.int rr]) ⟨hx, hb, hml, hown, hts⟩ ((c7_judge l g r S (xs (5 * k + 1)) (xs (5 * k + 2)) rr S2 h7) H.size) (cwV 2 hts gL_law_X7_judge rfl rfl rfl (by decide +kernel) ⟨Nat.le_of_ble_eq_true rfl, Nat.le_of_ble_eq_true rfl⟩) (z_wpreV (ci := 7) (q := (RX7, TX7, 37)) (q0 := 0) (zP_right hP) hK.1 (z_any (zD_right hD)) rfl rfl) rfl rfl hl.1 rfl (lv_room (Nat.le_of_ble_eq_true rfl)) dL_law_580 ⟨Nat.le_of_ble_eq_true rfl, Nat.le_of_ble_eq_true rfl⟩) hP hD hS hA (CW g q C2) List.perm_append_comm rfl List.perm_append_comm (fun H locs hP hD hS => ?_)
  show W p l e room_1 s m #[Value.ref b] below meth c H locs 140 1238 (lw_Z below #[Value.ref b] s) (F0 m 583 ls [.int rr, .int rr])
  refine lv_icmp_eq (tgt := 974) hx hb dL_law_583 (by decide) (fun c1 => ?_) (fun c1 => absurd rfl c1)
  exact hN C2 S2 H locs ls hR2 hP hD hS hl
set_option maxHeartbeats 4000000 in
set_option maxRecDepth 100000 in
theorem lw_hear {p : Program} {l : Launch} {e : Env} {s : State} {m : MethodId} {below : List Frame} {meth : Method} {c : Code} {b L : Nat} {xs : Nat → Int32} {g : zG} {q r : Nat → Nat} {t : Nat} (hL : L ≤ 320) (hx : p.tables.exec = Jvm.exec) (hb : c.code = cL_law) (hml : c.maxLocals = 4) (hown : s.vm.findClass RL = some m.cls) (hts : ∀ w ∈ wsL_law, w.before #[Value.ref b] s = true) (hX : va_X b L xs s s.heap) (hbl : b < s.heap.size) (hK : zKc g s) (hZ : zFz t (fun q : Nat => s.heap.size ≤ q) s s.heap) (Rel : Nat → Cs → MS → Prop) (h_hear : ∀ (k : Nat) (C : Cs) (S : MS) (x1 : Int32) (x2 : Int32) (x3 : Int32), k < 64 → Rel k C S → ∃ (r : Int32) (C2 : Cs) (S2 : MS), f6_hear C x1 x2 x3 = some (r, C2) ∧ f7_hear S x1 x2 x3 = some (r, S2) ∧ Rel (k + 1) C2 S2) (k : Nat) (hk : 5 * k + 5 ≤ L) (hk64 : k < 64) (hN : ∀ (C : Cs) (S : MS) (H : Heap) (locs : List Loc) (ls : Array Slot), Rel (k + 1) C S → va_P (zD g) vwCl (CW g q C ++ MW g r S) H → va_D (fun q : Nat => s.heap.size ≤ q) (CW g q C ++ MW g r S) → va_S (fun q : Nat => s.heap.size ≤ q) s.heap H locs → lv_has ls 4 [(3, .int (nI (5 * k))), (2, .ref (r 0)), (1, .ref (q 0)), (0, .ref b)] → W p l e room_1 s m #[Value.ref b] below meth c H locs 140 1238 (lw_Z below #[Value.ref b] s) (F0 m 974 ls [])) (C : Cs) (S : MS) (H : Heap) (locs : List Loc) (ls : Array Slot) (hR : Rel k C S) (hP : va_P (zD g) vwCl (CW g q C ++ MW g r S) H) (hD : va_D (fun q : Nat => s.heap.size ≤ q) (CW g q C ++ MW g r S)) (hS : va_S (fun q : Nat => s.heap.size ≤ q) s.heap H locs) (hl : lv_has ls 4 [(3, .int (nI (5 * k))), (2, .ref (r 0)), (1, .ref (q 0)), (0, .ref b)]) : W p l e room_1 s m #[Value.ref b] below meth c H locs 140 1238 (lw_Z below #[Value.ref b] s) (F0 m 588 ls []) := by
  have hA : ∀ q : Nat, s.heap.size ≤ q → (fun q : Nat => s.heap.size ≤ q) q := fun _ h => h
  have hbA : ¬ (fun q : Nat => s.heap.size ≤ q) b := Nat.not_le.mpr hbl
  refine lv_aload_n hx hb dL_law_588 rfl (lv_at hl 2 rfl) ?_
  refine lv_aload_n hx hb dL_law_589 rfl (lv_at hl 3 rfl) ?_
  refine lv_iload_n hx hb dL_law_590 rfl (lv_at hl 0 rfl) ?_
  refine lv_iconst (v := 1) hx hb dL_law_591 (by decide) ?_
  refine lv_iadd hx hb dL_law_592 ?_
  rw [show nI (5 * k) + 1 = nI (5 * k + 1) from nI_add (5 * k) 1]
  refine va_sld hx hb hX hbl hbA hS (vp_in_nI (n := 5 * k + 1) (N := L) (by omega) (by omega)) dL_law_593 ?_
  rw [nI_clamp (n := 5 * k + 1) (by omega)]
  refine lv_aload_n hx hb dL_law_594 rfl (lv_at hl 3 rfl) ?_
  refine lv_iload_n hx hb dL_law_595 rfl (lv_at hl 0 rfl) ?_
  refine lv_iconst (v := 2) hx hb dL_law_596 (by decide) ?_
  refine lv_iadd hx hb dL_law_597 ?_
  rw [show nI (5 * k) + 2 = nI (5 * k + 2) from nI_add (5 * k) 2]
  refine va_sld hx hb hX hbl hbA hS (vp_in_nI (n := 5 * k + 2) (N := L) (by omega) (by omega)) dL_law_598 ?_
  rw [nI_clamp (n := 5 * k + 2) (by omega)]
  refine lv_aload_n hx hb dL_law_599 rfl (lv_at hl 3 rfl) ?_
  refine lv_iload_n hx hb dL_law_600 rfl (lv_at hl 0 rfl) ?_
  refine lv_iconst (v := 3) hx hb dL_law_601 (by decide) ?_
  refine lv_iadd hx hb dL_law_602 ?_
  rw [show nI (5 * k) + 3 = nI (5 * k + 3) from nI_add (5 * k) 3]
  refine va_sld hx hb hX hbl hbA hS (vp_in_nI (n := 5 * k + 3) (N := L) (by omega) (by omega)) dL_law_603 ?_
  rw [nI_clamp (n := 5 * k + 3) (by omega)]
  obtain ⟨rr, C2, S2, h6, h7, hR2⟩ := h_hear k C S (xs (5 * k + 1)) (xs (5 * k + 2)) (xs (5 * k + 3)) hk64 hR
  refine z_wgoP (wn := CW g q C2 ++ MW g r S) (va_runV (As := [.int (xs (5 * k + 1)), .int (xs (5 * k + 2)), .int (xs (5 * k + 3))]) (rest := []) ⟨hx, hb, hml, hown, hts⟩ ((c6_hear l g q C (xs (5 * k + 1)) (xs (5 * k + 2)) (xs (5 * k + 3)) rr C2 h6) H.size) (cwV 3 hts gL_law_X6_hear rfl rfl rfl (by decide +kernel) ⟨Nat.le_of_ble_eq_true rfl, Nat.le_of_ble_eq_true rfl⟩) (z_wpreV (ci := 6) (q := (RX6, TX6, 13)) (q0 := 0) (zP_left hP) hK.1 (z_any (zD_left hD)) rfl rfl) rfl rfl hl.1 rfl (lv_room (Nat.le_of_ble_eq_true rfl)) dL_law_604 ⟨Nat.le_of_ble_eq_true rfl, Nat.le_of_ble_eq_true rfl⟩) hP hD hS hA (MW g r S) (List.Perm.refl _) rfl (List.Perm.refl _) (fun H locs hP hD hS => ?_)
  show W p l e room_1 s m #[Value.ref b] below meth c H locs 140 1238 (lw_Z below #[Value.ref b] s) (F0 m 607 ls [.int rr])
  refine lv_aload_n hx hb dL_law_607 rfl (lv_at hl 1 rfl) ?_
  refine lv_aload_n hx hb dL_law_608 rfl (lv_at hl 3 rfl) ?_
  refine lv_iload_n hx hb dL_law_609 rfl (lv_at hl 0 rfl) ?_
  refine lv_iconst (v := 1) hx hb dL_law_610 (by decide) ?_
  refine lv_iadd hx hb dL_law_611 ?_
  rw [show nI (5 * k) + 1 = nI (5 * k + 1) from nI_add (5 * k) 1]
  refine va_sld hx hb hX hbl hbA hS (vp_in_nI (n := 5 * k + 1) (N := L) (by omega) (by omega)) dL_law_612 ?_
  rw [nI_clamp (n := 5 * k + 1) (by omega)]
  refine lv_aload_n hx hb dL_law_613 rfl (lv_at hl 3 rfl) ?_
  refine lv_iload_n hx hb dL_law_614 rfl (lv_at hl 0 rfl) ?_
  refine lv_iconst (v := 2) hx hb dL_law_615 (by decide) ?_
  refine lv_iadd hx hb dL_law_616 ?_
  rw [show nI (5 * k) + 2 = nI (5 * k + 2) from nI_add (5 * k) 2]
  refine va_sld hx hb hX hbl hbA hS (vp_in_nI (n := 5 * k + 2) (N := L) (by omega) (by omega)) dL_law_617 ?_
  rw [nI_clamp (n := 5 * k + 2) (by omega)]
  refine lv_aload_n hx hb dL_law_618 rfl (lv_at hl 3 rfl) ?_
  refine lv_iload_n hx hb dL_law_619 rfl (lv_at hl 0 rfl) ?_
  refine lv_iconst (v := 3) hx hb dL_law_620 (by decide) ?_
  refine lv_iadd hx hb dL_law_621 ?_
  rw [show nI (5 * k) + 3 = nI (5 * k + 3) from nI_add (5 * k) 3]
  refine va_sld hx hb hX hbl hbA hS (vp_in_nI (n := 5 * k + 3) (N := L) (by omega) (by omega)) dL_law_622 ?_
  rw [nI_clamp (n := 5 * k + 3) (by omega)]
  refine z_wgoP (wn := CW g q C2 ++ MW g r S2) (va_runV (As := [.int (xs (5 * k + 1)), .int (xs (5 * k + 2)), .int (xs (5 * k + 3))]) (rest := [.int rr]) ⟨hx, hb, hml, hown, hts⟩ ((c7_hear l g r S (xs (5 * k + 1)) (xs (5 * k + 2)) (xs (5 * k + 3)) rr S2 h7) H.size) (cwV 3 hts gL_law_X7_hear rfl rfl rfl (by decide +kernel) ⟨Nat.le_of_ble_eq_true rfl, Nat.le_of_ble_eq_true rfl⟩) (z_wpreV (ci := 7) (q := (RX7, TX7, 37)) (q0 := 0) (zP_right hP) hK.1 (z_any (zD_right hD)) rfl rfl) rfl rfl hl.1 rfl (lv_room (Nat.le_of_ble_eq_true rfl)) dL_law_623 ⟨Nat.le_of_ble_eq_true rfl, Nat.le_of_ble_eq_true rfl⟩) hP hD hS hA (CW g q C2) List.perm_append_comm rfl List.perm_append_comm (fun H locs hP hD hS => ?_)
  show W p l e room_1 s m #[Value.ref b] below meth c H locs 140 1238 (lw_Z below #[Value.ref b] s) (F0 m 626 ls [.int rr, .int rr])
  refine lv_icmp_eq (tgt := 974) hx hb dL_law_626 (by decide) (fun c1 => ?_) (fun c1 => absurd rfl c1)
  exact hN C2 S2 H locs ls hR2 hP hD hS hl
set_option maxHeartbeats 4000000 in
set_option maxRecDepth 100000 in
theorem lw_unhear {p : Program} {l : Launch} {e : Env} {s : State} {m : MethodId} {below : List Frame} {meth : Method} {c : Code} {b L : Nat} {xs : Nat → Int32} {g : zG} {q r : Nat → Nat} {t : Nat} (hL : L ≤ 320) (hx : p.tables.exec = Jvm.exec) (hb : c.code = cL_law) (hml : c.maxLocals = 4) (hown : s.vm.findClass RL = some m.cls) (hts : ∀ w ∈ wsL_law, w.before #[Value.ref b] s = true) (hX : va_X b L xs s s.heap) (hbl : b < s.heap.size) (hK : zKc g s) (hZ : zFz t (fun q : Nat => s.heap.size ≤ q) s s.heap) (Rel : Nat → Cs → MS → Prop) (h_unhear : ∀ (k : Nat) (C : Cs) (S : MS), k < 64 → Rel k C S → ∃ (r : Int32) (C2 : Cs) (S2 : MS), f6_unhear C = some (r, C2) ∧ f7_unhear S = some (r, S2) ∧ Rel (k + 1) C2 S2) (k : Nat) (hk : 5 * k + 5 ≤ L) (hk64 : k < 64) (hN : ∀ (C : Cs) (S : MS) (H : Heap) (locs : List Loc) (ls : Array Slot), Rel (k + 1) C S → va_P (zD g) vwCl (CW g q C ++ MW g r S) H → va_D (fun q : Nat => s.heap.size ≤ q) (CW g q C ++ MW g r S) → va_S (fun q : Nat => s.heap.size ≤ q) s.heap H locs → lv_has ls 4 [(3, .int (nI (5 * k))), (2, .ref (r 0)), (1, .ref (q 0)), (0, .ref b)] → W p l e room_1 s m #[Value.ref b] below meth c H locs 140 1238 (lw_Z below #[Value.ref b] s) (F0 m 974 ls [])) (C : Cs) (S : MS) (H : Heap) (locs : List Loc) (ls : Array Slot) (hR : Rel k C S) (hP : va_P (zD g) vwCl (CW g q C ++ MW g r S) H) (hD : va_D (fun q : Nat => s.heap.size ≤ q) (CW g q C ++ MW g r S)) (hS : va_S (fun q : Nat => s.heap.size ≤ q) s.heap H locs) (hl : lv_has ls 4 [(3, .int (nI (5 * k))), (2, .ref (r 0)), (1, .ref (q 0)), (0, .ref b)]) : W p l e room_1 s m #[Value.ref b] below meth c H locs 140 1238 (lw_Z below #[Value.ref b] s) (F0 m 631 ls []) := by
  have hA : ∀ q : Nat, s.heap.size ≤ q → (fun q : Nat => s.heap.size ≤ q) q := fun _ h => h
  have hbA : ¬ (fun q : Nat => s.heap.size ≤ q) b := Nat.not_le.mpr hbl
  refine lv_aload_n hx hb dL_law_631 rfl (lv_at hl 2 rfl) ?_
  obtain ⟨rr, C2, S2, h6, h7, hR2⟩ := h_unhear k C S  hk64 hR
  refine z_wgoP (wn := CW g q C2 ++ MW g r S) (va_runV (As := []) (rest := []) ⟨hx, hb, hml, hown, hts⟩ ((c6_unhear l g q C  rr C2 h6) H.size) (cwV 0 hts gL_law_X6_unhear rfl rfl rfl (by decide +kernel) ⟨Nat.le_of_ble_eq_true rfl, Nat.le_of_ble_eq_true rfl⟩) (z_wpreV (ci := 6) (q := (RX6, TX6, 13)) (q0 := 0) (zP_left hP) hK.1 (z_any (zD_left hD)) rfl rfl) rfl rfl hl.1 rfl (lv_room (Nat.le_of_ble_eq_true rfl)) dL_law_632 ⟨Nat.le_of_ble_eq_true rfl, Nat.le_of_ble_eq_true rfl⟩) hP hD hS hA (MW g r S) (List.Perm.refl _) rfl (List.Perm.refl _) (fun H locs hP hD hS => ?_)
  show W p l e room_1 s m #[Value.ref b] below meth c H locs 140 1238 (lw_Z below #[Value.ref b] s) (F0 m 635 ls [.int rr])
  refine lv_aload_n hx hb dL_law_635 rfl (lv_at hl 1 rfl) ?_
  refine z_wgoP (wn := CW g q C2 ++ MW g r S2) (va_runV (As := []) (rest := [.int rr]) ⟨hx, hb, hml, hown, hts⟩ ((c7_unhear l g r S  rr S2 h7) H.size) (cwV 0 hts gL_law_X7_unhear rfl rfl rfl (by decide +kernel) ⟨Nat.le_of_ble_eq_true rfl, Nat.le_of_ble_eq_true rfl⟩) (z_wpreV (ci := 7) (q := (RX7, TX7, 37)) (q0 := 0) (zP_right hP) hK.1 (z_any (zD_right hD)) rfl rfl) rfl rfl hl.1 rfl (lv_room (Nat.le_of_ble_eq_true rfl)) dL_law_636 ⟨Nat.le_of_ble_eq_true rfl, Nat.le_of_ble_eq_true rfl⟩) hP hD hS hA (CW g q C2) List.perm_append_comm rfl List.perm_append_comm (fun H locs hP hD hS => ?_)
  show W p l e room_1 s m #[Value.ref b] below meth c H locs 140 1238 (lw_Z below #[Value.ref b] s) (F0 m 639 ls [.int rr, .int rr])
  refine lv_icmp_eq (tgt := 974) hx hb dL_law_639 (by decide) (fun c1 => ?_) (fun c1 => absurd rfl c1)
  exact hN C2 S2 H locs ls hR2 hP hD hS hl
set_option maxHeartbeats 4000000 in
set_option maxRecDepth 100000 in
theorem lw_turning {p : Program} {l : Launch} {e : Env} {s : State} {m : MethodId} {below : List Frame} {meth : Method} {c : Code} {b L : Nat} {xs : Nat → Int32} {g : zG} {q r : Nat → Nat} {t : Nat} (hL : L ≤ 320) (hx : p.tables.exec = Jvm.exec) (hb : c.code = cL_law) (hml : c.maxLocals = 4) (hown : s.vm.findClass RL = some m.cls) (hts : ∀ w ∈ wsL_law, w.before #[Value.ref b] s = true) (hX : va_X b L xs s s.heap) (hbl : b < s.heap.size) (hK : zKc g s) (hZ : zFz t (fun q : Nat => s.heap.size ≤ q) s s.heap) (Rel : Nat → Cs → MS → Prop) (h_turning : ∀ (k : Nat) (C : Cs) (S : MS) (x1 : Int32), k < 64 → Rel k C S → ∃ (r : Int32) (C2 : Cs) (S2 : MS), f6_turning C x1 = some (r, C2) ∧ f7_turning S x1 = some (r, S2) ∧ Rel (k + 1) C2 S2) (k : Nat) (hk : 5 * k + 5 ≤ L) (hk64 : k < 64) (hN : ∀ (C : Cs) (S : MS) (H : Heap) (locs : List Loc) (ls : Array Slot), Rel (k + 1) C S → va_P (zD g) vwCl (CW g q C ++ MW g r S) H → va_D (fun q : Nat => s.heap.size ≤ q) (CW g q C ++ MW g r S) → va_S (fun q : Nat => s.heap.size ≤ q) s.heap H locs → lv_has ls 4 [(3, .int (nI (5 * k))), (2, .ref (r 0)), (1, .ref (q 0)), (0, .ref b)] → W p l e room_1 s m #[Value.ref b] below meth c H locs 140 1238 (lw_Z below #[Value.ref b] s) (F0 m 974 ls [])) (C : Cs) (S : MS) (H : Heap) (locs : List Loc) (ls : Array Slot) (hR : Rel k C S) (hP : va_P (zD g) vwCl (CW g q C ++ MW g r S) H) (hD : va_D (fun q : Nat => s.heap.size ≤ q) (CW g q C ++ MW g r S)) (hS : va_S (fun q : Nat => s.heap.size ≤ q) s.heap H locs) (hl : lv_has ls 4 [(3, .int (nI (5 * k))), (2, .ref (r 0)), (1, .ref (q 0)), (0, .ref b)]) : W p l e room_1 s m #[Value.ref b] below meth c H locs 140 1238 (lw_Z below #[Value.ref b] s) (F0 m 644 ls []) := by
  have hA : ∀ q : Nat, s.heap.size ≤ q → (fun q : Nat => s.heap.size ≤ q) q := fun _ h => h
  have hbA : ¬ (fun q : Nat => s.heap.size ≤ q) b := Nat.not_le.mpr hbl
  refine lv_aload_n hx hb dL_law_644 rfl (lv_at hl 2 rfl) ?_
  refine lv_aload_n hx hb dL_law_645 rfl (lv_at hl 3 rfl) ?_
  refine lv_iload_n hx hb dL_law_646 rfl (lv_at hl 0 rfl) ?_
  refine lv_iconst (v := 1) hx hb dL_law_647 (by decide) ?_
  refine lv_iadd hx hb dL_law_648 ?_
  rw [show nI (5 * k) + 1 = nI (5 * k + 1) from nI_add (5 * k) 1]
  refine va_sld hx hb hX hbl hbA hS (vp_in_nI (n := 5 * k + 1) (N := L) (by omega) (by omega)) dL_law_649 ?_
  rw [nI_clamp (n := 5 * k + 1) (by omega)]
  obtain ⟨rr, C2, S2, h6, h7, hR2⟩ := h_turning k C S (xs (5 * k + 1)) hk64 hR
  refine z_wgoP (wn := CW g q C2 ++ MW g r S) (va_runV (As := [.int (xs (5 * k + 1))]) (rest := []) ⟨hx, hb, hml, hown, hts⟩ ((c6_turning l g q C (xs (5 * k + 1)) rr C2 h6) H.size) (cwV 1 hts gL_law_X6_turning rfl rfl rfl (by decide +kernel) ⟨Nat.le_of_ble_eq_true rfl, Nat.le_of_ble_eq_true rfl⟩) (z_wpreV (ci := 6) (q := (RX6, TX6, 13)) (q0 := 0) (zP_left hP) hK.1 (z_any (zD_left hD)) rfl rfl) rfl rfl hl.1 rfl (lv_room (Nat.le_of_ble_eq_true rfl)) dL_law_650 ⟨Nat.le_of_ble_eq_true rfl, Nat.le_of_ble_eq_true rfl⟩) hP hD hS hA (MW g r S) (List.Perm.refl _) rfl (List.Perm.refl _) (fun H locs hP hD hS => ?_)
  show W p l e room_1 s m #[Value.ref b] below meth c H locs 140 1238 (lw_Z below #[Value.ref b] s) (F0 m 653 ls [.int rr])
  refine lv_aload_n hx hb dL_law_653 rfl (lv_at hl 1 rfl) ?_
  refine lv_aload_n hx hb dL_law_654 rfl (lv_at hl 3 rfl) ?_
  refine lv_iload_n hx hb dL_law_655 rfl (lv_at hl 0 rfl) ?_
  refine lv_iconst (v := 1) hx hb dL_law_656 (by decide) ?_
  refine lv_iadd hx hb dL_law_657 ?_
  rw [show nI (5 * k) + 1 = nI (5 * k + 1) from nI_add (5 * k) 1]
  refine va_sld hx hb hX hbl hbA hS (vp_in_nI (n := 5 * k + 1) (N := L) (by omega) (by omega)) dL_law_658 ?_
  rw [nI_clamp (n := 5 * k + 1) (by omega)]
  refine z_wgoP (wn := CW g q C2 ++ MW g r S2) (va_runV (As := [.int (xs (5 * k + 1))]) (rest := [.int rr]) ⟨hx, hb, hml, hown, hts⟩ ((c7_turning l g r S (xs (5 * k + 1)) rr S2 h7) H.size) (cwV 1 hts gL_law_X7_turning rfl rfl rfl (by decide +kernel) ⟨Nat.le_of_ble_eq_true rfl, Nat.le_of_ble_eq_true rfl⟩) (z_wpreV (ci := 7) (q := (RX7, TX7, 37)) (q0 := 0) (zP_right hP) hK.1 (z_any (zD_right hD)) rfl rfl) rfl rfl hl.1 rfl (lv_room (Nat.le_of_ble_eq_true rfl)) dL_law_659 ⟨Nat.le_of_ble_eq_true rfl, Nat.le_of_ble_eq_true rfl⟩) hP hD hS hA (CW g q C2) List.perm_append_comm rfl List.perm_append_comm (fun H locs hP hD hS => ?_)
  show W p l e room_1 s m #[Value.ref b] below meth c H locs 140 1238 (lw_Z below #[Value.ref b] s) (F0 m 662 ls [.int rr, .int rr])
  refine lv_icmp_eq (tgt := 974) hx hb dL_law_662 (by decide) (fun c1 => ?_) (fun c1 => absurd rfl c1)
  exact hN C2 S2 H locs ls hR2 hP hD hS hl
set_option maxHeartbeats 4000000 in
set_option maxRecDepth 100000 in
theorem lw_share {p : Program} {l : Launch} {e : Env} {s : State} {m : MethodId} {below : List Frame} {meth : Method} {c : Code} {b L : Nat} {xs : Nat → Int32} {g : zG} {q r : Nat → Nat} {t : Nat} (hL : L ≤ 320) (hx : p.tables.exec = Jvm.exec) (hb : c.code = cL_law) (hml : c.maxLocals = 4) (hown : s.vm.findClass RL = some m.cls) (hts : ∀ w ∈ wsL_law, w.before #[Value.ref b] s = true) (hX : va_X b L xs s s.heap) (hbl : b < s.heap.size) (hK : zKc g s) (hZ : zFz t (fun q : Nat => s.heap.size ≤ q) s s.heap) (Rel : Nat → Cs → MS → Prop) (h_share : ∀ (k : Nat) (C : Cs) (S : MS) (x1 : Int32) (x2 : Int32), k < 64 → Rel k C S → ∃ (r : Int32) (C2 : Cs) (S2 : MS), f6_share C x1 x2 = some (r, C2) ∧ f7_share S x1 x2 = some (r, S2) ∧ Rel (k + 1) C2 S2) (k : Nat) (hk : 5 * k + 5 ≤ L) (hk64 : k < 64) (hN : ∀ (C : Cs) (S : MS) (H : Heap) (locs : List Loc) (ls : Array Slot), Rel (k + 1) C S → va_P (zD g) vwCl (CW g q C ++ MW g r S) H → va_D (fun q : Nat => s.heap.size ≤ q) (CW g q C ++ MW g r S) → va_S (fun q : Nat => s.heap.size ≤ q) s.heap H locs → lv_has ls 4 [(3, .int (nI (5 * k))), (2, .ref (r 0)), (1, .ref (q 0)), (0, .ref b)] → W p l e room_1 s m #[Value.ref b] below meth c H locs 140 1238 (lw_Z below #[Value.ref b] s) (F0 m 974 ls [])) (C : Cs) (S : MS) (H : Heap) (locs : List Loc) (ls : Array Slot) (hR : Rel k C S) (hP : va_P (zD g) vwCl (CW g q C ++ MW g r S) H) (hD : va_D (fun q : Nat => s.heap.size ≤ q) (CW g q C ++ MW g r S)) (hS : va_S (fun q : Nat => s.heap.size ≤ q) s.heap H locs) (hl : lv_has ls 4 [(3, .int (nI (5 * k))), (2, .ref (r 0)), (1, .ref (q 0)), (0, .ref b)]) : W p l e room_1 s m #[Value.ref b] below meth c H locs 140 1238 (lw_Z below #[Value.ref b] s) (F0 m 667 ls []) := by
  have hA : ∀ q : Nat, s.heap.size ≤ q → (fun q : Nat => s.heap.size ≤ q) q := fun _ h => h
  have hbA : ¬ (fun q : Nat => s.heap.size ≤ q) b := Nat.not_le.mpr hbl
  by_cases hz : xs (5 * k + 2) = 0
  · refine lv_aload_n hx hb dL_law_667 rfl (lv_at hl 2 rfl) ?_
    refine lv_aload_n hx hb dL_law_668 rfl (lv_at hl 3 rfl) ?_
    refine lv_iload_n hx hb dL_law_669 rfl (lv_at hl 0 rfl) ?_
    refine lv_iconst (v := 1) hx hb dL_law_670 (by decide) ?_
    refine lv_iadd hx hb dL_law_671 ?_
    rw [show nI (5 * k) + 1 = nI (5 * k + 1) from nI_add (5 * k) 1]
    refine va_sld hx hb hX hbl hbA hS (vp_in_nI (n := 5 * k + 1) (N := L) (by omega) (by omega)) dL_law_672 ?_
    rw [nI_clamp (n := 5 * k + 1) (by omega)]
    refine lv_aload_n hx hb dL_law_673 rfl (lv_at hl 3 rfl) ?_
    refine lv_iload_n hx hb dL_law_674 rfl (lv_at hl 0 rfl) ?_
    refine lv_iconst (v := 2) hx hb dL_law_675 (by decide) ?_
    refine lv_iadd hx hb dL_law_676 ?_
    rw [show nI (5 * k) + 2 = nI (5 * k + 2) from nI_add (5 * k) 2]
    refine va_sld hx hb hX hbl hbA hS (vp_in_nI (n := 5 * k + 2) (N := L) (by omega) (by omega)) dL_law_677 ?_
    rw [nI_clamp (n := 5 * k + 2) (by omega)]
    refine lv_if_eq (tgt := 685) hx hb dL_law_678 (by decide) (fun c1 => ?_) (fun c1 => absurd hz c1)
    refine lv_iconst (v := 0) hx hb dL_law_685 (by decide) ?_
    obtain ⟨rr, C2, S2, h6, h7, hR2⟩ := h_share k C S (xs (5 * k + 1)) 0 hk64 hR
    refine z_wgoP (wn := CW g q C2 ++ MW g r S) (va_runV (As := [.int (xs (5 * k + 1)), .int 0]) (rest := []) ⟨hx, hb, hml, hown, hts⟩ ((c6_share l g t q C (xs (5 * k + 1)) 0 rr C2 h6) H.size) (cwV 2 hts gL_law_X6_share rfl rfl rfl (by decide +kernel) ⟨Nat.le_of_ble_eq_true rfl, Nat.le_of_ble_eq_true rfl⟩) (z_wpreVF (ci := 6) (q := (RX6, TX6, 13)) (q0 := 0) (zP_left hP) hK.1 (z_any (zD_left hD)) (hZ.at hS) (zA_left hD hS) rfl rfl) rfl rfl hl.1 rfl (lv_room (Nat.le_of_ble_eq_true rfl)) dL_law_686 ⟨Nat.le_of_ble_eq_true rfl, Nat.le_of_ble_eq_true rfl⟩) hP hD hS hA (MW g r S) (List.Perm.refl _) rfl (List.Perm.refl _) (fun H locs hP hD hS => ?_)
    show W p l e room_1 s m #[Value.ref b] below meth c H locs 140 1238 (lw_Z below #[Value.ref b] s) (F0 m 689 ls [.int rr])
    refine lv_aload_n hx hb dL_law_689 rfl (lv_at hl 1 rfl) ?_
    refine lv_aload_n hx hb dL_law_690 rfl (lv_at hl 3 rfl) ?_
    refine lv_iload_n hx hb dL_law_691 rfl (lv_at hl 0 rfl) ?_
    refine lv_iconst (v := 1) hx hb dL_law_692 (by decide) ?_
    refine lv_iadd hx hb dL_law_693 ?_
    rw [show nI (5 * k) + 1 = nI (5 * k + 1) from nI_add (5 * k) 1]
    refine va_sld hx hb hX hbl hbA hS (vp_in_nI (n := 5 * k + 1) (N := L) (by omega) (by omega)) dL_law_694 ?_
    rw [nI_clamp (n := 5 * k + 1) (by omega)]
    refine lv_aload_n hx hb dL_law_695 rfl (lv_at hl 3 rfl) ?_
    refine lv_iload_n hx hb dL_law_696 rfl (lv_at hl 0 rfl) ?_
    refine lv_iconst (v := 2) hx hb dL_law_697 (by decide) ?_
    refine lv_iadd hx hb dL_law_698 ?_
    rw [show nI (5 * k) + 2 = nI (5 * k + 2) from nI_add (5 * k) 2]
    refine va_sld hx hb hX hbl hbA hS (vp_in_nI (n := 5 * k + 2) (N := L) (by omega) (by omega)) dL_law_699 ?_
    rw [nI_clamp (n := 5 * k + 2) (by omega)]
    refine lv_if_eq (tgt := 707) hx hb dL_law_700 (by decide) (fun c1 => ?_) (fun c1 => absurd hz c1)
    refine lv_iconst (v := 0) hx hb dL_law_707 (by decide) ?_
    refine z_wgoP (wn := CW g q C2 ++ MW g r S2) (va_runV (As := [.int (xs (5 * k + 1)), .int 0]) (rest := [.int rr]) ⟨hx, hb, hml, hown, hts⟩ ((c7_share l g r S (xs (5 * k + 1)) 0 rr S2 h7) H.size) (cwV 2 hts gL_law_X7_share rfl rfl rfl (by decide +kernel) ⟨Nat.le_of_ble_eq_true rfl, Nat.le_of_ble_eq_true rfl⟩) (z_wpreV (ci := 7) (q := (RX7, TX7, 37)) (q0 := 0) (zP_right hP) hK.1 (z_any (zD_right hD)) rfl rfl) rfl rfl hl.1 rfl (lv_room (Nat.le_of_ble_eq_true rfl)) dL_law_708 ⟨Nat.le_of_ble_eq_true rfl, Nat.le_of_ble_eq_true rfl⟩) hP hD hS hA (CW g q C2) List.perm_append_comm rfl List.perm_append_comm (fun H locs hP hD hS => ?_)
    show W p l e room_1 s m #[Value.ref b] below meth c H locs 140 1238 (lw_Z below #[Value.ref b] s) (F0 m 711 ls [.int rr, .int rr])
    refine lv_icmp_eq (tgt := 974) hx hb dL_law_711 (by decide) (fun c1 => ?_) (fun c1 => absurd rfl c1)
    exact hN C2 S2 H locs ls hR2 hP hD hS hl
  · refine lv_aload_n hx hb dL_law_667 rfl (lv_at hl 2 rfl) ?_
    refine lv_aload_n hx hb dL_law_668 rfl (lv_at hl 3 rfl) ?_
    refine lv_iload_n hx hb dL_law_669 rfl (lv_at hl 0 rfl) ?_
    refine lv_iconst (v := 1) hx hb dL_law_670 (by decide) ?_
    refine lv_iadd hx hb dL_law_671 ?_
    rw [show nI (5 * k) + 1 = nI (5 * k + 1) from nI_add (5 * k) 1]
    refine va_sld hx hb hX hbl hbA hS (vp_in_nI (n := 5 * k + 1) (N := L) (by omega) (by omega)) dL_law_672 ?_
    rw [nI_clamp (n := 5 * k + 1) (by omega)]
    refine lv_aload_n hx hb dL_law_673 rfl (lv_at hl 3 rfl) ?_
    refine lv_iload_n hx hb dL_law_674 rfl (lv_at hl 0 rfl) ?_
    refine lv_iconst (v := 2) hx hb dL_law_675 (by decide) ?_
    refine lv_iadd hx hb dL_law_676 ?_
    rw [show nI (5 * k) + 2 = nI (5 * k + 2) from nI_add (5 * k) 2]
    refine va_sld hx hb hX hbl hbA hS (vp_in_nI (n := 5 * k + 2) (N := L) (by omega) (by omega)) dL_law_677 ?_
    rw [nI_clamp (n := 5 * k + 2) (by omega)]
    refine lv_if_eq (tgt := 685) hx hb dL_law_678 (by decide) (fun c1 => absurd c1 hz) (fun c1 => ?_)
    refine lv_iconst (v := 1) hx hb dL_law_681 (by decide) ?_
    refine lv_goto (tgt := 686) hx hb dL_law_682 (by decide) ?_
    obtain ⟨rr, C2, S2, h6, h7, hR2⟩ := h_share k C S (xs (5 * k + 1)) 1 hk64 hR
    refine z_wgoP (wn := CW g q C2 ++ MW g r S) (va_runV (As := [.int (xs (5 * k + 1)), .int 1]) (rest := []) ⟨hx, hb, hml, hown, hts⟩ ((c6_share l g t q C (xs (5 * k + 1)) 1 rr C2 h6) H.size) (cwV 2 hts gL_law_X6_share rfl rfl rfl (by decide +kernel) ⟨Nat.le_of_ble_eq_true rfl, Nat.le_of_ble_eq_true rfl⟩) (z_wpreVF (ci := 6) (q := (RX6, TX6, 13)) (q0 := 0) (zP_left hP) hK.1 (z_any (zD_left hD)) (hZ.at hS) (zA_left hD hS) rfl rfl) rfl rfl hl.1 rfl (lv_room (Nat.le_of_ble_eq_true rfl)) dL_law_686 ⟨Nat.le_of_ble_eq_true rfl, Nat.le_of_ble_eq_true rfl⟩) hP hD hS hA (MW g r S) (List.Perm.refl _) rfl (List.Perm.refl _) (fun H locs hP hD hS => ?_)
    show W p l e room_1 s m #[Value.ref b] below meth c H locs 140 1238 (lw_Z below #[Value.ref b] s) (F0 m 689 ls [.int rr])
    refine lv_aload_n hx hb dL_law_689 rfl (lv_at hl 1 rfl) ?_
    refine lv_aload_n hx hb dL_law_690 rfl (lv_at hl 3 rfl) ?_
    refine lv_iload_n hx hb dL_law_691 rfl (lv_at hl 0 rfl) ?_
    refine lv_iconst (v := 1) hx hb dL_law_692 (by decide) ?_
    refine lv_iadd hx hb dL_law_693 ?_
    rw [show nI (5 * k) + 1 = nI (5 * k + 1) from nI_add (5 * k) 1]
    refine va_sld hx hb hX hbl hbA hS (vp_in_nI (n := 5 * k + 1) (N := L) (by omega) (by omega)) dL_law_694 ?_
    rw [nI_clamp (n := 5 * k + 1) (by omega)]
    refine lv_aload_n hx hb dL_law_695 rfl (lv_at hl 3 rfl) ?_
    refine lv_iload_n hx hb dL_law_696 rfl (lv_at hl 0 rfl) ?_
    refine lv_iconst (v := 2) hx hb dL_law_697 (by decide) ?_
    refine lv_iadd hx hb dL_law_698 ?_
    rw [show nI (5 * k) + 2 = nI (5 * k + 2) from nI_add (5 * k) 2]
    refine va_sld hx hb hX hbl hbA hS (vp_in_nI (n := 5 * k + 2) (N := L) (by omega) (by omega)) dL_law_699 ?_
    rw [nI_clamp (n := 5 * k + 2) (by omega)]
    refine lv_if_eq (tgt := 707) hx hb dL_law_700 (by decide) (fun c1 => absurd c1 hz) (fun c1 => ?_)
    refine lv_iconst (v := 1) hx hb dL_law_703 (by decide) ?_
    refine lv_goto (tgt := 708) hx hb dL_law_704 (by decide) ?_
    refine z_wgoP (wn := CW g q C2 ++ MW g r S2) (va_runV (As := [.int (xs (5 * k + 1)), .int 1]) (rest := [.int rr]) ⟨hx, hb, hml, hown, hts⟩ ((c7_share l g r S (xs (5 * k + 1)) 1 rr S2 h7) H.size) (cwV 2 hts gL_law_X7_share rfl rfl rfl (by decide +kernel) ⟨Nat.le_of_ble_eq_true rfl, Nat.le_of_ble_eq_true rfl⟩) (z_wpreV (ci := 7) (q := (RX7, TX7, 37)) (q0 := 0) (zP_right hP) hK.1 (z_any (zD_right hD)) rfl rfl) rfl rfl hl.1 rfl (lv_room (Nat.le_of_ble_eq_true rfl)) dL_law_708 ⟨Nat.le_of_ble_eq_true rfl, Nat.le_of_ble_eq_true rfl⟩) hP hD hS hA (CW g q C2) List.perm_append_comm rfl List.perm_append_comm (fun H locs hP hD hS => ?_)
    show W p l e room_1 s m #[Value.ref b] below meth c H locs 140 1238 (lw_Z below #[Value.ref b] s) (F0 m 711 ls [.int rr, .int rr])
    refine lv_icmp_eq (tgt := 974) hx hb dL_law_711 (by decide) (fun c1 => ?_) (fun c1 => absurd rfl c1)
    exact hN C2 S2 H locs ls hR2 hP hD hS hl
set_option maxHeartbeats 4000000 in
set_option maxRecDepth 100000 in
theorem lw_rests {p : Program} {l : Launch} {e : Env} {s : State} {m : MethodId} {below : List Frame} {meth : Method} {c : Code} {b L : Nat} {xs : Nat → Int32} {g : zG} {q r : Nat → Nat} {t : Nat} (hL : L ≤ 320) (hx : p.tables.exec = Jvm.exec) (hb : c.code = cL_law) (hml : c.maxLocals = 4) (hown : s.vm.findClass RL = some m.cls) (hts : ∀ w ∈ wsL_law, w.before #[Value.ref b] s = true) (hX : va_X b L xs s s.heap) (hbl : b < s.heap.size) (hK : zKc g s) (hZ : zFz t (fun q : Nat => s.heap.size ≤ q) s s.heap) (Rel : Nat → Cs → MS → Prop) (h_rests : ∀ (k : Nat) (C : Cs) (S : MS) (x1 : Int32) (x2 : Int32) (x3 : Int32), k < 64 → Rel k C S → ∃ (r : Int32) (C2 : Cs) (S2 : MS), f6_rests C x1 x2 x3 = some (r, C2) ∧ f7_rests S x1 x2 x3 = some (r, S2) ∧ Rel (k + 1) C2 S2) (k : Nat) (hk : 5 * k + 5 ≤ L) (hk64 : k < 64) (hN : ∀ (C : Cs) (S : MS) (H : Heap) (locs : List Loc) (ls : Array Slot), Rel (k + 1) C S → va_P (zD g) vwCl (CW g q C ++ MW g r S) H → va_D (fun q : Nat => s.heap.size ≤ q) (CW g q C ++ MW g r S) → va_S (fun q : Nat => s.heap.size ≤ q) s.heap H locs → lv_has ls 4 [(3, .int (nI (5 * k))), (2, .ref (r 0)), (1, .ref (q 0)), (0, .ref b)] → W p l e room_1 s m #[Value.ref b] below meth c H locs 140 1238 (lw_Z below #[Value.ref b] s) (F0 m 974 ls [])) (C : Cs) (S : MS) (H : Heap) (locs : List Loc) (ls : Array Slot) (hR : Rel k C S) (hP : va_P (zD g) vwCl (CW g q C ++ MW g r S) H) (hD : va_D (fun q : Nat => s.heap.size ≤ q) (CW g q C ++ MW g r S)) (hS : va_S (fun q : Nat => s.heap.size ≤ q) s.heap H locs) (hl : lv_has ls 4 [(3, .int (nI (5 * k))), (2, .ref (r 0)), (1, .ref (q 0)), (0, .ref b)]) : W p l e room_1 s m #[Value.ref b] below meth c H locs 140 1238 (lw_Z below #[Value.ref b] s) (F0 m 716 ls []) := by
  have hA : ∀ q : Nat, s.heap.size ≤ q → (fun q : Nat => s.heap.size ≤ q) q := fun _ h => h
  have hbA : ¬ (fun q : Nat => s.heap.size ≤ q) b := Nat.not_le.mpr hbl
  refine lv_aload_n hx hb dL_law_716 rfl (lv_at hl 2 rfl) ?_
  refine lv_aload_n hx hb dL_law_717 rfl (lv_at hl 3 rfl) ?_
  refine lv_iload_n hx hb dL_law_718 rfl (lv_at hl 0 rfl) ?_
  refine lv_iconst (v := 1) hx hb dL_law_719 (by decide) ?_
  refine lv_iadd hx hb dL_law_720 ?_
  rw [show nI (5 * k) + 1 = nI (5 * k + 1) from nI_add (5 * k) 1]
  refine va_sld hx hb hX hbl hbA hS (vp_in_nI (n := 5 * k + 1) (N := L) (by omega) (by omega)) dL_law_721 ?_
  rw [nI_clamp (n := 5 * k + 1) (by omega)]
  refine lv_aload_n hx hb dL_law_722 rfl (lv_at hl 3 rfl) ?_
  refine lv_iload_n hx hb dL_law_723 rfl (lv_at hl 0 rfl) ?_
  refine lv_iconst (v := 2) hx hb dL_law_724 (by decide) ?_
  refine lv_iadd hx hb dL_law_725 ?_
  rw [show nI (5 * k) + 2 = nI (5 * k + 2) from nI_add (5 * k) 2]
  refine va_sld hx hb hX hbl hbA hS (vp_in_nI (n := 5 * k + 2) (N := L) (by omega) (by omega)) dL_law_726 ?_
  rw [nI_clamp (n := 5 * k + 2) (by omega)]
  refine lv_aload_n hx hb dL_law_727 rfl (lv_at hl 3 rfl) ?_
  refine lv_iload_n hx hb dL_law_728 rfl (lv_at hl 0 rfl) ?_
  refine lv_iconst (v := 3) hx hb dL_law_729 (by decide) ?_
  refine lv_iadd hx hb dL_law_730 ?_
  rw [show nI (5 * k) + 3 = nI (5 * k + 3) from nI_add (5 * k) 3]
  refine va_sld hx hb hX hbl hbA hS (vp_in_nI (n := 5 * k + 3) (N := L) (by omega) (by omega)) dL_law_731 ?_
  rw [nI_clamp (n := 5 * k + 3) (by omega)]
  obtain ⟨rr, C2, S2, h6, h7, hR2⟩ := h_rests k C S (xs (5 * k + 1)) (xs (5 * k + 2)) (xs (5 * k + 3)) hk64 hR
  refine z_wgoP (wn := CW g q C2 ++ MW g r S) (va_runV (As := [.int (xs (5 * k + 1)), .int (xs (5 * k + 2)), .int (xs (5 * k + 3))]) (rest := []) ⟨hx, hb, hml, hown, hts⟩ ((c6_rests l g q C (xs (5 * k + 1)) (xs (5 * k + 2)) (xs (5 * k + 3)) rr C2 h6) H.size) (cwV 3 hts gL_law_X6_rests rfl rfl rfl (by decide +kernel) ⟨Nat.le_of_ble_eq_true rfl, Nat.le_of_ble_eq_true rfl⟩) (z_wpreV (ci := 6) (q := (RX6, TX6, 13)) (q0 := 0) (zP_left hP) hK.1 (z_any (zD_left hD)) rfl rfl) rfl rfl hl.1 rfl (lv_room (Nat.le_of_ble_eq_true rfl)) dL_law_732 ⟨Nat.le_of_ble_eq_true rfl, Nat.le_of_ble_eq_true rfl⟩) hP hD hS hA (MW g r S) (List.Perm.refl _) rfl (List.Perm.refl _) (fun H locs hP hD hS => ?_)
  show W p l e room_1 s m #[Value.ref b] below meth c H locs 140 1238 (lw_Z below #[Value.ref b] s) (F0 m 735 ls [.int rr])
  refine lv_aload_n hx hb dL_law_735 rfl (lv_at hl 1 rfl) ?_
  refine lv_aload_n hx hb dL_law_736 rfl (lv_at hl 3 rfl) ?_
  refine lv_iload_n hx hb dL_law_737 rfl (lv_at hl 0 rfl) ?_
  refine lv_iconst (v := 1) hx hb dL_law_738 (by decide) ?_
  refine lv_iadd hx hb dL_law_739 ?_
  rw [show nI (5 * k) + 1 = nI (5 * k + 1) from nI_add (5 * k) 1]
  refine va_sld hx hb hX hbl hbA hS (vp_in_nI (n := 5 * k + 1) (N := L) (by omega) (by omega)) dL_law_740 ?_
  rw [nI_clamp (n := 5 * k + 1) (by omega)]
  refine lv_aload_n hx hb dL_law_741 rfl (lv_at hl 3 rfl) ?_
  refine lv_iload_n hx hb dL_law_742 rfl (lv_at hl 0 rfl) ?_
  refine lv_iconst (v := 2) hx hb dL_law_743 (by decide) ?_
  refine lv_iadd hx hb dL_law_744 ?_
  rw [show nI (5 * k) + 2 = nI (5 * k + 2) from nI_add (5 * k) 2]
  refine va_sld hx hb hX hbl hbA hS (vp_in_nI (n := 5 * k + 2) (N := L) (by omega) (by omega)) dL_law_745 ?_
  rw [nI_clamp (n := 5 * k + 2) (by omega)]
  refine lv_aload_n hx hb dL_law_746 rfl (lv_at hl 3 rfl) ?_
  refine lv_iload_n hx hb dL_law_747 rfl (lv_at hl 0 rfl) ?_
  refine lv_iconst (v := 3) hx hb dL_law_748 (by decide) ?_
  refine lv_iadd hx hb dL_law_749 ?_
  rw [show nI (5 * k) + 3 = nI (5 * k + 3) from nI_add (5 * k) 3]
  refine va_sld hx hb hX hbl hbA hS (vp_in_nI (n := 5 * k + 3) (N := L) (by omega) (by omega)) dL_law_750 ?_
  rw [nI_clamp (n := 5 * k + 3) (by omega)]
  refine z_wgoP (wn := CW g q C2 ++ MW g r S2) (va_runV (As := [.int (xs (5 * k + 1)), .int (xs (5 * k + 2)), .int (xs (5 * k + 3))]) (rest := [.int rr]) ⟨hx, hb, hml, hown, hts⟩ ((c7_rests l g r S (xs (5 * k + 1)) (xs (5 * k + 2)) (xs (5 * k + 3)) rr S2 h7) H.size) (cwV 3 hts gL_law_X7_rests rfl rfl rfl (by decide +kernel) ⟨Nat.le_of_ble_eq_true rfl, Nat.le_of_ble_eq_true rfl⟩) (z_wpreV (ci := 7) (q := (RX7, TX7, 37)) (q0 := 0) (zP_right hP) hK.1 (z_any (zD_right hD)) rfl rfl) rfl rfl hl.1 rfl (lv_room (Nat.le_of_ble_eq_true rfl)) dL_law_751 ⟨Nat.le_of_ble_eq_true rfl, Nat.le_of_ble_eq_true rfl⟩) hP hD hS hA (CW g q C2) List.perm_append_comm rfl List.perm_append_comm (fun H locs hP hD hS => ?_)
  show W p l e room_1 s m #[Value.ref b] below meth c H locs 140 1238 (lw_Z below #[Value.ref b] s) (F0 m 754 ls [.int rr, .int rr])
  refine lv_icmp_eq (tgt := 974) hx hb dL_law_754 (by decide) (fun c1 => ?_) (fun c1 => absurd rfl c1)
  exact hN C2 S2 H locs ls hR2 hP hD hS hl
set_option maxHeartbeats 4000000 in
set_option maxRecDepth 100000 in
theorem lw_flood {p : Program} {l : Launch} {e : Env} {s : State} {m : MethodId} {below : List Frame} {meth : Method} {c : Code} {b L : Nat} {xs : Nat → Int32} {g : zG} {q r : Nat → Nat} {t : Nat} (hL : L ≤ 320) (hx : p.tables.exec = Jvm.exec) (hb : c.code = cL_law) (hml : c.maxLocals = 4) (hown : s.vm.findClass RL = some m.cls) (hts : ∀ w ∈ wsL_law, w.before #[Value.ref b] s = true) (hX : va_X b L xs s s.heap) (hbl : b < s.heap.size) (hK : zKc g s) (hZ : zFz t (fun q : Nat => s.heap.size ≤ q) s s.heap) (Rel : Nat → Cs → MS → Prop) (h_flood : ∀ (k : Nat) (C : Cs) (S : MS) (x1 : Int32) (x2 : Int32) (x3 : Int32) (x4 : Int32), k < 64 → Rel k C S → ∃ (r : Int32) (C2 : Cs) (S2 : MS), f6_flood C x1 x2 x3 x4 = some (r, C2) ∧ f7_flood S x1 x2 x3 x4 = some (r, S2) ∧ Rel (k + 1) C2 S2) (k : Nat) (hk : 5 * k + 5 ≤ L) (hk64 : k < 64) (hN : ∀ (C : Cs) (S : MS) (H : Heap) (locs : List Loc) (ls : Array Slot), Rel (k + 1) C S → va_P (zD g) vwCl (CW g q C ++ MW g r S) H → va_D (fun q : Nat => s.heap.size ≤ q) (CW g q C ++ MW g r S) → va_S (fun q : Nat => s.heap.size ≤ q) s.heap H locs → lv_has ls 4 [(3, .int (nI (5 * k))), (2, .ref (r 0)), (1, .ref (q 0)), (0, .ref b)] → W p l e room_1 s m #[Value.ref b] below meth c H locs 140 1238 (lw_Z below #[Value.ref b] s) (F0 m 974 ls [])) (C : Cs) (S : MS) (H : Heap) (locs : List Loc) (ls : Array Slot) (hR : Rel k C S) (hP : va_P (zD g) vwCl (CW g q C ++ MW g r S) H) (hD : va_D (fun q : Nat => s.heap.size ≤ q) (CW g q C ++ MW g r S)) (hS : va_S (fun q : Nat => s.heap.size ≤ q) s.heap H locs) (hl : lv_has ls 4 [(3, .int (nI (5 * k))), (2, .ref (r 0)), (1, .ref (q 0)), (0, .ref b)]) : W p l e room_1 s m #[Value.ref b] below meth c H locs 140 1238 (lw_Z below #[Value.ref b] s) (F0 m 759 ls []) := by
  have hA : ∀ q : Nat, s.heap.size ≤ q → (fun q : Nat => s.heap.size ≤ q) q := fun _ h => h
  have hbA : ¬ (fun q : Nat => s.heap.size ≤ q) b := Nat.not_le.mpr hbl
  by_cases hz : xs (5 * k + 4) = 0
  · refine lv_aload_n hx hb dL_law_759 rfl (lv_at hl 2 rfl) ?_
    refine lv_aload_n hx hb dL_law_760 rfl (lv_at hl 3 rfl) ?_
    refine lv_iload_n hx hb dL_law_761 rfl (lv_at hl 0 rfl) ?_
    refine lv_iconst (v := 1) hx hb dL_law_762 (by decide) ?_
    refine lv_iadd hx hb dL_law_763 ?_
    rw [show nI (5 * k) + 1 = nI (5 * k + 1) from nI_add (5 * k) 1]
    refine va_sld hx hb hX hbl hbA hS (vp_in_nI (n := 5 * k + 1) (N := L) (by omega) (by omega)) dL_law_764 ?_
    rw [nI_clamp (n := 5 * k + 1) (by omega)]
    refine lv_aload_n hx hb dL_law_765 rfl (lv_at hl 3 rfl) ?_
    refine lv_iload_n hx hb dL_law_766 rfl (lv_at hl 0 rfl) ?_
    refine lv_iconst (v := 2) hx hb dL_law_767 (by decide) ?_
    refine lv_iadd hx hb dL_law_768 ?_
    rw [show nI (5 * k) + 2 = nI (5 * k + 2) from nI_add (5 * k) 2]
    refine va_sld hx hb hX hbl hbA hS (vp_in_nI (n := 5 * k + 2) (N := L) (by omega) (by omega)) dL_law_769 ?_
    rw [nI_clamp (n := 5 * k + 2) (by omega)]
    refine lv_aload_n hx hb dL_law_770 rfl (lv_at hl 3 rfl) ?_
    refine lv_iload_n hx hb dL_law_771 rfl (lv_at hl 0 rfl) ?_
    refine lv_iconst (v := 3) hx hb dL_law_772 (by decide) ?_
    refine lv_iadd hx hb dL_law_773 ?_
    rw [show nI (5 * k) + 3 = nI (5 * k + 3) from nI_add (5 * k) 3]
    refine va_sld hx hb hX hbl hbA hS (vp_in_nI (n := 5 * k + 3) (N := L) (by omega) (by omega)) dL_law_774 ?_
    rw [nI_clamp (n := 5 * k + 3) (by omega)]
    refine lv_aload_n hx hb dL_law_775 rfl (lv_at hl 3 rfl) ?_
    refine lv_iload_n hx hb dL_law_776 rfl (lv_at hl 0 rfl) ?_
    refine lv_iconst (v := 4) hx hb dL_law_777 (by decide) ?_
    refine lv_iadd hx hb dL_law_778 ?_
    rw [show nI (5 * k) + 4 = nI (5 * k + 4) from nI_add (5 * k) 4]
    refine va_sld hx hb hX hbl hbA hS (vp_in_nI (n := 5 * k + 4) (N := L) (by omega) (by omega)) dL_law_779 ?_
    rw [nI_clamp (n := 5 * k + 4) (by omega)]
    refine lv_if_eq (tgt := 787) hx hb dL_law_780 (by decide) (fun c1 => ?_) (fun c1 => absurd hz c1)
    refine lv_iconst (v := 0) hx hb dL_law_787 (by decide) ?_
    obtain ⟨rr, C2, S2, h6, h7, hR2⟩ := h_flood k C S (xs (5 * k + 1)) (xs (5 * k + 2)) (xs (5 * k + 3)) 0 hk64 hR
    refine z_wgoP (wn := CW g q C2 ++ MW g r S) (va_runV (As := [.int (xs (5 * k + 1)), .int (xs (5 * k + 2)), .int (xs (5 * k + 3)), .int 0]) (rest := []) ⟨hx, hb, hml, hown, hts⟩ ((c6_flood l g q C (xs (5 * k + 1)) (xs (5 * k + 2)) (xs (5 * k + 3)) 0 rr C2 h6) H.size) (cwV 4 hts gL_law_X6_flood rfl rfl rfl (by decide +kernel) ⟨Nat.le_of_ble_eq_true rfl, Nat.le_of_ble_eq_true rfl⟩) (z_wpreV (ci := 6) (q := (RX6, TX6, 13)) (q0 := 0) (zP_left hP) hK.1 (z_any (zD_left hD)) rfl rfl) rfl rfl hl.1 rfl (lv_room (Nat.le_of_ble_eq_true rfl)) dL_law_788 ⟨Nat.le_of_ble_eq_true rfl, Nat.le_of_ble_eq_true rfl⟩) hP hD hS hA (MW g r S) (List.Perm.refl _) rfl (List.Perm.refl _) (fun H locs hP hD hS => ?_)
    show W p l e room_1 s m #[Value.ref b] below meth c H locs 140 1238 (lw_Z below #[Value.ref b] s) (F0 m 791 ls [.int rr])
    refine lv_aload_n hx hb dL_law_791 rfl (lv_at hl 1 rfl) ?_
    refine lv_aload_n hx hb dL_law_792 rfl (lv_at hl 3 rfl) ?_
    refine lv_iload_n hx hb dL_law_793 rfl (lv_at hl 0 rfl) ?_
    refine lv_iconst (v := 1) hx hb dL_law_794 (by decide) ?_
    refine lv_iadd hx hb dL_law_795 ?_
    rw [show nI (5 * k) + 1 = nI (5 * k + 1) from nI_add (5 * k) 1]
    refine va_sld hx hb hX hbl hbA hS (vp_in_nI (n := 5 * k + 1) (N := L) (by omega) (by omega)) dL_law_796 ?_
    rw [nI_clamp (n := 5 * k + 1) (by omega)]
    refine lv_aload_n hx hb dL_law_797 rfl (lv_at hl 3 rfl) ?_
    refine lv_iload_n hx hb dL_law_798 rfl (lv_at hl 0 rfl) ?_
    refine lv_iconst (v := 2) hx hb dL_law_799 (by decide) ?_
    refine lv_iadd hx hb dL_law_800 ?_
    rw [show nI (5 * k) + 2 = nI (5 * k + 2) from nI_add (5 * k) 2]
    refine va_sld hx hb hX hbl hbA hS (vp_in_nI (n := 5 * k + 2) (N := L) (by omega) (by omega)) dL_law_801 ?_
    rw [nI_clamp (n := 5 * k + 2) (by omega)]
    refine lv_aload_n hx hb dL_law_802 rfl (lv_at hl 3 rfl) ?_
    refine lv_iload_n hx hb dL_law_803 rfl (lv_at hl 0 rfl) ?_
    refine lv_iconst (v := 3) hx hb dL_law_804 (by decide) ?_
    refine lv_iadd hx hb dL_law_805 ?_
    rw [show nI (5 * k) + 3 = nI (5 * k + 3) from nI_add (5 * k) 3]
    refine va_sld hx hb hX hbl hbA hS (vp_in_nI (n := 5 * k + 3) (N := L) (by omega) (by omega)) dL_law_806 ?_
    rw [nI_clamp (n := 5 * k + 3) (by omega)]
    refine lv_aload_n hx hb dL_law_807 rfl (lv_at hl 3 rfl) ?_
    refine lv_iload_n hx hb dL_law_808 rfl (lv_at hl 0 rfl) ?_
    refine lv_iconst (v := 4) hx hb dL_law_809 (by decide) ?_
    refine lv_iadd hx hb dL_law_810 ?_
    rw [show nI (5 * k) + 4 = nI (5 * k + 4) from nI_add (5 * k) 4]
    refine va_sld hx hb hX hbl hbA hS (vp_in_nI (n := 5 * k + 4) (N := L) (by omega) (by omega)) dL_law_811 ?_
    rw [nI_clamp (n := 5 * k + 4) (by omega)]
    refine lv_if_eq (tgt := 819) hx hb dL_law_812 (by decide) (fun c1 => ?_) (fun c1 => absurd hz c1)
    refine lv_iconst (v := 0) hx hb dL_law_819 (by decide) ?_
    refine z_wgoP (wn := CW g q C2 ++ MW g r S2) (va_runV (As := [.int (xs (5 * k + 1)), .int (xs (5 * k + 2)), .int (xs (5 * k + 3)), .int 0]) (rest := [.int rr]) ⟨hx, hb, hml, hown, hts⟩ ((c7_flood l g r S (xs (5 * k + 1)) (xs (5 * k + 2)) (xs (5 * k + 3)) 0 rr S2 h7) H.size) (cwV 4 hts gL_law_X7_flood rfl rfl rfl (by decide +kernel) ⟨Nat.le_of_ble_eq_true rfl, Nat.le_of_ble_eq_true rfl⟩) (z_wpreV (ci := 7) (q := (RX7, TX7, 37)) (q0 := 0) (zP_right hP) hK.1 (z_any (zD_right hD)) rfl rfl) rfl rfl hl.1 rfl (lv_room (Nat.le_of_ble_eq_true rfl)) dL_law_820 ⟨Nat.le_of_ble_eq_true rfl, Nat.le_of_ble_eq_true rfl⟩) hP hD hS hA (CW g q C2) List.perm_append_comm rfl List.perm_append_comm (fun H locs hP hD hS => ?_)
    show W p l e room_1 s m #[Value.ref b] below meth c H locs 140 1238 (lw_Z below #[Value.ref b] s) (F0 m 823 ls [.int rr, .int rr])
    refine lv_icmp_eq (tgt := 974) hx hb dL_law_823 (by decide) (fun c1 => ?_) (fun c1 => absurd rfl c1)
    exact hN C2 S2 H locs ls hR2 hP hD hS hl
  · refine lv_aload_n hx hb dL_law_759 rfl (lv_at hl 2 rfl) ?_
    refine lv_aload_n hx hb dL_law_760 rfl (lv_at hl 3 rfl) ?_
    refine lv_iload_n hx hb dL_law_761 rfl (lv_at hl 0 rfl) ?_
    refine lv_iconst (v := 1) hx hb dL_law_762 (by decide) ?_
    refine lv_iadd hx hb dL_law_763 ?_
    rw [show nI (5 * k) + 1 = nI (5 * k + 1) from nI_add (5 * k) 1]
    refine va_sld hx hb hX hbl hbA hS (vp_in_nI (n := 5 * k + 1) (N := L) (by omega) (by omega)) dL_law_764 ?_
    rw [nI_clamp (n := 5 * k + 1) (by omega)]
    refine lv_aload_n hx hb dL_law_765 rfl (lv_at hl 3 rfl) ?_
    refine lv_iload_n hx hb dL_law_766 rfl (lv_at hl 0 rfl) ?_
    refine lv_iconst (v := 2) hx hb dL_law_767 (by decide) ?_
    refine lv_iadd hx hb dL_law_768 ?_
    rw [show nI (5 * k) + 2 = nI (5 * k + 2) from nI_add (5 * k) 2]
    refine va_sld hx hb hX hbl hbA hS (vp_in_nI (n := 5 * k + 2) (N := L) (by omega) (by omega)) dL_law_769 ?_
    rw [nI_clamp (n := 5 * k + 2) (by omega)]
    refine lv_aload_n hx hb dL_law_770 rfl (lv_at hl 3 rfl) ?_
    refine lv_iload_n hx hb dL_law_771 rfl (lv_at hl 0 rfl) ?_
    refine lv_iconst (v := 3) hx hb dL_law_772 (by decide) ?_
    refine lv_iadd hx hb dL_law_773 ?_
    rw [show nI (5 * k) + 3 = nI (5 * k + 3) from nI_add (5 * k) 3]
    refine va_sld hx hb hX hbl hbA hS (vp_in_nI (n := 5 * k + 3) (N := L) (by omega) (by omega)) dL_law_774 ?_
    rw [nI_clamp (n := 5 * k + 3) (by omega)]
    refine lv_aload_n hx hb dL_law_775 rfl (lv_at hl 3 rfl) ?_
    refine lv_iload_n hx hb dL_law_776 rfl (lv_at hl 0 rfl) ?_
    refine lv_iconst (v := 4) hx hb dL_law_777 (by decide) ?_
    refine lv_iadd hx hb dL_law_778 ?_
    rw [show nI (5 * k) + 4 = nI (5 * k + 4) from nI_add (5 * k) 4]
    refine va_sld hx hb hX hbl hbA hS (vp_in_nI (n := 5 * k + 4) (N := L) (by omega) (by omega)) dL_law_779 ?_
    rw [nI_clamp (n := 5 * k + 4) (by omega)]
    refine lv_if_eq (tgt := 787) hx hb dL_law_780 (by decide) (fun c1 => absurd c1 hz) (fun c1 => ?_)
    refine lv_iconst (v := 1) hx hb dL_law_783 (by decide) ?_
    refine lv_goto (tgt := 788) hx hb dL_law_784 (by decide) ?_
    obtain ⟨rr, C2, S2, h6, h7, hR2⟩ := h_flood k C S (xs (5 * k + 1)) (xs (5 * k + 2)) (xs (5 * k + 3)) 1 hk64 hR
    refine z_wgoP (wn := CW g q C2 ++ MW g r S) (va_runV (As := [.int (xs (5 * k + 1)), .int (xs (5 * k + 2)), .int (xs (5 * k + 3)), .int 1]) (rest := []) ⟨hx, hb, hml, hown, hts⟩ ((c6_flood l g q C (xs (5 * k + 1)) (xs (5 * k + 2)) (xs (5 * k + 3)) 1 rr C2 h6) H.size) (cwV 4 hts gL_law_X6_flood rfl rfl rfl (by decide +kernel) ⟨Nat.le_of_ble_eq_true rfl, Nat.le_of_ble_eq_true rfl⟩) (z_wpreV (ci := 6) (q := (RX6, TX6, 13)) (q0 := 0) (zP_left hP) hK.1 (z_any (zD_left hD)) rfl rfl) rfl rfl hl.1 rfl (lv_room (Nat.le_of_ble_eq_true rfl)) dL_law_788 ⟨Nat.le_of_ble_eq_true rfl, Nat.le_of_ble_eq_true rfl⟩) hP hD hS hA (MW g r S) (List.Perm.refl _) rfl (List.Perm.refl _) (fun H locs hP hD hS => ?_)
    show W p l e room_1 s m #[Value.ref b] below meth c H locs 140 1238 (lw_Z below #[Value.ref b] s) (F0 m 791 ls [.int rr])
    refine lv_aload_n hx hb dL_law_791 rfl (lv_at hl 1 rfl) ?_
    refine lv_aload_n hx hb dL_law_792 rfl (lv_at hl 3 rfl) ?_
    refine lv_iload_n hx hb dL_law_793 rfl (lv_at hl 0 rfl) ?_
    refine lv_iconst (v := 1) hx hb dL_law_794 (by decide) ?_
    refine lv_iadd hx hb dL_law_795 ?_
    rw [show nI (5 * k) + 1 = nI (5 * k + 1) from nI_add (5 * k) 1]
    refine va_sld hx hb hX hbl hbA hS (vp_in_nI (n := 5 * k + 1) (N := L) (by omega) (by omega)) dL_law_796 ?_
    rw [nI_clamp (n := 5 * k + 1) (by omega)]
    refine lv_aload_n hx hb dL_law_797 rfl (lv_at hl 3 rfl) ?_
    refine lv_iload_n hx hb dL_law_798 rfl (lv_at hl 0 rfl) ?_
    refine lv_iconst (v := 2) hx hb dL_law_799 (by decide) ?_
    refine lv_iadd hx hb dL_law_800 ?_
    rw [show nI (5 * k) + 2 = nI (5 * k + 2) from nI_add (5 * k) 2]
    refine va_sld hx hb hX hbl hbA hS (vp_in_nI (n := 5 * k + 2) (N := L) (by omega) (by omega)) dL_law_801 ?_
    rw [nI_clamp (n := 5 * k + 2) (by omega)]
    refine lv_aload_n hx hb dL_law_802 rfl (lv_at hl 3 rfl) ?_
    refine lv_iload_n hx hb dL_law_803 rfl (lv_at hl 0 rfl) ?_
    refine lv_iconst (v := 3) hx hb dL_law_804 (by decide) ?_
    refine lv_iadd hx hb dL_law_805 ?_
    rw [show nI (5 * k) + 3 = nI (5 * k + 3) from nI_add (5 * k) 3]
    refine va_sld hx hb hX hbl hbA hS (vp_in_nI (n := 5 * k + 3) (N := L) (by omega) (by omega)) dL_law_806 ?_
    rw [nI_clamp (n := 5 * k + 3) (by omega)]
    refine lv_aload_n hx hb dL_law_807 rfl (lv_at hl 3 rfl) ?_
    refine lv_iload_n hx hb dL_law_808 rfl (lv_at hl 0 rfl) ?_
    refine lv_iconst (v := 4) hx hb dL_law_809 (by decide) ?_
    refine lv_iadd hx hb dL_law_810 ?_
    rw [show nI (5 * k) + 4 = nI (5 * k + 4) from nI_add (5 * k) 4]
    refine va_sld hx hb hX hbl hbA hS (vp_in_nI (n := 5 * k + 4) (N := L) (by omega) (by omega)) dL_law_811 ?_
    rw [nI_clamp (n := 5 * k + 4) (by omega)]
    refine lv_if_eq (tgt := 819) hx hb dL_law_812 (by decide) (fun c1 => absurd c1 hz) (fun c1 => ?_)
    refine lv_iconst (v := 1) hx hb dL_law_815 (by decide) ?_
    refine lv_goto (tgt := 820) hx hb dL_law_816 (by decide) ?_
    refine z_wgoP (wn := CW g q C2 ++ MW g r S2) (va_runV (As := [.int (xs (5 * k + 1)), .int (xs (5 * k + 2)), .int (xs (5 * k + 3)), .int 1]) (rest := [.int rr]) ⟨hx, hb, hml, hown, hts⟩ ((c7_flood l g r S (xs (5 * k + 1)) (xs (5 * k + 2)) (xs (5 * k + 3)) 1 rr S2 h7) H.size) (cwV 4 hts gL_law_X7_flood rfl rfl rfl (by decide +kernel) ⟨Nat.le_of_ble_eq_true rfl, Nat.le_of_ble_eq_true rfl⟩) (z_wpreV (ci := 7) (q := (RX7, TX7, 37)) (q0 := 0) (zP_right hP) hK.1 (z_any (zD_right hD)) rfl rfl) rfl rfl hl.1 rfl (lv_room (Nat.le_of_ble_eq_true rfl)) dL_law_820 ⟨Nat.le_of_ble_eq_true rfl, Nat.le_of_ble_eq_true rfl⟩) hP hD hS hA (CW g q C2) List.perm_append_comm rfl List.perm_append_comm (fun H locs hP hD hS => ?_)
    show W p l e room_1 s m #[Value.ref b] below meth c H locs 140 1238 (lw_Z below #[Value.ref b] s) (F0 m 823 ls [.int rr, .int rr])
    refine lv_icmp_eq (tgt := 974) hx hb dL_law_823 (by decide) (fun c1 => ?_) (fun c1 => absurd rfl c1)
    exact hN C2 S2 H locs ls hR2 hP hD hS hl
set_option maxHeartbeats 4000000 in
set_option maxRecDepth 100000 in
theorem lw_seed {p : Program} {l : Launch} {e : Env} {s : State} {m : MethodId} {below : List Frame} {meth : Method} {c : Code} {b L : Nat} {xs : Nat → Int32} {g : zG} {q r : Nat → Nat} {t : Nat} (hL : L ≤ 320) (hx : p.tables.exec = Jvm.exec) (hb : c.code = cL_law) (hml : c.maxLocals = 4) (hown : s.vm.findClass RL = some m.cls) (hts : ∀ w ∈ wsL_law, w.before #[Value.ref b] s = true) (hX : va_X b L xs s s.heap) (hbl : b < s.heap.size) (hK : zKc g s) (hZ : zFz t (fun q : Nat => s.heap.size ≤ q) s s.heap) (Rel : Nat → Cs → MS → Prop) (h_seed : ∀ (k : Nat) (C : Cs) (S : MS) (x1 : Int64), k < 64 → Rel k C S → ∃ (r : Int64) (C2 : Cs) (S2 : MS), f6_seed C x1 = some (r, C2) ∧ f7_seed S x1 = some (r, S2) ∧ Rel (k + 1) C2 S2) (k : Nat) (hk : 5 * k + 5 ≤ L) (hk64 : k < 64) (hN : ∀ (C : Cs) (S : MS) (H : Heap) (locs : List Loc) (ls : Array Slot), Rel (k + 1) C S → va_P (zD g) vwCl (CW g q C ++ MW g r S) H → va_D (fun q : Nat => s.heap.size ≤ q) (CW g q C ++ MW g r S) → va_S (fun q : Nat => s.heap.size ≤ q) s.heap H locs → lv_has ls 4 [(3, .int (nI (5 * k))), (2, .ref (r 0)), (1, .ref (q 0)), (0, .ref b)] → W p l e room_1 s m #[Value.ref b] below meth c H locs 140 1238 (lw_Z below #[Value.ref b] s) (F0 m 974 ls [])) (C : Cs) (S : MS) (H : Heap) (locs : List Loc) (ls : Array Slot) (hR : Rel k C S) (hP : va_P (zD g) vwCl (CW g q C ++ MW g r S) H) (hD : va_D (fun q : Nat => s.heap.size ≤ q) (CW g q C ++ MW g r S)) (hS : va_S (fun q : Nat => s.heap.size ≤ q) s.heap H locs) (hl : lv_has ls 4 [(3, .int (nI (5 * k))), (2, .ref (r 0)), (1, .ref (q 0)), (0, .ref b)]) : W p l e room_1 s m #[Value.ref b] below meth c H locs 140 1238 (lw_Z below #[Value.ref b] s) (F0 m 828 ls []) := by
  have hA : ∀ q : Nat, s.heap.size ≤ q → (fun q : Nat => s.heap.size ≤ q) q := fun _ h => h
  have hbA : ¬ (fun q : Nat => s.heap.size ≤ q) b := Nat.not_le.mpr hbl
  refine lv_aload_n hx hb dL_law_828 rfl (lv_at hl 2 rfl) ?_
  refine lv_aload_n hx hb dL_law_829 rfl (lv_at hl 3 rfl) ?_
  refine lv_iload_n hx hb dL_law_830 rfl (lv_at hl 0 rfl) ?_
  refine lv_iconst (v := 1) hx hb dL_law_831 (by decide) ?_
  refine lv_iadd hx hb dL_law_832 ?_
  rw [show nI (5 * k) + 1 = nI (5 * k + 1) from nI_add (5 * k) 1]
  refine va_sld hx hb hX hbl hbA hS (vp_in_nI (n := 5 * k + 1) (N := L) (by omega) (by omega)) dL_law_833 ?_
  rw [nI_clamp (n := 5 * k + 1) (by omega)]
  refine lv_i2l (v := ((xs (5 * k + 1))).toInt64) hx hb dL_law_834 rfl ?_
  refine lv_bipush (v := 32) hx hb dL_law_835 (by decide) ?_
  refine lv_lshl (v := ((((xs (5 * k + 1))).toInt64) <<< ((32 : Int32).toInt64 &&& 63))) hx hb dL_law_837 rfl ?_
  refine lv_aload_n hx hb dL_law_838 rfl (lv_at hl 3 rfl) ?_
  refine lv_iload_n hx hb dL_law_839 rfl (lv_at hl 0 rfl) ?_
  refine lv_iconst (v := 2) hx hb dL_law_840 (by decide) ?_
  refine lv_iadd hx hb dL_law_841 ?_
  rw [show nI (5 * k) + 2 = nI (5 * k + 2) from nI_add (5 * k) 2]
  refine va_sld hx hb hX hbl hbA hS (vp_in_nI (n := 5 * k + 2) (N := L) (by omega) (by omega)) dL_law_842 ?_
  rw [nI_clamp (n := 5 * k + 2) (by omega)]
  refine lv_i2l (v := ((xs (5 * k + 2))).toInt64) hx hb dL_law_843 rfl ?_
  refine lv_ldc2 (own := RL) (v := 4294967295) hx hb hown (hts (.constantLong RL 115 4294967295) (zlm 6 rfl)) dL_law_844 ?_
  refine lv_land hx hb dL_law_847 ?_
  refine lv_lor hx hb dL_law_848 ?_
  obtain ⟨rr, C2, S2, h6, h7, hR2⟩ := h_seed k C S (((((xs (5 * k + 1))).toInt64) <<< ((32 : Int32).toInt64 &&& 63)) ||| ((((xs (5 * k + 2))).toInt64) &&& 4294967295)) hk64 hR
  refine z_wgoP (wn := CW g q C2 ++ MW g r S) (va_runV (As := [.long (((((xs (5 * k + 1))).toInt64) <<< ((32 : Int32).toInt64 &&& 63)) ||| ((((xs (5 * k + 2))).toInt64) &&& 4294967295))]) (rest := []) ⟨hx, hb, hml, hown, hts⟩ ((c6_seed l g q C (((((xs (5 * k + 1))).toInt64) <<< ((32 : Int32).toInt64 &&& 63)) ||| ((((xs (5 * k + 2))).toInt64) &&& 4294967295)) rr C2 h6) H.size) (cwV 1 hts gL_law_X6_seed rfl rfl rfl (by decide +kernel) ⟨Nat.le_of_ble_eq_true rfl, Nat.le_of_ble_eq_true rfl⟩) (z_wpreV (ci := 6) (q := (RX6, TX6, 13)) (q0 := 0) (zP_left hP) hK.1 (z_any (zD_left hD)) rfl rfl) rfl rfl hl.1 rfl (lv_room (Nat.le_of_ble_eq_true rfl)) dL_law_849 ⟨Nat.le_of_ble_eq_true rfl, Nat.le_of_ble_eq_true rfl⟩) hP hD hS hA (MW g r S) (List.Perm.refl _) rfl (List.Perm.refl _) (fun H locs hP hD hS => ?_)
  show W p l e room_1 s m #[Value.ref b] below meth c H locs 140 1238 (lw_Z below #[Value.ref b] s) (F0 m 852 ls [.long rr])
  refine lv_aload_n hx hb dL_law_852 rfl (lv_at hl 1 rfl) ?_
  refine lv_aload_n hx hb dL_law_853 rfl (lv_at hl 3 rfl) ?_
  refine lv_iload_n hx hb dL_law_854 rfl (lv_at hl 0 rfl) ?_
  refine lv_iconst (v := 1) hx hb dL_law_855 (by decide) ?_
  refine lv_iadd hx hb dL_law_856 ?_
  rw [show nI (5 * k) + 1 = nI (5 * k + 1) from nI_add (5 * k) 1]
  refine va_sld hx hb hX hbl hbA hS (vp_in_nI (n := 5 * k + 1) (N := L) (by omega) (by omega)) dL_law_857 ?_
  rw [nI_clamp (n := 5 * k + 1) (by omega)]
  refine lv_i2l (v := ((xs (5 * k + 1))).toInt64) hx hb dL_law_858 rfl ?_
  refine lv_bipush (v := 32) hx hb dL_law_859 (by decide) ?_
  refine lv_lshl (v := ((((xs (5 * k + 1))).toInt64) <<< ((32 : Int32).toInt64 &&& 63))) hx hb dL_law_861 rfl ?_
  refine lv_aload_n hx hb dL_law_862 rfl (lv_at hl 3 rfl) ?_
  refine lv_iload_n hx hb dL_law_863 rfl (lv_at hl 0 rfl) ?_
  refine lv_iconst (v := 2) hx hb dL_law_864 (by decide) ?_
  refine lv_iadd hx hb dL_law_865 ?_
  rw [show nI (5 * k) + 2 = nI (5 * k + 2) from nI_add (5 * k) 2]
  refine va_sld hx hb hX hbl hbA hS (vp_in_nI (n := 5 * k + 2) (N := L) (by omega) (by omega)) dL_law_866 ?_
  rw [nI_clamp (n := 5 * k + 2) (by omega)]
  refine lv_i2l (v := ((xs (5 * k + 2))).toInt64) hx hb dL_law_867 rfl ?_
  refine lv_ldc2 (own := RL) (v := 4294967295) hx hb hown (hts (.constantLong RL 115 4294967295) (zlm 6 rfl)) dL_law_868 ?_
  refine lv_land hx hb dL_law_871 ?_
  refine lv_lor hx hb dL_law_872 ?_
  refine z_wgoP (wn := CW g q C2 ++ MW g r S2) (va_runV (As := [.long (((((xs (5 * k + 1))).toInt64) <<< ((32 : Int32).toInt64 &&& 63)) ||| ((((xs (5 * k + 2))).toInt64) &&& 4294967295))]) (rest := [.long rr]) ⟨hx, hb, hml, hown, hts⟩ ((c7_seed l g r S (((((xs (5 * k + 1))).toInt64) <<< ((32 : Int32).toInt64 &&& 63)) ||| ((((xs (5 * k + 2))).toInt64) &&& 4294967295)) rr S2 h7) H.size) (cwV 1 hts gL_law_X7_seed rfl rfl rfl (by decide +kernel) ⟨Nat.le_of_ble_eq_true rfl, Nat.le_of_ble_eq_true rfl⟩) (z_wpreV (ci := 7) (q := (RX7, TX7, 37)) (q0 := 0) (zP_right hP) hK.1 (z_any (zD_right hD)) rfl rfl) rfl rfl hl.1 rfl (lv_room (Nat.le_of_ble_eq_true rfl)) dL_law_873 ⟨Nat.le_of_ble_eq_true rfl, Nat.le_of_ble_eq_true rfl⟩) hP hD hS hA (CW g q C2) List.perm_append_comm rfl List.perm_append_comm (fun H locs hP hD hS => ?_)
  show W p l e room_1 s m #[Value.ref b] below meth c H locs 140 1238 (lw_Z below #[Value.ref b] s) (F0 m 876 ls [.long rr, .long rr])
  refine W.lcmp hx hb dL_law_876 ?_
  refine lv_if_eq (tgt := 974) hx hb dL_law_877 (by decide) (fun c1 => ?_) (fun c1 => absurd (zcmp rr) c1)
  exact hN C2 S2 H locs ls hR2 hP hD hS hl
set_option maxHeartbeats 4000000 in
set_option maxRecDepth 100000 in
theorem lw_years {p : Program} {l : Launch} {e : Env} {s : State} {m : MethodId} {below : List Frame} {meth : Method} {c : Code} {b L : Nat} {xs : Nat → Int32} {g : zG} {q r : Nat → Nat} {t : Nat} (hL : L ≤ 320) (hx : p.tables.exec = Jvm.exec) (hb : c.code = cL_law) (hml : c.maxLocals = 4) (hown : s.vm.findClass RL = some m.cls) (hts : ∀ w ∈ wsL_law, w.before #[Value.ref b] s = true) (hX : va_X b L xs s s.heap) (hbl : b < s.heap.size) (hK : zKc g s) (hZ : zFz t (fun q : Nat => s.heap.size ≤ q) s s.heap) (Rel : Nat → Cs → MS → Prop) (h_years : ∀ (k : Nat) (C : Cs) (S : MS) (x1 : Int32), k < 64 → Rel k C S → ∃ (r : Int32) (C2 : Cs) (S2 : MS), f6_years C x1 = some (r, C2) ∧ f7_years S x1 = some (r, S2) ∧ Rel (k + 1) C2 S2) (k : Nat) (hk : 5 * k + 5 ≤ L) (hk64 : k < 64) (hN : ∀ (C : Cs) (S : MS) (H : Heap) (locs : List Loc) (ls : Array Slot), Rel (k + 1) C S → va_P (zD g) vwCl (CW g q C ++ MW g r S) H → va_D (fun q : Nat => s.heap.size ≤ q) (CW g q C ++ MW g r S) → va_S (fun q : Nat => s.heap.size ≤ q) s.heap H locs → lv_has ls 4 [(3, .int (nI (5 * k))), (2, .ref (r 0)), (1, .ref (q 0)), (0, .ref b)] → W p l e room_1 s m #[Value.ref b] below meth c H locs 140 1238 (lw_Z below #[Value.ref b] s) (F0 m 974 ls [])) (C : Cs) (S : MS) (H : Heap) (locs : List Loc) (ls : Array Slot) (hR : Rel k C S) (hP : va_P (zD g) vwCl (CW g q C ++ MW g r S) H) (hD : va_D (fun q : Nat => s.heap.size ≤ q) (CW g q C ++ MW g r S)) (hS : va_S (fun q : Nat => s.heap.size ≤ q) s.heap H locs) (hl : lv_has ls 4 [(3, .int (nI (5 * k))), (2, .ref (r 0)), (1, .ref (q 0)), (0, .ref b)]) : W p l e room_1 s m #[Value.ref b] below meth c H locs 140 1238 (lw_Z below #[Value.ref b] s) (F0 m 882 ls []) := by
  have hA : ∀ q : Nat, s.heap.size ≤ q → (fun q : Nat => s.heap.size ≤ q) q := fun _ h => h
  have hbA : ¬ (fun q : Nat => s.heap.size ≤ q) b := Nat.not_le.mpr hbl
  refine lv_aload_n hx hb dL_law_882 rfl (lv_at hl 2 rfl) ?_
  refine lv_aload_n hx hb dL_law_883 rfl (lv_at hl 3 rfl) ?_
  refine lv_iload_n hx hb dL_law_884 rfl (lv_at hl 0 rfl) ?_
  refine lv_iconst (v := 1) hx hb dL_law_885 (by decide) ?_
  refine lv_iadd hx hb dL_law_886 ?_
  rw [show nI (5 * k) + 1 = nI (5 * k + 1) from nI_add (5 * k) 1]
  refine va_sld hx hb hX hbl hbA hS (vp_in_nI (n := 5 * k + 1) (N := L) (by omega) (by omega)) dL_law_887 ?_
  rw [nI_clamp (n := 5 * k + 1) (by omega)]
  obtain ⟨rr, C2, S2, h6, h7, hR2⟩ := h_years k C S (xs (5 * k + 1)) hk64 hR
  refine z_wgoP (wn := CW g q C2 ++ MW g r S) (va_runV (As := [.int (xs (5 * k + 1))]) (rest := []) ⟨hx, hb, hml, hown, hts⟩ ((c6_years l g q C (xs (5 * k + 1)) rr C2 h6) H.size) (cwV 1 hts gL_law_X6_years rfl rfl rfl (by decide +kernel) ⟨Nat.le_of_ble_eq_true rfl, Nat.le_of_ble_eq_true rfl⟩) (z_wpreV (ci := 6) (q := (RX6, TX6, 13)) (q0 := 0) (zP_left hP) hK.1 (z_any (zD_left hD)) rfl rfl) rfl rfl hl.1 rfl (lv_room (Nat.le_of_ble_eq_true rfl)) dL_law_888 ⟨Nat.le_of_ble_eq_true rfl, Nat.le_of_ble_eq_true rfl⟩) hP hD hS hA (MW g r S) (List.Perm.refl _) rfl (List.Perm.refl _) (fun H locs hP hD hS => ?_)
  show W p l e room_1 s m #[Value.ref b] below meth c H locs 140 1238 (lw_Z below #[Value.ref b] s) (F0 m 891 ls [.int rr])
  refine lv_aload_n hx hb dL_law_891 rfl (lv_at hl 1 rfl) ?_
  refine lv_aload_n hx hb dL_law_892 rfl (lv_at hl 3 rfl) ?_
  refine lv_iload_n hx hb dL_law_893 rfl (lv_at hl 0 rfl) ?_
  refine lv_iconst (v := 1) hx hb dL_law_894 (by decide) ?_
  refine lv_iadd hx hb dL_law_895 ?_
  rw [show nI (5 * k) + 1 = nI (5 * k + 1) from nI_add (5 * k) 1]
  refine va_sld hx hb hX hbl hbA hS (vp_in_nI (n := 5 * k + 1) (N := L) (by omega) (by omega)) dL_law_896 ?_
  rw [nI_clamp (n := 5 * k + 1) (by omega)]
  refine z_wgoP (wn := CW g q C2 ++ MW g r S2) (va_runV (As := [.int (xs (5 * k + 1))]) (rest := [.int rr]) ⟨hx, hb, hml, hown, hts⟩ ((c7_years l g r S (xs (5 * k + 1)) rr S2 h7) H.size) (cwV 1 hts gL_law_X7_years rfl rfl rfl (by decide +kernel) ⟨Nat.le_of_ble_eq_true rfl, Nat.le_of_ble_eq_true rfl⟩) (z_wpreV (ci := 7) (q := (RX7, TX7, 37)) (q0 := 0) (zP_right hP) hK.1 (z_any (zD_right hD)) rfl rfl) rfl rfl hl.1 rfl (lv_room (Nat.le_of_ble_eq_true rfl)) dL_law_897 ⟨Nat.le_of_ble_eq_true rfl, Nat.le_of_ble_eq_true rfl⟩) hP hD hS hA (CW g q C2) List.perm_append_comm rfl List.perm_append_comm (fun H locs hP hD hS => ?_)
  show W p l e room_1 s m #[Value.ref b] below meth c H locs 140 1238 (lw_Z below #[Value.ref b] s) (F0 m 900 ls [.int rr, .int rr])
  refine lv_icmp_eq (tgt := 974) hx hb dL_law_900 (by decide) (fun c1 => ?_) (fun c1 => absurd rfl c1)
  exact hN C2 S2 H locs ls hR2 hP hD hS hl
set_option maxHeartbeats 4000000 in
set_option maxRecDepth 100000 in
theorem lw_keep {p : Program} {l : Launch} {e : Env} {s : State} {m : MethodId} {below : List Frame} {meth : Method} {c : Code} {b L : Nat} {xs : Nat → Int32} {g : zG} {q r : Nat → Nat} {t : Nat} (hL : L ≤ 320) (hx : p.tables.exec = Jvm.exec) (hb : c.code = cL_law) (hml : c.maxLocals = 4) (hown : s.vm.findClass RL = some m.cls) (hts : ∀ w ∈ wsL_law, w.before #[Value.ref b] s = true) (hX : va_X b L xs s s.heap) (hbl : b < s.heap.size) (hK : zKc g s) (hZ : zFz t (fun q : Nat => s.heap.size ≤ q) s s.heap) (Rel : Nat → Cs → MS → Prop) (h_keep : ∀ (k : Nat) (C : Cs) (S : MS) (x1 : Int32), k < 64 → Rel k C S → ∃ (r : Int32) (C2 : Cs) (S2 : MS), f6_keep C x1 = some (r, C2) ∧ f7_keep S x1 = some (r, S2) ∧ Rel (k + 1) C2 S2) (k : Nat) (hk : 5 * k + 5 ≤ L) (hk64 : k < 64) (hN : ∀ (C : Cs) (S : MS) (H : Heap) (locs : List Loc) (ls : Array Slot), Rel (k + 1) C S → va_P (zD g) vwCl (CW g q C ++ MW g r S) H → va_D (fun q : Nat => s.heap.size ≤ q) (CW g q C ++ MW g r S) → va_S (fun q : Nat => s.heap.size ≤ q) s.heap H locs → lv_has ls 4 [(3, .int (nI (5 * k))), (2, .ref (r 0)), (1, .ref (q 0)), (0, .ref b)] → W p l e room_1 s m #[Value.ref b] below meth c H locs 140 1238 (lw_Z below #[Value.ref b] s) (F0 m 974 ls [])) (C : Cs) (S : MS) (H : Heap) (locs : List Loc) (ls : Array Slot) (hR : Rel k C S) (hP : va_P (zD g) vwCl (CW g q C ++ MW g r S) H) (hD : va_D (fun q : Nat => s.heap.size ≤ q) (CW g q C ++ MW g r S)) (hS : va_S (fun q : Nat => s.heap.size ≤ q) s.heap H locs) (hl : lv_has ls 4 [(3, .int (nI (5 * k))), (2, .ref (r 0)), (1, .ref (q 0)), (0, .ref b)]) : W p l e room_1 s m #[Value.ref b] below meth c H locs 140 1238 (lw_Z below #[Value.ref b] s) (F0 m 905 ls []) := by
  have hA : ∀ q : Nat, s.heap.size ≤ q → (fun q : Nat => s.heap.size ≤ q) q := fun _ h => h
  have hbA : ¬ (fun q : Nat => s.heap.size ≤ q) b := Nat.not_le.mpr hbl
  refine lv_aload_n hx hb dL_law_905 rfl (lv_at hl 2 rfl) ?_
  refine lv_aload_n hx hb dL_law_906 rfl (lv_at hl 3 rfl) ?_
  refine lv_iload_n hx hb dL_law_907 rfl (lv_at hl 0 rfl) ?_
  refine lv_iconst (v := 1) hx hb dL_law_908 (by decide) ?_
  refine lv_iadd hx hb dL_law_909 ?_
  rw [show nI (5 * k) + 1 = nI (5 * k + 1) from nI_add (5 * k) 1]
  refine va_sld hx hb hX hbl hbA hS (vp_in_nI (n := 5 * k + 1) (N := L) (by omega) (by omega)) dL_law_910 ?_
  rw [nI_clamp (n := 5 * k + 1) (by omega)]
  obtain ⟨rr, C2, S2, h6, h7, hR2⟩ := h_keep k C S (xs (5 * k + 1)) hk64 hR
  refine z_wgoP (wn := CW g q C2 ++ MW g r S) (va_runV (As := [.int (xs (5 * k + 1))]) (rest := []) ⟨hx, hb, hml, hown, hts⟩ ((c6_keep l g q C (xs (5 * k + 1)) rr C2 h6) H.size) (cwV 1 hts gL_law_X6_keep rfl rfl rfl (by decide +kernel) ⟨Nat.le_of_ble_eq_true rfl, Nat.le_of_ble_eq_true rfl⟩) (z_wpreV (ci := 6) (q := (RX6, TX6, 13)) (q0 := 0) (zP_left hP) hK.1 (z_any (zD_left hD)) rfl rfl) rfl rfl hl.1 rfl (lv_room (Nat.le_of_ble_eq_true rfl)) dL_law_911 ⟨Nat.le_of_ble_eq_true rfl, Nat.le_of_ble_eq_true rfl⟩) hP hD hS hA (MW g r S) (List.Perm.refl _) rfl (List.Perm.refl _) (fun H locs hP hD hS => ?_)
  show W p l e room_1 s m #[Value.ref b] below meth c H locs 140 1238 (lw_Z below #[Value.ref b] s) (F0 m 914 ls [.int rr])
  refine lv_aload_n hx hb dL_law_914 rfl (lv_at hl 1 rfl) ?_
  refine lv_aload_n hx hb dL_law_915 rfl (lv_at hl 3 rfl) ?_
  refine lv_iload_n hx hb dL_law_916 rfl (lv_at hl 0 rfl) ?_
  refine lv_iconst (v := 1) hx hb dL_law_917 (by decide) ?_
  refine lv_iadd hx hb dL_law_918 ?_
  rw [show nI (5 * k) + 1 = nI (5 * k + 1) from nI_add (5 * k) 1]
  refine va_sld hx hb hX hbl hbA hS (vp_in_nI (n := 5 * k + 1) (N := L) (by omega) (by omega)) dL_law_919 ?_
  rw [nI_clamp (n := 5 * k + 1) (by omega)]
  refine z_wgoP (wn := CW g q C2 ++ MW g r S2) (va_runV (As := [.int (xs (5 * k + 1))]) (rest := [.int rr]) ⟨hx, hb, hml, hown, hts⟩ ((c7_keep l g r S (xs (5 * k + 1)) rr S2 h7) H.size) (cwV 1 hts gL_law_X7_keep rfl rfl rfl (by decide +kernel) ⟨Nat.le_of_ble_eq_true rfl, Nat.le_of_ble_eq_true rfl⟩) (z_wpreV (ci := 7) (q := (RX7, TX7, 37)) (q0 := 0) (zP_right hP) hK.1 (z_any (zD_right hD)) rfl rfl) rfl rfl hl.1 rfl (lv_room (Nat.le_of_ble_eq_true rfl)) dL_law_920 ⟨Nat.le_of_ble_eq_true rfl, Nat.le_of_ble_eq_true rfl⟩) hP hD hS hA (CW g q C2) List.perm_append_comm rfl List.perm_append_comm (fun H locs hP hD hS => ?_)
  show W p l e room_1 s m #[Value.ref b] below meth c H locs 140 1238 (lw_Z below #[Value.ref b] s) (F0 m 923 ls [.int rr, .int rr])
  refine lv_icmp_eq (tgt := 974) hx hb dL_law_923 (by decide) (fun c1 => ?_) (fun c1 => absurd rfl c1)
  exact hN C2 S2 H locs ls hR2 hP hD hS hl
set_option maxHeartbeats 4000000 in
set_option maxRecDepth 100000 in
theorem lw_again {p : Program} {l : Launch} {e : Env} {s : State} {m : MethodId} {below : List Frame} {meth : Method} {c : Code} {b L : Nat} {xs : Nat → Int32} {g : zG} {q r : Nat → Nat} {t : Nat} (hL : L ≤ 320) (hx : p.tables.exec = Jvm.exec) (hb : c.code = cL_law) (hml : c.maxLocals = 4) (hown : s.vm.findClass RL = some m.cls) (hts : ∀ w ∈ wsL_law, w.before #[Value.ref b] s = true) (hX : va_X b L xs s s.heap) (hbl : b < s.heap.size) (hK : zKc g s) (hZ : zFz t (fun q : Nat => s.heap.size ≤ q) s s.heap) (Rel : Nat → Cs → MS → Prop) (h_again : ∀ (k : Nat) (C : Cs) (S : MS) (x1 : Int32), k < 64 → Rel k C S → ∃ (r : Int32) (C2 : Cs) (S2 : MS), f6_again C x1 = some (r, C2) ∧ f7_again S x1 = some (r, S2) ∧ Rel (k + 1) C2 S2) (k : Nat) (hk : 5 * k + 5 ≤ L) (hk64 : k < 64) (hN : ∀ (C : Cs) (S : MS) (H : Heap) (locs : List Loc) (ls : Array Slot), Rel (k + 1) C S → va_P (zD g) vwCl (CW g q C ++ MW g r S) H → va_D (fun q : Nat => s.heap.size ≤ q) (CW g q C ++ MW g r S) → va_S (fun q : Nat => s.heap.size ≤ q) s.heap H locs → lv_has ls 4 [(3, .int (nI (5 * k))), (2, .ref (r 0)), (1, .ref (q 0)), (0, .ref b)] → W p l e room_1 s m #[Value.ref b] below meth c H locs 140 1238 (lw_Z below #[Value.ref b] s) (F0 m 974 ls [])) (C : Cs) (S : MS) (H : Heap) (locs : List Loc) (ls : Array Slot) (hR : Rel k C S) (hP : va_P (zD g) vwCl (CW g q C ++ MW g r S) H) (hD : va_D (fun q : Nat => s.heap.size ≤ q) (CW g q C ++ MW g r S)) (hS : va_S (fun q : Nat => s.heap.size ≤ q) s.heap H locs) (hl : lv_has ls 4 [(3, .int (nI (5 * k))), (2, .ref (r 0)), (1, .ref (q 0)), (0, .ref b)]) : W p l e room_1 s m #[Value.ref b] below meth c H locs 140 1238 (lw_Z below #[Value.ref b] s) (F0 m 928 ls []) := by
  have hA : ∀ q : Nat, s.heap.size ≤ q → (fun q : Nat => s.heap.size ≤ q) q := fun _ h => h
  have hbA : ¬ (fun q : Nat => s.heap.size ≤ q) b := Nat.not_le.mpr hbl
  refine lv_aload_n hx hb dL_law_928 rfl (lv_at hl 2 rfl) ?_
  refine lv_aload_n hx hb dL_law_929 rfl (lv_at hl 3 rfl) ?_
  refine lv_iload_n hx hb dL_law_930 rfl (lv_at hl 0 rfl) ?_
  refine lv_iconst (v := 1) hx hb dL_law_931 (by decide) ?_
  refine lv_iadd hx hb dL_law_932 ?_
  rw [show nI (5 * k) + 1 = nI (5 * k + 1) from nI_add (5 * k) 1]
  refine va_sld hx hb hX hbl hbA hS (vp_in_nI (n := 5 * k + 1) (N := L) (by omega) (by omega)) dL_law_933 ?_
  rw [nI_clamp (n := 5 * k + 1) (by omega)]
  obtain ⟨rr, C2, S2, h6, h7, hR2⟩ := h_again k C S (xs (5 * k + 1)) hk64 hR
  refine z_wgoP (wn := CW g q C2 ++ MW g r S) (va_runV (As := [.int (xs (5 * k + 1))]) (rest := []) ⟨hx, hb, hml, hown, hts⟩ ((c6_again l g q C (xs (5 * k + 1)) rr C2 h6) H.size) (cwV 1 hts gL_law_X6_again rfl rfl rfl (by decide +kernel) ⟨Nat.le_of_ble_eq_true rfl, Nat.le_of_ble_eq_true rfl⟩) (z_wpreV (ci := 6) (q := (RX6, TX6, 13)) (q0 := 0) (zP_left hP) hK.1 (z_any (zD_left hD)) rfl rfl) rfl rfl hl.1 rfl (lv_room (Nat.le_of_ble_eq_true rfl)) dL_law_934 ⟨Nat.le_of_ble_eq_true rfl, Nat.le_of_ble_eq_true rfl⟩) hP hD hS hA (MW g r S) (List.Perm.refl _) rfl (List.Perm.refl _) (fun H locs hP hD hS => ?_)
  show W p l e room_1 s m #[Value.ref b] below meth c H locs 140 1238 (lw_Z below #[Value.ref b] s) (F0 m 937 ls [.int rr])
  refine lv_aload_n hx hb dL_law_937 rfl (lv_at hl 1 rfl) ?_
  refine lv_aload_n hx hb dL_law_938 rfl (lv_at hl 3 rfl) ?_
  refine lv_iload_n hx hb dL_law_939 rfl (lv_at hl 0 rfl) ?_
  refine lv_iconst (v := 1) hx hb dL_law_940 (by decide) ?_
  refine lv_iadd hx hb dL_law_941 ?_
  rw [show nI (5 * k) + 1 = nI (5 * k + 1) from nI_add (5 * k) 1]
  refine va_sld hx hb hX hbl hbA hS (vp_in_nI (n := 5 * k + 1) (N := L) (by omega) (by omega)) dL_law_942 ?_
  rw [nI_clamp (n := 5 * k + 1) (by omega)]
  refine z_wgoP (wn := CW g q C2 ++ MW g r S2) (va_runV (As := [.int (xs (5 * k + 1))]) (rest := [.int rr]) ⟨hx, hb, hml, hown, hts⟩ ((c7_again l g r S (xs (5 * k + 1)) rr S2 h7) H.size) (cwV 1 hts gL_law_X7_again rfl rfl rfl (by decide +kernel) ⟨Nat.le_of_ble_eq_true rfl, Nat.le_of_ble_eq_true rfl⟩) (z_wpreV (ci := 7) (q := (RX7, TX7, 37)) (q0 := 0) (zP_right hP) hK.1 (z_any (zD_right hD)) rfl rfl) rfl rfl hl.1 rfl (lv_room (Nat.le_of_ble_eq_true rfl)) dL_law_943 ⟨Nat.le_of_ble_eq_true rfl, Nat.le_of_ble_eq_true rfl⟩) hP hD hS hA (CW g q C2) List.perm_append_comm rfl List.perm_append_comm (fun H locs hP hD hS => ?_)
  show W p l e room_1 s m #[Value.ref b] below meth c H locs 140 1238 (lw_Z below #[Value.ref b] s) (F0 m 946 ls [.int rr, .int rr])
  refine lv_icmp_eq (tgt := 974) hx hb dL_law_946 (by decide) (fun c1 => ?_) (fun c1 => absurd rfl c1)
  exact hN C2 S2 H locs ls hR2 hP hD hS hl
set_option maxHeartbeats 4000000 in
set_option maxRecDepth 100000 in
theorem lw_count {p : Program} {l : Launch} {e : Env} {s : State} {m : MethodId} {below : List Frame} {meth : Method} {c : Code} {b L : Nat} {xs : Nat → Int32} {g : zG} {q r : Nat → Nat} {t : Nat} (hL : L ≤ 320) (hx : p.tables.exec = Jvm.exec) (hb : c.code = cL_law) (hml : c.maxLocals = 4) (hown : s.vm.findClass RL = some m.cls) (hts : ∀ w ∈ wsL_law, w.before #[Value.ref b] s = true) (hX : va_X b L xs s s.heap) (hbl : b < s.heap.size) (hK : zKc g s) (hZ : zFz t (fun q : Nat => s.heap.size ≤ q) s s.heap) (Rel : Nat → Cs → MS → Prop) (h_count : ∀ (k : Nat) (C : Cs) (S : MS) (x1 : Int32), k < 64 → Rel k C S → ∃ r : Int32, f6_count C x1 = some r ∧ f7_count S x1 = some r ∧ Rel (k + 1) C S) (k : Nat) (hk : 5 * k + 5 ≤ L) (hk64 : k < 64) (hN : ∀ (C : Cs) (S : MS) (H : Heap) (locs : List Loc) (ls : Array Slot), Rel (k + 1) C S → va_P (zD g) vwCl (CW g q C ++ MW g r S) H → va_D (fun q : Nat => s.heap.size ≤ q) (CW g q C ++ MW g r S) → va_S (fun q : Nat => s.heap.size ≤ q) s.heap H locs → lv_has ls 4 [(3, .int (nI (5 * k))), (2, .ref (r 0)), (1, .ref (q 0)), (0, .ref b)] → W p l e room_1 s m #[Value.ref b] below meth c H locs 140 1238 (lw_Z below #[Value.ref b] s) (F0 m 974 ls [])) (C : Cs) (S : MS) (H : Heap) (locs : List Loc) (ls : Array Slot) (hR : Rel k C S) (hP : va_P (zD g) vwCl (CW g q C ++ MW g r S) H) (hD : va_D (fun q : Nat => s.heap.size ≤ q) (CW g q C ++ MW g r S)) (hS : va_S (fun q : Nat => s.heap.size ≤ q) s.heap H locs) (hl : lv_has ls 4 [(3, .int (nI (5 * k))), (2, .ref (r 0)), (1, .ref (q 0)), (0, .ref b)]) : W p l e room_1 s m #[Value.ref b] below meth c H locs 140 1238 (lw_Z below #[Value.ref b] s) (F0 m 951 ls []) := by
  have hA : ∀ q : Nat, s.heap.size ≤ q → (fun q : Nat => s.heap.size ≤ q) q := fun _ h => h
  have hbA : ¬ (fun q : Nat => s.heap.size ≤ q) b := Nat.not_le.mpr hbl
  refine lv_aload_n hx hb dL_law_951 rfl (lv_at hl 2 rfl) ?_
  refine lv_aload_n hx hb dL_law_952 rfl (lv_at hl 3 rfl) ?_
  refine lv_iload_n hx hb dL_law_953 rfl (lv_at hl 0 rfl) ?_
  refine lv_iconst (v := 1) hx hb dL_law_954 (by decide) ?_
  refine lv_iadd hx hb dL_law_955 ?_
  rw [show nI (5 * k) + 1 = nI (5 * k + 1) from nI_add (5 * k) 1]
  refine va_sld hx hb hX hbl hbA hS (vp_in_nI (n := 5 * k + 1) (N := L) (by omega) (by omega)) dL_law_956 ?_
  rw [nI_clamp (n := 5 * k + 1) (by omega)]
  obtain ⟨rr, h6, h7, hR2⟩ := h_count k C S (xs (5 * k + 1)) hk64 hR
  refine z_rgo (va_runV (As := [.int (xs (5 * k + 1))]) (rest := []) ⟨hx, hb, hml, hown, hts⟩ (c6_count l g q C (xs (5 * k + 1)) rr h6) (cwV 1 hts gL_law_X6_count rfl rfl rfl (by decide +kernel) ⟨Nat.le_of_ble_eq_true rfl, Nat.le_of_ble_eq_true rfl⟩) (z_rpreV (ci := 6) (q := (RX6, TX6, 13)) (q0 := 0) (zP_left hP) hK.1 rfl rfl) rfl rfl hl.1 rfl (lv_room (Nat.le_of_ble_eq_true rfl)) dL_law_957 ⟨Nat.le_of_ble_eq_true rfl, Nat.le_of_ble_eq_true rfl⟩) ?_
  refine lv_aload_n hx hb dL_law_960 rfl (lv_at hl 1 rfl) ?_
  refine lv_aload_n hx hb dL_law_961 rfl (lv_at hl 3 rfl) ?_
  refine lv_iload_n hx hb dL_law_962 rfl (lv_at hl 0 rfl) ?_
  refine lv_iconst (v := 1) hx hb dL_law_963 (by decide) ?_
  refine lv_iadd hx hb dL_law_964 ?_
  rw [show nI (5 * k) + 1 = nI (5 * k + 1) from nI_add (5 * k) 1]
  refine va_sld hx hb hX hbl hbA hS (vp_in_nI (n := 5 * k + 1) (N := L) (by omega) (by omega)) dL_law_965 ?_
  rw [nI_clamp (n := 5 * k + 1) (by omega)]
  refine z_rgo (va_runV (As := [.int (xs (5 * k + 1))]) (rest := [.int rr]) ⟨hx, hb, hml, hown, hts⟩ (c7_count l g r S (xs (5 * k + 1)) rr h7) (cwV 1 hts gL_law_X7_count rfl rfl rfl (by decide +kernel) ⟨Nat.le_of_ble_eq_true rfl, Nat.le_of_ble_eq_true rfl⟩) (z_rpreV (ci := 7) (q := (RX7, TX7, 37)) (q0 := 0) (zP_right hP) hK.1 rfl rfl) rfl rfl hl.1 rfl (lv_room (Nat.le_of_ble_eq_true rfl)) dL_law_966 ⟨Nat.le_of_ble_eq_true rfl, Nat.le_of_ble_eq_true rfl⟩) ?_
  refine lv_icmp_eq (tgt := 974) hx hb dL_law_969 (by decide) (fun c1 => ?_) (fun c1 => absurd rfl c1)
  exact hN C S H locs ls hR2 hP hD hS hl
theorem zlen {L k : Nat} (hL : L ≤ 320) (h1 : 5 * k ≤ L) (c : ¬ Int32.ofNat L - 5 < nI (5 * k)) : 5 * k + 5 ≤ L := by
  rcases Nat.lt_or_ge L (5 * k + 5) with h | h
  · exfalso
    apply c
    have e5 : (5 : Int32) = nI 5 := rfl
    show nI L - 5 < nI (5 * k)
    rw [e5]
    rcases Nat.lt_or_ge L 5 with h2 | h2
    · have h3 := pk_sneg (a := L) (b := 5) (by decide) h2
      have h4 := nI_pos' (n := 5 * k) (by omega)
      rw [Int32.lt_iff_toInt_lt] at h3 ⊢
      rw [Int32.le_iff_toInt_le] at h4
      omega
    · rw [pk_sub h2]
      exact nI_lt (by omega) (by omega)
  · exact h
set_option maxHeartbeats 4000000 in
set_option maxRecDepth 100000 in
theorem lw_loop {p : Program} {l : Launch} {e : Env} {s : State} {m : MethodId} {below : List Frame} {meth : Method} {c : Code} {b L : Nat} {xs : Nat → Int32} {g : zG} {q r : Nat → Nat} {t : Nat} (hL : L ≤ 320) (hx : p.tables.exec = Jvm.exec) (hb : c.code = cL_law) (hml : c.maxLocals = 4) (hown : s.vm.findClass RL = some m.cls) (hts : ∀ w ∈ wsL_law, w.before #[Value.ref b] s = true) (hX : va_X b L xs s s.heap) (hbl : b < s.heap.size) (hK : zKc g s) (hZ : zFz t (fun q : Nat => s.heap.size ≤ q) s s.heap) (Rel : Nat → Cs → MS → Prop) (hr : meth.sig.returnType = ret) (hlocks : meth.locks = false) (h_mono : ∀ (k : Nat) (C : Cs) (S : MS), Rel k C S → Rel (k + 1) C S) (h_write : ∀ (k : Nat) (C : Cs) (S : MS) (x1 : Int32), k < 64 → Rel k C S → ∃ (r : Int32) (C2 : Cs) (S2 : MS), f6_write C x1 = some (r, C2) ∧ f7_write S x1 = some (r, S2) ∧ Rel (k + 1) C2 S2) (h_wipe : ∀ (k : Nat) (C : Cs) (S : MS), k < 64 → Rel k C S → ∃ (r : Int32) (C2 : Cs) (S2 : MS), f6_wipe C = some (r, C2) ∧ f7_wipe S = some (r, S2) ∧ Rel (k + 1) C2 S2) (h_fault : ∀ (k : Nat) (C : Cs) (S : MS), k < 64 → Rel k C S → ∃ (r : Int32) (C2 : Cs) (S2 : MS), f6_fault C = some (r, C2) ∧ f7_fault S = some (r, S2) ∧ Rel (k + 1) C2 S2) (h_net : ∀ (k : Nat) (C : Cs) (S : MS), k < 64 → Rel k C S → ∃ (r : Int32) (C2 : Cs) (S2 : MS), f6_net C = some (r, C2) ∧ f7_net S = some (r, S2) ∧ Rel (k + 1) C2 S2) (h_joint : ∀ (k : Nat) (C : Cs) (S : MS) (x1 : Int32) (x2 : Int32), k < 64 → Rel k C S → ∃ r : Int32, f6_joint C x1 x2 = some r ∧ f7_joint S x1 x2 = some r ∧ Rel (k + 1) C S) (h_pipe : ∀ (k : Nat) (C : Cs) (S : MS) (x1 : Int32) (x2 : Int32), k < 64 → Rel k C S → ∃ r : Int32, f6_pipe C x1 x2 = r ∧ f7_pipe S x1 x2 = some r ∧ Rel (k + 1) C S) (h_walker : ∀ (k : Nat) (C : Cs) (S : MS) (x1 : Int32) (x2 : Int32), k < 64 → Rel k C S → ∃ r : Int32, f6_walker C x1 x2 = some r ∧ f7_walker S x1 x2 = some r ∧ Rel (k + 1) C S) (h_step : ∀ (k : Nat) (C : Cs) (S : MS), k < 64 → Rel k C S → ∃ (r : Int32) (C2 : Cs) (S2 : MS), f6_step C = some (r, C2) ∧ f7_step S = some (r, S2) ∧ Rel (k + 1) C2 S2) (h_shut : ∀ (k : Nat) (C : Cs) (S : MS) (x1 : Int32), k < 64 → Rel k C S → ∃ (r : Int32) (C2 : Cs) (S2 : MS), f6_shut C x1 = some (r, C2) ∧ f7_shut S x1 = some (r, S2) ∧ Rel (k + 1) C2 S2) (h_seal : ∀ (k : Nat) (C : Cs) (S : MS) (x1 : Int32), k < 64 → Rel k C S → ∃ (r : Int32) (C2 : Cs) (S2 : MS), f6_seal C x1 = some (r, C2) ∧ f7_seal S x1 = some (r, S2) ∧ Rel (k + 1) C2 S2) (h_call : ∀ (k : Nat) (C : Cs) (S : MS) (x1 : Int32), k < 64 → Rel k C S → ∃ (r : Int32) (C2 : Cs) (S2 : MS), f6_call C x1 = some (r, C2) ∧ f7_call S x1 = some (r, S2) ∧ Rel (k + 1) C2 S2) (h_undo : ∀ (k : Nat) (C : Cs) (S : MS), k < 64 → Rel k C S → ∃ (r : Int32) (C2 : Cs) (S2 : MS), f6_undo C = some (r, C2) ∧ f7_undo S = some (r, S2) ∧ Rel (k + 1) C2 S2) (h_ahead : ∀ (k : Nat) (C : Cs) (S : MS) (x1 : Int32) (x2 : Int32), k < 64 → Rel k C S → ∃ (r : Int32) (C2 : Cs) (S2 : MS), f6_ahead C x1 x2 = some (r, C2) ∧ f7_ahead S x1 x2 = some (r, S2) ∧ Rel (k + 1) C2 S2) (h_comes : ∀ (k : Nat) (C : Cs) (S : MS) (x1 : Int32) (x2 : Int32), k < 64 → Rel k C S → ∃ (r : Int32) (C2 : Cs) (S2 : MS), f6_comes C x1 x2 = some (r, C2) ∧ f7_comes S x1 x2 = some (r, S2) ∧ Rel (k + 1) C2 S2) (h_way : ∀ (k : Nat) (C : Cs) (S : MS) (x1 : Int32) (x2 : Int32), k < 64 → Rel k C S → ∃ r : Int32, f6_way C x1 x2 = some r ∧ f7_way S x1 x2 = some r ∧ Rel (k + 1) C S) (h_mend : ∀ (k : Nat) (C : Cs) (S : MS) (x1 : Int32), k < 64 → Rel k C S → ∃ (r : Int32) (C2 : Cs) (S2 : MS), f6_mend C x1 = some (r, C2) ∧ f7_mend S x1 = some (r, S2) ∧ Rel (k + 1) C2 S2) (h_watch : ∀ (k : Nat) (C : Cs) (S : MS), k < 64 → Rel k C S → ∃ (r : Int32) (C2 : Cs) (S2 : MS), f6_watch C = some (r, C2) ∧ f7_watch S = some (r, S2) ∧ Rel (k + 1) C2 S2) (h_judge : ∀ (k : Nat) (C : Cs) (S : MS) (x1 : Int32) (x2 : Int32), k < 64 → Rel k C S → ∃ (r : Int32) (C2 : Cs) (S2 : MS), f6_judge C x1 x2 = some (r, C2) ∧ f7_judge S x1 x2 = some (r, S2) ∧ Rel (k + 1) C2 S2) (h_hear : ∀ (k : Nat) (C : Cs) (S : MS) (x1 : Int32) (x2 : Int32) (x3 : Int32), k < 64 → Rel k C S → ∃ (r : Int32) (C2 : Cs) (S2 : MS), f6_hear C x1 x2 x3 = some (r, C2) ∧ f7_hear S x1 x2 x3 = some (r, S2) ∧ Rel (k + 1) C2 S2) (h_unhear : ∀ (k : Nat) (C : Cs) (S : MS), k < 64 → Rel k C S → ∃ (r : Int32) (C2 : Cs) (S2 : MS), f6_unhear C = some (r, C2) ∧ f7_unhear S = some (r, S2) ∧ Rel (k + 1) C2 S2) (h_turning : ∀ (k : Nat) (C : Cs) (S : MS) (x1 : Int32), k < 64 → Rel k C S → ∃ (r : Int32) (C2 : Cs) (S2 : MS), f6_turning C x1 = some (r, C2) ∧ f7_turning S x1 = some (r, S2) ∧ Rel (k + 1) C2 S2) (h_share : ∀ (k : Nat) (C : Cs) (S : MS) (x1 : Int32) (x2 : Int32), k < 64 → Rel k C S → ∃ (r : Int32) (C2 : Cs) (S2 : MS), f6_share C x1 x2 = some (r, C2) ∧ f7_share S x1 x2 = some (r, S2) ∧ Rel (k + 1) C2 S2) (h_rests : ∀ (k : Nat) (C : Cs) (S : MS) (x1 : Int32) (x2 : Int32) (x3 : Int32), k < 64 → Rel k C S → ∃ (r : Int32) (C2 : Cs) (S2 : MS), f6_rests C x1 x2 x3 = some (r, C2) ∧ f7_rests S x1 x2 x3 = some (r, S2) ∧ Rel (k + 1) C2 S2) (h_flood : ∀ (k : Nat) (C : Cs) (S : MS) (x1 : Int32) (x2 : Int32) (x3 : Int32) (x4 : Int32), k < 64 → Rel k C S → ∃ (r : Int32) (C2 : Cs) (S2 : MS), f6_flood C x1 x2 x3 x4 = some (r, C2) ∧ f7_flood S x1 x2 x3 x4 = some (r, S2) ∧ Rel (k + 1) C2 S2) (h_seed : ∀ (k : Nat) (C : Cs) (S : MS) (x1 : Int64), k < 64 → Rel k C S → ∃ (r : Int64) (C2 : Cs) (S2 : MS), f6_seed C x1 = some (r, C2) ∧ f7_seed S x1 = some (r, S2) ∧ Rel (k + 1) C2 S2) (h_years : ∀ (k : Nat) (C : Cs) (S : MS) (x1 : Int32), k < 64 → Rel k C S → ∃ (r : Int32) (C2 : Cs) (S2 : MS), f6_years C x1 = some (r, C2) ∧ f7_years S x1 = some (r, S2) ∧ Rel (k + 1) C2 S2) (h_keep : ∀ (k : Nat) (C : Cs) (S : MS) (x1 : Int32), k < 64 → Rel k C S → ∃ (r : Int32) (C2 : Cs) (S2 : MS), f6_keep C x1 = some (r, C2) ∧ f7_keep S x1 = some (r, S2) ∧ Rel (k + 1) C2 S2) (h_again : ∀ (k : Nat) (C : Cs) (S : MS) (x1 : Int32), k < 64 → Rel k C S → ∃ (r : Int32) (C2 : Cs) (S2 : MS), f6_again C x1 = some (r, C2) ∧ f7_again S x1 = some (r, S2) ∧ Rel (k + 1) C2 S2) (h_count : ∀ (k : Nat) (C : Cs) (S : MS) (x1 : Int32), k < 64 → Rel k C S → ∃ r : Int32, f6_count C x1 = some r ∧ f7_count S x1 = some r ∧ Rel (k + 1) C S) : ∀ (n k : Nat) (C : Cs) (S : MS) (H : Heap) (locs : List Loc) (ls : Array Slot), 5 * k ≤ L → L < 5 * k + 5 * n → Rel k C S → va_P (zD g) vwCl (CW g q C ++ MW g r S) H → va_D (fun q : Nat => s.heap.size ≤ q) (CW g q C ++ MW g r S) → va_S (fun q : Nat => s.heap.size ≤ q) s.heap H locs → lv_has ls 4 [(3, .int (nI (5 * k))), (2, .ref (r 0)), (1, .ref (q 0)), (0, .ref b)] → W p l e room_1 s m #[Value.ref b] below meth c H locs 140 1238 (lw_Z below #[Value.ref b] s) (F0 m 18 ls []) := by
  have hbA : ¬ (fun q : Nat => s.heap.size ≤ q) b := Nat.not_le.mpr hbl
  intro n
  induction n with
  | zero =>
    intro k C S H locs ls h1 h2
    exact absurd h2 (by omega)
  | succ n ih =>
    intro k C S H locs ls h1 h2 hR hP hD hS hl
    refine lv_iload_n hx hb dL_law_18 rfl (lv_at hl 0 rfl) ?_
    refine lv_aload_n hx hb dL_law_19 rfl (lv_at hl 3 rfl) ?_
    refine va_slen hx hb hX hbl hbA hS dL_law_20 ?_
    refine lv_iconst (v := 5) hx hb dL_law_21 (by decide) ?_
    refine lv_isub hx hb dL_law_22 ?_
    refine lv_icmp_gt (tgt := 980) hx hb dL_law_23 (by decide) (fun c0 => ?_) (fun c0 => ?_)
    · refine lv_iconst (v := 1) hx hb dL_law_980 (by decide) ?_
      refine va_forget (fun q hq => hS.2.2 q hq) ?_
      refine W.widen (k := 600000) (n := 7302250) (by decide) (by decide) ?_
      exact lw_ret hx hb hr hlocks dL_law_981
    · have hk5 : 5 * k + 5 ≤ L := by
        exact zlen hL h1 c0
      refine lv_aload_n hx hb dL_law_26 rfl (lv_at hl 3 rfl) ?_
      refine lv_iload_n hx hb dL_law_27 rfl (lv_at hl 0 rfl) ?_
      refine va_sld hx hb hX hbl hbA hS (vp_in_nI (n := 5 * k) (N := L) (by omega) (by omega)) dL_law_28 ?_
      rw [nI_clamp (n := 5 * k) (by omega)]
      refine lv_bipush (v := 31) hx hb dL_law_29 (by decide) ?_
      refine lv_iand hx hb dL_law_31 ?_
      have hN : ∀ (C : Cs) (S : MS) (H : Heap) (locs : List Loc) (ls : Array Slot), Rel (k + 1) C S → va_P (zD g) vwCl (CW g q C ++ MW g r S) H → va_D (fun q : Nat => s.heap.size ≤ q) (CW g q C ++ MW g r S) → va_S (fun q : Nat => s.heap.size ≤ q) s.heap H locs → lv_has ls 4 [(3, .int (nI (5 * k))), (2, .ref (r 0)), (1, .ref (q 0)), (0, .ref b)] → W p l e room_1 s m #[Value.ref b] below meth c H locs 140 1238 (lw_Z below #[Value.ref b] s) (F0 m 974 ls []) := by
        intro C S H locs ls hR hP hD hS hl
        refine lv_iinc (v := nI (5 * (k + 1))) (lv' := [(3, .int (nI (5 * (k + 1)))), (2, .ref (r 0)), (1, .ref (q 0)), (0, .ref b)]) hx hb dL_law_974 hl (k := 0) rfl (nI_add (5 * k) 5) (by decide) rfl (fun ls hl => ?_)
        refine lv_goto (tgt := 18) hx hb dL_law_977 (by decide) ?_
        exact ih (k + 1) C S H locs ls (by omega) (by omega) hR hP hD hS hl
      by_cases c1 : xs (5 * k) &&& 31 = 0
      · refine z_tin (k := 0) (tgt := 164) hx hb dL_law_32 c1 ⟨by decide, by decide, rfl, by decide⟩ ?_
        exact lw_write hL hx hb hml hown hts hX hbl hK hZ Rel h_write k hk5 (by omega) hN C S H locs ls hR hP hD hS hl
      by_cases c2 : xs (5 * k) &&& 31 = 1
      · refine z_tin (k := 1) (tgt := 187) hx hb dL_law_32 c2 ⟨by decide, by decide, rfl, by decide⟩ ?_
        exact lw_wipe hL hx hb hml hown hts hX hbl hK hZ Rel h_wipe k hk5 (by omega) hN C S H locs ls hR hP hD hS hl
      by_cases c3 : xs (5 * k) &&& 31 = 2
      · refine z_tin (k := 2) (tgt := 200) hx hb dL_law_32 c3 ⟨by decide, by decide, rfl, by decide⟩ ?_
        exact lw_fault hL hx hb hml hown hts hX hbl hK hZ Rel h_fault k hk5 (by omega) hN C S H locs ls hR hP hD hS hl
      by_cases c4 : xs (5 * k) &&& 31 = 3
      · refine z_tin (k := 3) (tgt := 213) hx hb dL_law_32 c4 ⟨by decide, by decide, rfl, by decide⟩ ?_
        exact lw_net hL hx hb hml hown hts hX hbl hK hZ Rel h_net k hk5 (by omega) hN C S H locs ls hR hP hD hS hl
      by_cases c5 : xs (5 * k) &&& 31 = 4
      · refine z_tin (k := 4) (tgt := 226) hx hb dL_law_32 c5 ⟨by decide, by decide, rfl, by decide⟩ ?_
        exact lw_joint hL hx hb hml hown hts hX hbl hK hZ Rel h_joint k hk5 (by omega) hN C S H locs ls hR hP hD hS hl
      by_cases c6 : xs (5 * k) &&& 31 = 5
      · refine z_tin (k := 5) (tgt := 259) hx hb dL_law_32 c6 ⟨by decide, by decide, rfl, by decide⟩ ?_
        exact lw_pipe hL hx hb hml hown hts hX hbl hK hZ Rel h_pipe k hk5 (by omega) hN C S H locs ls hR hP hD hS hl
      by_cases c7 : xs (5 * k) &&& 31 = 6
      · refine z_tin (k := 6) (tgt := 292) hx hb dL_law_32 c7 ⟨by decide, by decide, rfl, by decide⟩ ?_
        exact lw_walker hL hx hb hml hown hts hX hbl hK hZ Rel h_walker k hk5 (by omega) hN C S H locs ls hR hP hD hS hl
      by_cases c8 : xs (5 * k) &&& 31 = 7
      · refine z_tin (k := 7) (tgt := 325) hx hb dL_law_32 c8 ⟨by decide, by decide, rfl, by decide⟩ ?_
        exact lw_step hL hx hb hml hown hts hX hbl hK hZ Rel h_step k hk5 (by omega) hN C S H locs ls hR hP hD hS hl
      by_cases c9 : xs (5 * k) &&& 31 = 8
      · refine z_tin (k := 8) (tgt := 338) hx hb dL_law_32 c9 ⟨by decide, by decide, rfl, by decide⟩ ?_
        exact lw_shut hL hx hb hml hown hts hX hbl hK hZ Rel h_shut k hk5 (by omega) hN C S H locs ls hR hP hD hS hl
      by_cases c10 : xs (5 * k) &&& 31 = 9
      · refine z_tin (k := 9) (tgt := 361) hx hb dL_law_32 c10 ⟨by decide, by decide, rfl, by decide⟩ ?_
        exact lw_seal hL hx hb hml hown hts hX hbl hK hZ Rel h_seal k hk5 (by omega) hN C S H locs ls hR hP hD hS hl
      by_cases c11 : xs (5 * k) &&& 31 = 10
      · refine z_tin (k := 10) (tgt := 384) hx hb dL_law_32 c11 ⟨by decide, by decide, rfl, by decide⟩ ?_
        exact lw_call hL hx hb hml hown hts hX hbl hK hZ Rel h_call k hk5 (by omega) hN C S H locs ls hR hP hD hS hl
      by_cases c12 : xs (5 * k) &&& 31 = 11
      · refine z_tin (k := 11) (tgt := 407) hx hb dL_law_32 c12 ⟨by decide, by decide, rfl, by decide⟩ ?_
        exact lw_undo hL hx hb hml hown hts hX hbl hK hZ Rel h_undo k hk5 (by omega) hN C S H locs ls hR hP hD hS hl
      by_cases c13 : xs (5 * k) &&& 31 = 12
      · refine z_tin (k := 12) (tgt := 420) hx hb dL_law_32 c13 ⟨by decide, by decide, rfl, by decide⟩ ?_
        exact lw_ahead hL hx hb hml hown hts hX hbl hK hZ Rel h_ahead k hk5 (by omega) hN C S H locs ls hR hP hD hS hl
      by_cases c14 : xs (5 * k) &&& 31 = 13
      · refine z_tin (k := 13) (tgt := 453) hx hb dL_law_32 c14 ⟨by decide, by decide, rfl, by decide⟩ ?_
        exact lw_comes hL hx hb hml hown hts hX hbl hK hZ Rel h_comes k hk5 (by omega) hN C S H locs ls hR hP hD hS hl
      by_cases c15 : xs (5 * k) &&& 31 = 14
      · refine z_tin (k := 14) (tgt := 486) hx hb dL_law_32 c15 ⟨by decide, by decide, rfl, by decide⟩ ?_
        exact lw_way hL hx hb hml hown hts hX hbl hK hZ Rel h_way k hk5 (by omega) hN C S H locs ls hR hP hD hS hl
      by_cases c16 : xs (5 * k) &&& 31 = 15
      · refine z_tin (k := 15) (tgt := 519) hx hb dL_law_32 c16 ⟨by decide, by decide, rfl, by decide⟩ ?_
        exact lw_mend hL hx hb hml hown hts hX hbl hK hZ Rel h_mend k hk5 (by omega) hN C S H locs ls hR hP hD hS hl
      by_cases c17 : xs (5 * k) &&& 31 = 16
      · refine z_tin (k := 16) (tgt := 542) hx hb dL_law_32 c17 ⟨by decide, by decide, rfl, by decide⟩ ?_
        exact lw_watch hL hx hb hml hown hts hX hbl hK hZ Rel h_watch k hk5 (by omega) hN C S H locs ls hR hP hD hS hl
      by_cases c18 : xs (5 * k) &&& 31 = 17
      · refine z_tin (k := 17) (tgt := 555) hx hb dL_law_32 c18 ⟨by decide, by decide, rfl, by decide⟩ ?_
        exact lw_judge hL hx hb hml hown hts hX hbl hK hZ Rel h_judge k hk5 (by omega) hN C S H locs ls hR hP hD hS hl
      by_cases c19 : xs (5 * k) &&& 31 = 18
      · refine z_tin (k := 18) (tgt := 588) hx hb dL_law_32 c19 ⟨by decide, by decide, rfl, by decide⟩ ?_
        exact lw_hear hL hx hb hml hown hts hX hbl hK hZ Rel h_hear k hk5 (by omega) hN C S H locs ls hR hP hD hS hl
      by_cases c20 : xs (5 * k) &&& 31 = 19
      · refine z_tin (k := 19) (tgt := 631) hx hb dL_law_32 c20 ⟨by decide, by decide, rfl, by decide⟩ ?_
        exact lw_unhear hL hx hb hml hown hts hX hbl hK hZ Rel h_unhear k hk5 (by omega) hN C S H locs ls hR hP hD hS hl
      by_cases c21 : xs (5 * k) &&& 31 = 20
      · refine z_tin (k := 20) (tgt := 644) hx hb dL_law_32 c21 ⟨by decide, by decide, rfl, by decide⟩ ?_
        exact lw_turning hL hx hb hml hown hts hX hbl hK hZ Rel h_turning k hk5 (by omega) hN C S H locs ls hR hP hD hS hl
      by_cases c22 : xs (5 * k) &&& 31 = 21
      · refine z_tin (k := 21) (tgt := 667) hx hb dL_law_32 c22 ⟨by decide, by decide, rfl, by decide⟩ ?_
        exact lw_share hL hx hb hml hown hts hX hbl hK hZ Rel h_share k hk5 (by omega) hN C S H locs ls hR hP hD hS hl
      by_cases c23 : xs (5 * k) &&& 31 = 22
      · refine z_tin (k := 22) (tgt := 716) hx hb dL_law_32 c23 ⟨by decide, by decide, rfl, by decide⟩ ?_
        exact lw_rests hL hx hb hml hown hts hX hbl hK hZ Rel h_rests k hk5 (by omega) hN C S H locs ls hR hP hD hS hl
      by_cases c24 : xs (5 * k) &&& 31 = 23
      · refine z_tin (k := 23) (tgt := 759) hx hb dL_law_32 c24 ⟨by decide, by decide, rfl, by decide⟩ ?_
        exact lw_flood hL hx hb hml hown hts hX hbl hK hZ Rel h_flood k hk5 (by omega) hN C S H locs ls hR hP hD hS hl
      by_cases c25 : xs (5 * k) &&& 31 = 24
      · refine z_tin (k := 24) (tgt := 828) hx hb dL_law_32 c25 ⟨by decide, by decide, rfl, by decide⟩ ?_
        exact lw_seed hL hx hb hml hown hts hX hbl hK hZ Rel h_seed k hk5 (by omega) hN C S H locs ls hR hP hD hS hl
      by_cases c26 : xs (5 * k) &&& 31 = 25
      · refine z_tin (k := 25) (tgt := 882) hx hb dL_law_32 c26 ⟨by decide, by decide, rfl, by decide⟩ ?_
        exact lw_years hL hx hb hml hown hts hX hbl hK hZ Rel h_years k hk5 (by omega) hN C S H locs ls hR hP hD hS hl
      by_cases c27 : xs (5 * k) &&& 31 = 26
      · refine z_tin (k := 26) (tgt := 905) hx hb dL_law_32 c27 ⟨by decide, by decide, rfl, by decide⟩ ?_
        exact lw_keep hL hx hb hml hown hts hX hbl hK hZ Rel h_keep k hk5 (by omega) hN C S H locs ls hR hP hD hS hl
      by_cases c28 : xs (5 * k) &&& 31 = 27
      · refine z_tin (k := 27) (tgt := 928) hx hb dL_law_32 c28 ⟨by decide, by decide, rfl, by decide⟩ ?_
        exact lw_again hL hx hb hml hown hts hX hbl hK hZ Rel h_again k hk5 (by omega) hN C S H locs ls hR hP hD hS hl
      by_cases c29 : xs (5 * k) &&& 31 = 28
      · refine z_tin (k := 28) (tgt := 951) hx hb dL_law_32 c29 ⟨by decide, by decide, rfl, by decide⟩ ?_
        exact lw_count hL hx hb hml hown hts hX hbl hK hZ Rel h_count k hk5 (by omega) hN C S H locs ls hR hP hD hS hl
      refine z_tout hx hb dL_law_32 [0, 1, 2, 3, 4, 5, 6, 7, 8, 9, 10, 11, 12, 13, 14, 15, 16, 17, 18, 19, 20, 21, 22, 23, 24, 25, 26, 27, 28] (fun k9 hk9 => ?_) rfl (tgt := 974) (by decide) ?_
      · simp only [List.mem_cons, List.not_mem_nil, or_false] at hk9
        rcases hk9 with rfl | rfl | rfl | rfl | rfl | rfl | rfl | rfl | rfl | rfl | rfl | rfl | rfl | rfl | rfl | rfl | rfl | rfl | rfl | rfl | rfl | rfl | rfl | rfl | rfl | rfl | rfl | rfl | rfl <;> assumption
      · exact hN C S H locs ls (h_mono k C S hR) hP hD hS hl

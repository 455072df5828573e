/-! the static row FACTORIALS -/
def zFact (j : Nat) : Int32 := [1, 1, 2, 6, 24].getD j 0
def zFz (t : Nat) (A : Nat → Prop) (U : State) (H : Heap) : Prop := va_Z "ManholeBirths" "FACTORIALS" "[I" (.ref t) A U H ∧ va_T .int t 5 (fun j => .int (zFact j)) A U H
theorem zFz.at {t : Nat} {A : Nat → Prop} {s : State} {H : Heap} {locs : List Loc} (h : zFz t A s s.heap) (hS : va_S A s.heap H locs) : zFz t A s H := ⟨h.1.kept hS.2.1, h.2.kept hS.2.1⟩
theorem zFz.warm {t : Nat} {A : Nat → Prop} {s U : State} {H : Heap} (hW : s.WarmedH U.vm) (h : zFz t A s H) : zFz t A U H := ⟨h.1.moved hW.alike, h.2.moved hW.alike⟩
theorem zFz.call {t : Nat} {A : Nat → Prop} {U : State} {H : Heap} {f : JFrame} {mk : MethodId} {a : Array Value} (h : zFz t A U H) : zFz t A (U.calling f mk a) H := ⟨h.1.moved (u := U) (U := U.calling f mk a) (Vm.Alike.refl U.vm), h.2.moved (u := U) (U := U.calling f mk a) (Vm.Alike.refl U.vm)⟩
theorem zFz.narrow {t : Nat} {A B : Nat → Prop} {U : State} {H : Heap} (h : zFz t A U H) (hAB : ∀ q, B q → A q) : zFz t B U H := ⟨h.1.narrow hAB, h.2.narrow hAB⟩
def zROF (l : Launch) (g : zG) (t : Nat) (y : MethodName) (wy : List Cond) (rm : Room) (as : List Value) (W0 : va_W) (v : Option Value) : Prop :=
  Met l y wy rm (va_Pc as (fun U => va_P (zD g) vwCl W0 U.heap ∧ zK g U ∧ zFz t (fun _ => False) U U.heap)) (zRQ v) 0 0 (fun _ => False)
def zRWF (l : Launch) (g : zG) (t : Nat) (y : MethodName) (wy : List Cond) (rm : Room) (as : List Value) (W0 : va_W) (v : Option Value) (W1 : va_W) : Prop :=
  ∀ sz : Nat, Met l y wy rm (va_Pc as (fun U => U.heap.size = sz ∧ va_P (zD g) vwCl W0 U.heap ∧ zK g U ∧ va_D (fun _ => True) W0 ∧ zFz t (va_A W0 sz) U U.heap)) (zWQ g (va_A W0 sz) W1 v) 0 0 (va_A W0 sz)
theorem zROF_of {l : Launch} {g : zG} {t : Nat} {y : MethodName} {wy wy' : List Cond} {rm : Room} {as : List Value} {W0 : va_W} {v : Option Value} {cc : ByteArray} {maxL : Nat} {ret : Option FieldType} (hy : plainName y.cls = true) (hw : wy = Cond.code y cc maxL ret :: wy') (hn : (lg_sl as).length ≤ maxL)
    (body : ∀ (p : Program) (e : Env) (s : State) (m : MethodId) (args : Array Value) (below : List Frame) (meth : Method) (c : Code) (ls : Array Slot), p.tables.exec = Jvm.exec → c.code = cc → meth.sig.returnType = ret → c.maxLocals = maxL → (∀ w ∈ wy, w.before args s = true) → s.vm.findClass y.cls = some m.cls → meth.locks = false → zK g s → va_P (zD g) vwCl W0 s.heap → zFz t (fun _ => False) s s.heap → va_S (fun _ => False) s.heap s.heap [] → lv_has ls maxL (lv_args 0 as) →
      W p l e (headSpec wy rm).room s m args below meth c s.heap [] 0 0 (MQ below (zRQ v) args s 0 0 (fun _ => False)) (F0 m 0 ls [])) : zROF l g t y wy rm as W0 v := by
  refine Met.ofW (cc := cc) (maxL := maxL) (ret := ret) hy hw ?_
  intro p e s m args below meth c s₁ B hml hv
  obtain ⟨rfl, hP, hK, hZ⟩ := hv
  have hl := lv_entry as (n := maxL) hn
  have hts := atoms_spec (ws := wy) B.pre
  rw [lg_entry_eq]
  exact body p e s m as.toArray below meth c _ B.exec B.bytes B.returns hml hts (findClass_of_methodNamed B.named) B.notSynchronized hK hP hZ va_S.rf hl
theorem zRWF_of {l : Launch} {g : zG} {t : Nat} {y : MethodName} {wy wy' : List Cond} {rm : Room} {as : List Value} {W0 W1 : va_W} {v : Option Value} {cc : ByteArray} {maxL : Nat} {ret : Option FieldType} (hy : plainName y.cls = true) (hw : wy = Cond.code y cc maxL ret :: wy') (hn : (lg_sl as).length ≤ maxL)
    (body : ∀ (p : Program) (e : Env) (s : State) (m : MethodId) (args : Array Value) (below : List Frame) (meth : Method) (c : Code) (A : Nat → Prop) (H : Heap) (locs : List Loc) (ls : Array Slot), p.tables.exec = Jvm.exec → c.code = cc → meth.sig.returnType = ret → c.maxLocals = maxL → (∀ w ∈ wy, w.before args s = true) → s.vm.findClass y.cls = some m.cls → meth.locks = false → zK g s → (∀ q : Nat, s.heap.size ≤ q → A q) → va_P (zD g) vwCl W0 H → va_D A W0 → va_S A s.heap H locs → zFz t A s s.heap → lv_has ls maxL (lv_args 0 as) →
      W p l e (headSpec wy rm).room s m args below meth c H locs 0 0 (MQ below (zWQ g A W1 v) args s 0 0 A) (F0 m 0 ls [])) : zRWF l g t y wy rm as W0 v W1 := by
  intro sz
  refine Met.ofW (cc := cc) (maxL := maxL) (ret := ret) hy hw ?_
  intro p e s m args below meth c s₁ B hml hv
  obtain ⟨rfl, hsz, hP, hK, hD0, hZ⟩ := hv
  subst hsz
  have hl := lv_entry as (n := maxL) hn
  have hts := atoms_spec (ws := wy) B.pre
  have hD := hD0.self (sz := s.heap.size)
  rw [lg_entry_eq]
  exact body p e s m as.toArray below meth c _ s.heap [] _ B.exec B.bytes B.returns hml hts (findClass_of_methodNamed B.named) B.notSynchronized hK (fun q h => Or.inr h) hP hD va_S.rf hZ hl
theorem z_tpre {s : State} {H : Heap} {t : Nat} {A : Nat → Prop} {i : Int32} (hZ : zFz t A s H) : PreS s H (va_Pc [.ref t, .int i] (fun U => va_T .int t 5 (fun j => .int (zFact j)) (fun _ => False) U U.heap)) [.ref t, .int i] :=
  ⟨fun _ U f mk q => ⟨q.1, q.2.moved (u := U) (U := U.calling f mk _) (Vm.Alike.refl U.vm)⟩, fun U hU hW => ⟨rfl, by
    show va_T .int t 5 (fun j => .int (zFact j)) (fun _ => False) U U.heap
    rw [hU]
    exact (hZ.2.moved hW.alike).narrow (fun _ h => h.elim)⟩⟩
theorem z_rpreVF {s : State} {H : Heap} {g : zG} {t : Nat} {A : Nat → Prop} {W0 : va_W} {As : List Value} {b q0 ci : Nat} {q : vw_C} {fs : List Value} (hP : va_P (zD g) vwCl W0 H) (hK : zK g s) (hZ : zFz t A s H) (hc : vwCl[ci]? = some q) (he : W0[q0]? = some (b, .inr (ci, fs))) : PreV s H q.1 b (va_Pc (.ref b :: As) (fun U => va_P (zD g) vwCl W0 U.heap ∧ zK g U ∧ zFz t (fun _ => False) U U.heap)) As :=
  ⟨fun _ _ _ _ q => ⟨q.1, q.2.1, q.2.2.1.call, q.2.2.2.call⟩, va_recv hK.1 hP hc he, fun _ hU hW => ⟨rfl, by rw [hU]; exact hP, hK.warm hW, by rw [hU]; exact (hZ.warm hW).narrow (fun _ h => h.elim)⟩⟩
set_option maxHeartbeats 4000000 in
set_option maxRecDepth 100000 in
theorem c6_cellT (l : Launch) (t : Nat) (i : Int32) : Met l yX6_cell wsX6_cell zr0 (va_Pc [.ref t, .int i] (fun U => va_T .int t 5 (fun j => .int (zFact j)) (fun _ => False) U U.heap)) (zRQ (some (.int (f6_cell 5 zFact i)))) 0 0 (fun _ => False) := by
  refine Met.ofW (cc := cX6_cell) (maxL := 2) (ret := (some .int)) (by decide) rfl ?_
  intro p e s m args below meth c s₁ B hml hv
  obtain ⟨rfl, hT⟩ := hv
  have hx := B.exec
  have hb := B.bytes
  have hr := B.returns
  have hlk := B.notSynchronized
  have hS : va_S (fun _ => False) s.heap s.heap [] := va_S.rf
  have hl := lv_entry [.ref t, .int i] (n := 2) (Nat.le_of_ble_eq_true rfl)
  rw [lg_entry_eq]
  generalize (lg_sl [.ref t, .int i] ++ List.replicate (2 - (lg_sl [.ref t, .int i]).length) Slot.unset).toArray = ls at hl ⊢
  have hl : lv_has ls 2 [(0, .ref t), (1, .int i)] := hl
  unfold f6_cell
  refine lv_iload_n hx hb dX6_cell_0 rfl (lv_at hl 1 rfl) ?_
  refine lv_if_lt (tgt := 16) hx hb dX6_cell_1 (by decide) (fun c1 => ?_) (fun c1 => ?_)
  · refine lv_bipush (v := (-9)) hx hb dX6_cell_16 (by decide) ?_
    exact z_ri hx hb hr hlk (by rw [if_pos c1]) dX6_cell_18
  · refine lv_iload_n hx hb dX6_cell_4 rfl (lv_at hl 1 rfl) ?_
    refine lv_aload_n hx hb dX6_cell_5 rfl (lv_at hl 0 rfl) ?_
    refine va_tlen (v := nI 5) hx hb hT hS rfl dX6_cell_6 ?_
    refine lv_icmp_ge (tgt := 16) hx hb dX6_cell_7 (by decide) (fun c2 => ?_) (fun c2 => ?_)
    · refine lv_bipush (v := (-9)) hx hb dX6_cell_16 (by decide) ?_
      exact z_ri hx hb hr hlk (by rw [if_neg c1, if_pos c2]) dX6_cell_18
    · refine lv_aload_n hx hb dX6_cell_10 rfl (lv_at hl 0 rfl) ?_
      refine lv_iload_n hx hb dX6_cell_11 rfl (lv_at hl 1 rfl) ?_
      refine va_ti hx hb hT hS (z_inr (by decide) c1 c2) rfl dX6_cell_12 ?_
      refine lv_goto (tgt := 18) hx hb dX6_cell_13 (by decide) ?_
      exact z_ri hx hb hr hlk (by rw [if_neg c1, if_neg c2]) dX6_cell_18

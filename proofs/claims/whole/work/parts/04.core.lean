/-! core: what every method's walk stands on -/
abbrev zG : Type := (Nat → ClassId) × (Nat → Nat → Nat) × ClassId × ClassId × ClassId
def zD (g : zG) : va_G := (g.1, g.2.1)
def zT (g : zG) : List (ClassId × FieldType) := [(g.2.2.1, .int), (g.2.2.2.1, .boolean), (g.2.2.2.2, .object "ManholeBirths$Moment")]
def zNest : List (String × Nat × MethodName) := [(RX6, 9, yX1_init), (RX6, 18, yX4_init), (RX4, 11, yX3_init), (RX6, 33, yX2_init), (RX5, 17, yX2_init), (RX6, 60, yX0_init), (RX1, 19, yX6_put), (RX1, 23, yX6_cell), (RX3, 68, yX6_all), (RX3, 60, yX6_bit), (RX3, 75, yX6_has), (RX3, 64, yX6_cell), (RX4, 75, yX6_cell), (RX4, 79, yX6_has), (RX4, 51, yX6_put), (RX3, 56, yX6_put), (RX2, 29, yX6_cell), (RX2, 33, yX6_put), (RX2, 42, yX6_all), (RX2, 74, yX6_has), (RX2, 64, yX6_bit), (RX0, 25, yX6_put), (RX0, 29, yX6_cell)]
def zK (g : zG) (U : State) : Prop := va_K (zD g) vwCl (zT g) U ∧ ∀ w ∈ zNest, va_Nw (.methodLinkNest w.1 w.2.1 w.2.2 RX6) U
theorem zK.warm {g : zG} {s U : State} (hW : s.WarmedH U.vm) (h : zK g s) : zK g U := ⟨va_K.moved hW.alike h.1, fun w hw => va_Nw.warmM hW (h.2 w hw)⟩
theorem zK.call {g : zG} {U : State} {f : JFrame} {mk : MethodId} {a : Array Value} (h : zK g U) : zK g (U.calling f mk a) := ⟨va_K.moved (u := U) (U := U.calling f mk a) (Vm.Alike.refl U.vm) h.1, fun w hw => va_Nw.same rfl rfl (h.2 w hw)⟩
theorem zK.nest {g : zG} {U : State} (h : zK g U) (i : Nat) {a : String} {k : Nat} {y : MethodName} (hi : zNest[i]? = some (a, k, y)) : va_Nw (.methodLinkNest a k y RX6) U := h.2 (a, k, y) (List.mem_of_getElem? hi)
def zrd (f : Nat → Int32) (n : Nat) (i : Int32) : Option Int32 := if i < 0 ∨ n ≤ i.toNatClampNeg then none else some (f i.toNatClampNeg)
def zwr (f : Nat → Int32) (n : Nat) (i v : Int32) : Option (Nat → Int32) := if i < 0 ∨ n ≤ i.toNatClampNeg then none else some (upd f i.toNatClampNeg v)
def zdv (x y : Int32) : Option Int32 := if y = 0 then none else some (x / y)
def zrm (x y : Int32) : Option Int32 := if y = 0 then none else some (x - x / y * y)
def zrl (x y : Int64) : Option Int64 := if y = 0 then none else some (x - x / y * y)
def zbo (v : Int32) : Option Int32 := if v = 0 ∨ v = 1 then some v else none
def bd {α β : Type} (a : α) (k : α → β) : β := k a
theorem bd_eq {α β : Type} {a x : α} {k : α → β} {F : β} (e : x = a) (h : bd a k = F) : k x = F := by subst e; exact h
theorem zob {α β : Type} {o : Option α} {k : α → Option β} {F : β} (h : o.bind k = some F) : ∃ a, o = some a ∧ k a = some F := Option.bind_eq_some_iff.mp h
theorem zin {α : Type} {a b : α} (h : some a = some b) : a = b := Option.some.inj h
theorem zit {α : Sort _} {c : Prop} [Decidable c] {a b F : α} (hc : c) (h : (if c then a else b) = F) : a = F := by rw [if_pos hc] at h; exact h
theorem zif {α : Sort _} {c : Prop} [Decidable c] {a b F : α} (hc : ¬ c) (h : (if c then a else b) = F) : b = F := by rw [if_neg hc] at h; exact h
theorem zrd_in {f : Nat → Int32} {n : Nat} {i x : Int32} (h : zrd f n i = some x) : vp_in i n ∧ x = f i.toNatClampNeg := by
  unfold zrd at h
  by_cases hc : i < 0 ∨ n ≤ i.toNatClampNeg
  · rw [if_pos hc] at h; cases h
  · rw [if_neg hc] at h; exact ⟨hc, (zin h).symm⟩
theorem zwr_in {f f' : Nat → Int32} {n : Nat} {i v : Int32} (h : zwr f n i v = some f') : vp_in i n ∧ f' = upd f i.toNatClampNeg v := by
  unfold zwr at h
  by_cases hc : i < 0 ∨ n ≤ i.toNatClampNeg
  · rw [if_pos hc] at h; cases h
  · rw [if_neg hc] at h; exact ⟨hc, (zin h).symm⟩
theorem zdv_in {x y r : Int32} (h : zdv x y = some r) : ¬ y = 0 ∧ r = x / y := by
  unfold zdv at h
  by_cases hc : y = 0
  · rw [if_pos hc] at h; cases h
  · rw [if_neg hc] at h; exact ⟨hc, (zin h).symm⟩
theorem zrm_in {x y r : Int32} (h : zrm x y = some r) : ¬ y = 0 ∧ r = x - x / y * y := by
  unfold zrm at h
  by_cases hc : y = 0
  · rw [if_pos hc] at h; cases h
  · rw [if_neg hc] at h; exact ⟨hc, (zin h).symm⟩
theorem zrl_in {x y r : Int64} (h : zrl x y = some r) : ¬ y = 0 ∧ r = x - x / y * y := by
  unfold zrl at h
  by_cases hc : y = 0
  · rw [if_pos hc] at h; cases h
  · rw [if_neg hc] at h; exact ⟨hc, (zin h).symm⟩
theorem zbo_in {v r : Int32} (h : zbo v = some r) : narrow .boolean (.int r) = .int r := by
  unfold zbo at h
  by_cases hc : v = 0 ∨ v = 1
  · rw [if_pos hc] at h
    have e := zin h
    subst e
    rcases hc with rfl | rfl <;> rfl
  · rw [if_neg hc] at h; cases h
theorem zbo_eq {v r : Int32} (h : zbo v = some r) : r = v := by
  unfold zbo at h
  by_cases hc : v = 0 ∨ v = 1
  · rw [if_pos hc] at h; exact (zin h).symm
  · rw [if_neg hc] at h; cases h
/-- a method that only reads -/
def zRQ (v : Option Value) : Array Value → State → Outcome → State → Prop := fun _ st oc t => oc = .returned v ∧ t.heap = st.heap
def zRO (l : Launch) (g : zG) (y : MethodName) (wy : List Cond) (rm : Room) (as : List Value) (W0 : va_W) (v : Option Value) : Prop :=
  Met l y wy rm (va_Pc as (fun U => va_P (zD g) vwCl W0 U.heap ∧ zK g U)) (zRQ v) 0 0 (fun _ => False)
/-- a method that writes into its world -/
def zWQ (g : zG) (A : Nat → Prop) (W1 : va_W) (v : Option Value) : Array Value → State → Outcome → State → Prop := fun _ st oc t => oc = .returned v ∧ va_P (zD g) vwCl W1 t.heap ∧ va_D A W1 ∧ va_F A st t
def zRW (l : Launch) (g : zG) (y : MethodName) (wy : List Cond) (rm : Room) (as : List Value) (W0 : va_W) (v : Option Value) (W1 : va_W) : Prop :=
  ∀ sz : Nat, Met l y wy rm (va_Pc as (fun U => U.heap.size = sz ∧ va_P (zD g) vwCl W0 U.heap ∧ zK g U ∧ va_D (fun _ => True) W0)) (zWQ g (va_A W0 sz) W1 v) 0 0 (va_A W0 sz)
theorem zRO_of {l : Launch} {g : zG} {y : MethodName} {wy wy' : List Cond} {rm : Room} {as : List Value} {W0 : va_W} {v : Option Value} {cc : ByteArray} {maxL : Nat} {ret : Option FieldType} (hy : plainName y.cls = true) (hw : wy = Cond.code y cc maxL ret :: wy') (hn : (lg_sl as).length ≤ maxL)
    (body : ∀ (p : Program) (e : Env) (s : State) (m : MethodId) (args : Array Value) (below : List Frame) (meth : Method) (c : Code) (ls : Array Slot), p.tables.exec = Jvm.exec → c.code = cc → meth.sig.returnType = ret → c.maxLocals = maxL → (∀ w ∈ wy, w.before args s = true) → s.vm.findClass y.cls = some m.cls → meth.locks = false → zK g s → va_P (zD g) vwCl W0 s.heap → lv_has ls maxL (lv_args 0 as) →
      W p l e (headSpec wy rm).room s m args below meth c s.heap [] 0 0 (MQ below (zRQ v) args s 0 0 (fun _ => False)) (F0 m 0 ls [])) : zRO l g y wy rm as W0 v := by
  refine Met.ofW (cc := cc) (maxL := maxL) (ret := ret) hy hw ?_
  intro p e s m args below meth c s₁ B hml hv
  obtain ⟨rfl, hP, hK⟩ := hv
  have hl := lv_entry as (n := maxL) hn
  have hts := atoms_spec (ws := wy) B.pre
  rw [lg_entry_eq]
  exact body p e s m as.toArray below meth c _ B.exec B.bytes B.returns hml hts (findClass_of_methodNamed B.named) B.notSynchronized hK hP hl
theorem zRW_of {l : Launch} {g : zG} {y : MethodName} {wy wy' : List Cond} {rm : Room} {as : List Value} {W0 W1 : va_W} {v : Option Value} {cc : ByteArray} {maxL : Nat} {ret : Option FieldType} (hy : plainName y.cls = true) (hw : wy = Cond.code y cc maxL ret :: wy') (hn : (lg_sl as).length ≤ maxL)
    (body : ∀ (p : Program) (e : Env) (s : State) (m : MethodId) (args : Array Value) (below : List Frame) (meth : Method) (c : Code) (A : Nat → Prop) (H : Heap) (locs : List Loc) (ls : Array Slot), p.tables.exec = Jvm.exec → c.code = cc → meth.sig.returnType = ret → c.maxLocals = maxL → (∀ w ∈ wy, w.before args s = true) → s.vm.findClass y.cls = some m.cls → meth.locks = false → zK g s → (∀ q : Nat, s.heap.size ≤ q → A q) → va_P (zD g) vwCl W0 H → va_D A W0 → va_S A s.heap H locs → lv_has ls maxL (lv_args 0 as) →
      W p l e (headSpec wy rm).room s m args below meth c H locs 0 0 (MQ below (zWQ g A W1 v) args s 0 0 A) (F0 m 0 ls [])) : zRW l g y wy rm as W0 v W1 := by
  intro sz
  refine Met.ofW (cc := cc) (maxL := maxL) (ret := ret) hy hw ?_
  intro p e s m args below meth c s₁ B hml hv
  obtain ⟨rfl, hsz, hP, hK, hD0⟩ := hv
  subst hsz
  have hl := lv_entry as (n := maxL) hn
  have hts := atoms_spec (ws := wy) B.pre
  have hD := hD0.self (sz := s.heap.size)
  rw [lg_entry_eq]
  exact body p e s m as.toArray below meth c _ s.heap [] _ B.exec B.bytes B.returns hml hts (findClass_of_methodNamed B.named) B.notSynchronized hK (fun q h => Or.inr h) hP hD va_S.rf hl
/-- the cells of a world at some places, laid anew -/
def wput (ws : va_W) : List Nat → va_W → va_W
  | i :: is, c :: cs => wput (ws.set i c) is cs
  | _, _ => ws
theorem wput_get : ∀ (is : List Nat) (cs ws : va_W), is.length = cs.length → va_nd is = true → (∀ i ∈ is, i < ws.length) → ∀ (k : Nat) (q : Nat × va_E), (wput ws is cs)[k]? = some q → (∃ j : Nat, is[j]? = some k ∧ cs[j]? = some q) ∨ (k ∉ is ∧ ws[k]? = some q)
  | [], [], ws, _, _, _, k, q, h => Or.inr ⟨List.not_mem_nil, h⟩
  | [], _ :: _, ws, hl, _, _, k, q, h => by simp at hl
  | _ :: _, [], ws, hl, _, _, k, q, h => by simp at hl
  | i :: is, c :: cs, ws, hl, hn, hi, k, q, h => by
    simp only [va_nd, Bool.and_eq_true, decide_eq_true_eq] at hn
    have hi0 := hi i List.mem_cons_self
    rcases wput_get is cs (ws.set i c) (by simpa using hl) hn.2 (fun x hx => by rw [List.length_set]; exact hi x (List.mem_cons_of_mem _ hx)) k q h with ⟨j, h1, h2⟩ | ⟨h1, h2⟩
    · exact Or.inl ⟨j + 1, h1, h2⟩
    · by_cases hk : k = i
      · subst hk
        rw [List.getElem?_set_self hi0] at h2
        exact Or.inl ⟨0, rfl, h2⟩
      · rw [List.getElem?_set_ne (Ne.symm hk)] at h2
        exact Or.inr ⟨fun hm => (List.mem_cons.mp hm).elim hk h1, h2⟩
theorem zplace {is : List Nat} {ws w : va_W} (hs : is.map (fun i => ws[i]?) = w.map some) {j : Nat} {q : Nat × va_E} (hq : w[j]? = some q) : ∃ i, is[j]? = some i ∧ ws[i]? = some q := by
  have h1 : (is.map (fun i => ws[i]?))[j]? = some (some q) := by rw [hs, List.getElem?_map, hq]; rfl
  rw [List.getElem?_map] at h1
  cases hi : is[j]? with
  | none => rw [hi] at h1; cases h1
  | some i => rw [hi] at h1; exact ⟨i, rfl, Option.some.inj h1⟩
theorem zplace' {is : List Nat} {ws w : va_W} (hs : is.map (fun i => ws[i]?) = w.map some) {j i : Nat} (hi : is[j]? = some i) : ∃ q, w[j]? = some q ∧ ws[i]? = some q := by
  have h1 : (w.map some)[j]? = some (ws[i]?) := by rw [← hs, List.getElem?_map, hi]; rfl
  rw [List.getElem?_map] at h1
  cases hq : w[j]? with
  | none => rw [hq] at h1; cases h1
  | some q => rw [hq] at h1; exact ⟨q, rfl, (Option.some.inj h1).symm⟩
theorem zframe {A0 : Nat → Prop} {D : va_G} {cl : List vw_C} {ws wc w1 wn : va_W} {H H1 : Heap} (hP : va_P D cl ws H) (hD : va_D A0 ws) (is : List Nat) (hC : is.map (fun i => ws[i]?) = wc.map some) (hn : va_nd is = true) (ha : w1.map Prod.fst = wc.map Prod.fst) (hw : wput ws is w1 = wn)
    (hk : ∀ q : Nat, q < H.size → ¬ va_A wc H.size q → H1[q]? = H[q]?) (hP1 : va_P D cl w1 H1) : va_P D cl wn H1 ∧ va_D A0 wn := by
  subst hw
  have hlen : is.length = wc.length := by have := congrArg List.length hC; simpa using this
  have hlen1 : is.length = w1.length := by have := congrArg List.length ha; simp only [List.length_map] at this; omega
  have hlt : ∀ i ∈ is, i < ws.length := by
    intro i hi
    obtain ⟨j, hj⟩ := List.getElem?_of_mem hi
    obtain ⟨q, -, h2⟩ := zplace' hC hj
    exact (List.getElem?_eq_some_iff.mp h2).1
  have hg := wput_get is w1 ws hlen1 hn hlt
  have hadr : ∀ (j : Nat) (q1 q0 : Nat × va_E), w1[j]? = some q1 → wc[j]? = some q0 → q1.1 = q0.1 := by
    intro j q1 q0 h1 h0
    have e := congrArg (fun z => z[j]?) ha
    simp only [List.getElem?_map, h1, h0, Option.map_some] at e
    exact Option.some.inj e
  have key : ∀ (k : Nat) (q : Nat × va_E), (wput ws is w1)[k]? = some q → ∃ q0, ws[k]? = some q0 ∧ q0.1 = q.1 := by
    intro k q hq
    rcases hg k q hq with ⟨j, h1, h2⟩ | ⟨-, h2⟩
    · obtain ⟨q0, h3, h4⟩ := zplace' hC h1
      exact ⟨q0, h4, (hadr j q q0 h2 h3).symm⟩
    · exact ⟨q, h2, rfl⟩
  refine ⟨fun k q hq => ?_, ⟨?_, ?_⟩⟩
  · rcases hg k q hq with ⟨j, -, h2⟩ | ⟨h1, h2⟩
    · exact hP1 j q h2
    · refine (hP k q h2).kept (hk q.1 (hP k q h2).lt ?_)
      rintro (⟨k2, e, h⟩ | h)
      · obtain ⟨i, h3, h4⟩ := zplace hC h
        have := hD.1 k i q (q.1, e) h2 h4 rfl
        subst this
        exact h1 (List.mem_of_getElem? h3)
      · exact absurd (hP k q h2).lt (by omega)
  · intro i j x y hi hj hxy
    obtain ⟨x0, h1, h2⟩ := key i x hi
    obtain ⟨y0, h3, h4⟩ := key j y hj
    exact hD.1 i j x0 y0 h1 h3 (h2.trans (hxy.trans h4.symm))
  · intro k q hk
    obtain ⟨q0, h1, h2⟩ := key k q hk
    rw [← h2]
    exact hD.2 k q0 h1
section ZR
variable {p : Program} {l : Launch} {e : Env} {R : Room} {s : State} {m : MethodId} {args : Array Value} {below : List Frame} {meth : Method} {c : Code} {H : Heap} {locs : List Loc} {cells slots : Nat} {Q : State → Prop}
variable {cc : ByteArray} {pc : Nat} {ls : Array Slot} {rest st0 : List Value} {g : zG} {A : Nat → Prop} {a : Nat} {ws ws' : va_W} {H0 : Heap}
theorem z_iald (hexec : p.tables.exec = Jvm.exec) (hb : c.code = cc) (hK : zK g s) (hP : va_P (zD g) vwCl ws H) (q0 : Nat) {n : Nat} {f : Nat → Int32} (ha : ws[q0]? = some (a, .inl (g.2.2.1, n, .inl f))) {i x : Int32} (hr : zrd f n i = some x) (hdg : decode cc pc = .ok (.iaload, 1))
    (kk : W p l e R s m args below meth c H locs cells slots Q (F0 m (pc + 1) ls (.int x :: rest))) : W p l e R s m args below meth c H locs cells slots Q (F0 m pc ls (.int i :: .ref a :: rest)) := by
  obtain ⟨h1, h2⟩ := zrd_in hr
  subst h2
  exact va_iald hexec hb hK.1 hP q0 0 ha rfl h1 hdg kk
theorem z_zald (hexec : p.tables.exec = Jvm.exec) (hb : c.code = cc) (hK : zK g s) (hP : va_P (zD g) vwCl ws H) (q0 : Nat) {n : Nat} {f : Nat → Int32} (ha : ws[q0]? = some (a, .inl (g.2.2.2.1, n, .inl f))) {i x : Int32} (hr : zrd f n i = some x) (hdg : decode cc pc = .ok (.baload, 1))
    (kk : W p l e R s m args below meth c H locs cells slots Q (F0 m (pc + 1) ls (.int x :: rest))) : W p l e R s m args below meth c H locs cells slots Q (F0 m pc ls (.int i :: .ref a :: rest)) := by
  obtain ⟨h1, h2⟩ := zrd_in hr
  subst h2
  exact va_zald hexec hb hK.1 hP q0 1 ha rfl h1 hdg kk
theorem z_iast (hexec : p.tables.exec = Jvm.exec) (hb : c.code = cc) (hK : zK g s) (hP : va_P (zD g) vwCl ws H) (hD : va_D A ws) (hS : va_S A H0 H locs) (q0 : Nat) {n : Nat} {f f' : Nat → Int32} (ha : ws[q0]? = some (a, .inl (g.2.2.1, n, .inl f))) {i x : Int32} (hw : zwr f n i x = some f') (hn : ws.set q0 (a, .inl (g.2.2.1, n, .inl f')) = ws') (hdg : decode cc pc = .ok (.iastore, 1))
    (kk : ∀ (H1 : Heap) (locs1 : List Loc), va_P (zD g) vwCl ws' H1 → va_D A ws' → va_S A H0 H1 locs1 → W p l e R s m args below meth c H1 locs1 cells slots Q (F0 m (pc + 1) ls rest)) : W p l e R s m args below meth c H locs cells slots Q (F0 m pc ls (.int x :: .int i :: .ref a :: rest)) := by
  obtain ⟨h1, h2⟩ := zwr_in hw
  subst h2
  subst hn
  exact va_iast hexec hb hK.1 hP hD hS q0 0 ha rfl h1 hdg kk
theorem z_zast (hexec : p.tables.exec = Jvm.exec) (hb : c.code = cc) (hK : zK g s) (hP : va_P (zD g) vwCl ws H) (hD : va_D A ws) (hS : va_S A H0 H locs) (q0 : Nat) {n : Nat} {f f' : Nat → Int32} (ha : ws[q0]? = some (a, .inl (g.2.2.2.1, n, .inl f))) {i x : Int32} (hx : vp_nar .boolean x = x) (hw : zwr f n i x = some f') (hn : ws.set q0 (a, .inl (g.2.2.2.1, n, .inl f')) = ws') (hdg : decode cc pc = .ok (.bastore, 1))
    (kk : ∀ (H1 : Heap) (locs1 : List Loc), va_P (zD g) vwCl ws' H1 → va_D A ws' → va_S A H0 H1 locs1 → W p l e R s m args below meth c H1 locs1 cells slots Q (F0 m (pc + 1) ls rest)) : W p l e R s m args below meth c H locs cells slots Q (F0 m pc ls (.int x :: .int i :: .ref a :: rest)) := by
  obtain ⟨h1, h2⟩ := zwr_in hw
  subst h2
  subst hn
  exact va_zast hexec hb hK.1 hP hD hS q0 1 ha rfl h1 hdg (fun H1 locs1 k1 k2 k3 => kk H1 locs1 (by rw [hx] at k1; exact k1) (by rw [hx] at k2; exact k2) k3)
theorem z_get (hexec : p.tables.exec = Jvm.exec) (hb : c.code = cc) {own ref C : String} {T : u_T} {N ci index : Nat} {Ts : List Cond} (hts : ∀ w ∈ Ts, w.before args s = true) (hin : ∀ w ∈ u_ws C T N, w ∈ Ts) (hown : s.vm.findClass own = some m.cls) (hK : zK g s) (hP : va_P (zD g) vwCl ws H) (q0 : Nat) {fs : List Value} (he : ws[q0]? = some (a, .inr (ci, fs))) (hc : vwCl[ci]? = some (C, T, N)) (k : Nat) (hk : k < N) (hlink : Cond.fieldLink own index ref (T k).2.1 (T k).2.2.1 ∈ Ts) (href : (T k).1 = ref) {v : Value} (hv : fs[k]? = some v) (hdg : decode cc pc = .ok (.getfield index, 3))
    (kk : W p l e R s m args below meth c H locs cells slots Q (F0 m (pc + 3) ls (v :: rest))) : W p l e R s m args below meth c H locs cells slots Q (F0 m pc ls (.ref a :: rest)) :=
  va_get hexec hb hts hin hown hK.1 hP q0 he hc k hk (hts _ hlink) (fun _ h9 => by rw [← href]; exact h9) hv hdg kk
theorem z_put (hexec : p.tables.exec = Jvm.exec) (hb : c.code = cc) {own ref C : String} {T : u_T} {N ci index : Nat} {Ts : List Cond} (hts : ∀ w ∈ Ts, w.before args s = true) (hin : ∀ w ∈ u_ws C T N, w ∈ Ts) (ty0 : Nat → FieldType) (hty : ∀ k, k < N → parseFieldDescriptor (T k).2.2.1 = some (ty0 k)) (hnm : ∀ a, a < N → ∀ b, b < N → a ≠ b → (T a).2.1 ≠ (T b).2.1) (hown : s.vm.findClass own = some m.cls) (hK : zK g s) (hP : va_P (zD g) vwCl ws H) (hD : va_D A ws) (hS0 : va_S A H0 H locs) (q0 : Nat) {fs : List Value} (he : ws[q0]? = some (a, .inr (ci, fs))) (hc : vwCl[ci]? = some (C, T, N)) (k : Nat) (hk : k < N) (hlink : Cond.fieldLink own index ref (T k).2.1 (T k).2.2.1 ∈ Ts) (href : (T k).1 = ref) (hfin : (T k).2.2.2 = false) {v : Value} (hn : narrow (ty0 k) v = v) (hfit : fits (ty0 k) v = true) (hl : k < fs.length) (hw : ws.set q0 (a, .inr (ci, fs.set k v)) = ws')
    (hdg : decode cc pc = .ok (.putfield index, 3)) (kk : ∀ (H1 : Heap) (locs1 : List Loc), va_P (zD g) vwCl ws' H1 → va_D A ws' → va_S A H0 H1 locs1 → W p l e R s m args below meth c H1 locs1 cells slots Q (F0 m (pc + 3) ls rest)) : W p l e R s m args below meth c H locs cells slots Q (F0 m pc ls (v :: .ref a :: rest)) := by
  subst hw
  exact va_put hexec hb hts hin ty0 hty hnm hown hK.1 hP hD hS0 q0 he hc k hk (hts _ hlink) (fun _ h9 => by rw [← href]; exact h9) hfin (hty k hk) hn hfit hl hdg kk
theorem z_rgo {v : Value} {a : Array Value} (hr : va_Run p l e R s m args below meth c H locs cells slots 0 0 (F0 m pc ls st0) rest (zRQ (some v) a) (fun _ => False))
    (kk : W p l e R s m args below meth c H locs cells slots Q (F0 m (pc + 3) ls (v :: rest))) : W p l e R s m args below meth c H locs cells slots Q (F0 m pc ls st0) := by
  intro T hT X
  obtain ⟨v', st₀, t, T', L, h0, X', hL, e1, e2, ⟨hv, hh⟩, st⟩ := hr T hT X
  cases hv
  obtain ⟨t2, a1, b1⟩ := kk T' (by rw [e1, hh, h0]) (Stand.forget X' (fun q h => (hL q h).elim))
  exact ⟨t2, st t2 a1, b1⟩
theorem z_wgo {v : Option Value} {a : Array Value} {A0 : Nat → Prop} {W0 W1 wn : va_W} (hr : va_Run p l e R s m args below meth c H locs cells slots 0 0 (F0 m pc ls st0) rest (zWQ g (va_A W0 H.size) W1 v a) (va_A W0 H.size))
    (hP : va_P (zD g) vwCl ws H) (hD : va_D A0 ws) (hS : va_S A0 H0 H locs) (hA : ∀ q, H0.size ≤ q → A0 q) (is : List Nat) (hC : is.map (fun i => ws[i]?) = W0.map some) (hn : va_nd is = true) (hadr : W1.map Prod.fst = W0.map Prod.fst) (hw : wput ws is W1 = wn)
    (kk : ∀ (H1 : Heap) (locs1 : List Loc), va_P (zD g) vwCl wn H1 → va_D A0 wn → va_S A0 H0 H1 locs1 → W p l e R s m args below meth c H1 locs1 cells slots Q (F0 m (pc + 3) ls (v.toList ++ rest))) : W p l e R s m args below meth c H locs cells slots Q (F0 m pc ls st0) := by
  have hF := va_free (wc := W0) hD hS hA is hC
  intro T hT X
  obtain ⟨v', st₀, t, T', L, h0, X', hL, e1, e2, ⟨hv, hP1, hD1, hz, hk⟩, st⟩ := hr T hT X
  cases hv
  rw [h0] at hz hk
  obtain ⟨hPn, hDn⟩ := zframe hP hD is hC hn hadr hw (H1 := t.heap) hk hP1
  obtain ⟨t2, a1, b1⟩ := kk T'.heap (locs ++ L) (by rw [e1]; exact hPn) hDn
    ⟨Nat.le_trans hS.1 (by rw [e1]; exact hz), fun q h1 h2 => by rw [e1, hk q (Nat.lt_of_lt_of_le h1 hS.1) (fun z => h2 (hF q z))]; exact hS.2.1 q h1 h2, fun q hq => by
      rcases List.mem_append.mp hq with h | h
      · exact hS.2.2 q h
      · exact hF _ (hL q h)⟩ T' rfl X'
  exact ⟨t2, st t2 a1, b1⟩
/-- the callee's world is the caller's -/
theorem z_wgoW {v : Option Value} {a : Array Value} {A0 : Nat → Prop} {W1 : va_W} (hr : va_Run p l e R s m args below meth c H locs cells slots 0 0 (F0 m pc ls st0) rest (zWQ g (va_A ws H.size) W1 v a) (va_A ws H.size))
    (hP : va_P (zD g) vwCl ws H) (hD : va_D A0 ws) (hS : va_S A0 H0 H locs) (hA : ∀ q, H0.size ≤ q → A0 q)
    (kk : ∀ (H1 : Heap) (locs1 : List Loc), va_P (zD g) vwCl W1 H1 → va_D A0 W1 → va_S A0 H0 H1 locs1 → W p l e R s m args below meth c H1 locs1 cells slots Q (F0 m (pc + 3) ls (v.toList ++ rest))) : W p l e R s m args below meth c H locs cells slots Q (F0 m pc ls st0) := by
  have hF : ∀ q, va_A ws H.size q → A0 q := by
    rintro q (⟨k, e, h⟩ | h)
    · exact hD.2 k _ h
    · exact hA q (Nat.le_trans hS.1 h)
  intro T hT X
  obtain ⟨v', st₀, t, T', L, h0, X', hL, e1, e2, ⟨hv, hP1, hD1, hz, hk⟩, st⟩ := hr T hT X
  cases hv
  rw [h0] at hz hk
  obtain ⟨t2, a1, b1⟩ := kk T'.heap (locs ++ L) (by rw [e1]; exact hP1) (hD1.weaken (fun k q _ h => hF q.1 h))
    ⟨Nat.le_trans hS.1 (by rw [e1]; exact hz), fun q h1 h2 => by rw [e1, hk q (Nat.lt_of_lt_of_le h1 hS.1) (fun z => h2 (hF q z))]; exact hS.2.1 q h1 h2, fun q hq => by
      rcases List.mem_append.mp hq with h | h
      · exact hS.2.2 q h
      · exact hF _ (hL q h)⟩ T' rfl X'
  exact ⟨t2, st t2 a1, b1⟩
theorem z_rpre {W0 : va_W} {As : List Value} (hP : va_P (zD g) vwCl W0 H) (hK : zK g s) : PreS s H (va_Pc As (fun U => va_P (zD g) vwCl W0 U.heap ∧ zK g U)) As :=
  ⟨fun _ _ _ _ q => ⟨q.1, q.2.1, q.2.2.call⟩, fun _ hU hW => ⟨rfl, by rw [hU]; exact hP, hK.warm hW⟩⟩
theorem z_wpre {W0 : va_W} {As : List Value} (hP : va_P (zD g) vwCl W0 H) (hK : zK g s) (hD : va_D (fun _ => True) W0) : PreS s H (va_Pc As (fun U => U.heap.size = H.size ∧ va_P (zD g) vwCl W0 U.heap ∧ zK g U ∧ va_D (fun _ => True) W0)) As :=
  ⟨fun _ _ _ _ q => ⟨q.1, q.2.1, q.2.2.1, q.2.2.2.1.call, q.2.2.2.2⟩, fun _ hU hW => ⟨rfl, by rw [hU], by rw [hU]; exact hP, hK.warm hW, hD⟩⟩
theorem z_rpreV {W0 : va_W} {As : List Value} {b q0 ci : Nat} {q : vw_C} {fs : List Value} (hP : va_P (zD g) vwCl W0 H) (hK : zK g s) (hc : vwCl[ci]? = some q) (he : W0[q0]? = some (b, .inr (ci, fs))) : PreV s H q.1 b (va_Pc (.ref b :: As) (fun U => va_P (zD g) vwCl W0 U.heap ∧ zK g U)) As :=
  ⟨fun _ _ _ _ q => ⟨q.1, q.2.1, q.2.2.call⟩, va_recv hK.1 hP hc he, fun _ hU hW => ⟨rfl, by rw [hU]; exact hP, hK.warm hW⟩⟩
theorem z_wpreV {W0 : va_W} {As : List Value} {b q0 ci : Nat} {q : vw_C} {fs : List Value} (hP : va_P (zD g) vwCl W0 H) (hK : zK g s) (hD : va_D (fun _ => True) W0) (hc : vwCl[ci]? = some q) (he : W0[q0]? = some (b, .inr (ci, fs))) : PreV s H q.1 b (va_Pc (.ref b :: As) (fun U => U.heap.size = H.size ∧ va_P (zD g) vwCl W0 U.heap ∧ zK g U ∧ va_D (fun _ => True) W0)) As :=
  ⟨fun _ _ _ _ q => ⟨q.1, q.2.1, q.2.2.1, q.2.2.2.1.call, q.2.2.2.2⟩, va_recv hK.1 hP hc he, fun _ hU hW => ⟨rfl, by rw [hU], by rw [hU]; exact hP, hK.warm hW, hD⟩⟩
theorem z_any {W0 : va_W} {A0 : Nat → Prop} (h : va_D A0 W0) : va_D (fun _ => True) W0 := h.weaken (fun _ _ _ _ => trivial)
theorem z_ri {v : Int32} {r : Option Value} (hexec : p.tables.exec = Jvm.exec) (hb : c.code = cc) (hr : meth.sig.returnType = some .int) (hlk : meth.locks = false) (hv : some (.int v) = r) (hdg : decode cc pc = .ok (.ireturn, 1)) : W p l e R s m args below meth c s.heap [] 0 0 (MQ below (zRQ r) args s 0 0 (fun _ => False)) (F0 m pc ls [.int v]) := by
  subst hv
  exact W.iret hexec hb hr (fun t ht _ => ⟨rfl, ht⟩) (fun _ h => by cases h) hdg hlk
theorem z_rz {v : Int32} {r : Option Value} (hexec : p.tables.exec = Jvm.exec) (hb : c.code = cc) (hr : meth.sig.returnType = some .boolean) (hlk : meth.locks = false) (hn : narrow .boolean (.int v) = .int v) (hv : some (.int v) = r) (hdg : decode cc pc = .ok (.ireturn, 1)) : W p l e R s m args below meth c s.heap [] 0 0 (MQ below (zRQ r) args s 0 0 (fun _ => False)) (F0 m pc ls [.int v]) := by
  subst hv
  exact W.zret hexec hb hr hn (fun t ht _ => ⟨rfl, ht⟩) (fun _ h => by cases h) hdg hlk
theorem z_wi {v : Int32} {r : Option Value} {W1 : va_W} (hexec : p.tables.exec = Jvm.exec) (hb : c.code = cc) (hr : meth.sig.returnType = some .int) (hlk : meth.locks = false) (hP : va_P (zD g) vwCl ws H) (hD : va_D A ws) (hS : va_S A s.heap H locs) (hv : some (.int v) = r) (hw : ws = W1) (hdg : decode cc pc = .ok (.ireturn, 1)) : W p l e R s m args below meth c H locs 0 0 (MQ below (zWQ g A W1 r) args s 0 0 A) (F0 m pc ls [.int v]) := by
  subst hv
  subst hw
  exact W.iret hexec hb hr (fun t ht _ => ⟨rfl, by rw [ht]; exact hP, hD, hS.F ht⟩) hS.2.2 hdg hlk
theorem z_wz {v : Int32} {r : Option Value} {W1 : va_W} (hexec : p.tables.exec = Jvm.exec) (hb : c.code = cc) (hr : meth.sig.returnType = some .boolean) (hlk : meth.locks = false) (hn : narrow .boolean (.int v) = .int v) (hP : va_P (zD g) vwCl ws H) (hD : va_D A ws) (hS : va_S A s.heap H locs) (hv : some (.int v) = r) (hw : ws = W1) (hdg : decode cc pc = .ok (.ireturn, 1)) : W p l e R s m args below meth c H locs 0 0 (MQ below (zWQ g A W1 r) args s 0 0 A) (F0 m pc ls [.int v]) := by
  subst hv
  subst hw
  exact W.zret hexec hb hr hn (fun t ht _ => ⟨rfl, by rw [ht]; exact hP, hD, hS.F ht⟩) hS.2.2 hdg hlk
theorem z_wl {v : Int64} {r : Option Value} {W1 : va_W} (hexec : p.tables.exec = Jvm.exec) (hb : c.code = cc) (hr : meth.sig.returnType = some .long) (hlk : meth.locks = false) (hP : va_P (zD g) vwCl ws H) (hD : va_D A ws) (hS : va_S A s.heap H locs) (hv : some (.long v) = r) (hw : ws = W1) (hdg : decode cc pc = .ok (.lreturn, 1)) : W p l e R s m args below meth c H locs 0 0 (MQ below (zWQ g A W1 r) args s 0 0 A) (F0 m pc ls [.long v]) := by
  subst hv
  subst hw
  exact W.lret hexec hb hr (fun t ht _ => ⟨rfl, by rw [ht]; exact hP, hD, hS.F ht⟩) hS.2.2 hdg hlk
theorem z_wv {W1 : va_W} (hexec : p.tables.exec = Jvm.exec) (hb : c.code = cc) (hr : meth.sig.returnType = none) (hlk : meth.locks = false) (hP : va_P (zD g) vwCl ws H) (hD : va_D A ws) (hS : va_S A s.heap H locs) (hw : ws = W1) (hdg : decode cc pc = .ok (.return_, 1)) : W p l e R s m args below meth c H locs 0 0 (MQ below (zWQ g A W1 none) args s 0 0 A) (F0 m pc ls []) := by
  subst hw
  exact W.vret hexec hb hr (fun t ht _ => ⟨rfl, by rw [ht]; exact hP, hD, hS.F ht⟩) hS.2.2 hdg hlk
/-- a table's case, and none of its cases -/
theorem z_tin (hexec : p.tables.exec = Jvm.exec) (hb : c.code = cc) {dflt lo hi : Int} {offs : Array Int} {len : Nat} {x k : Int32} {off : Int} {tgt : Nat} (hdg : decode cc pc = .ok (.tableswitch dflt lo hi offs, len)) (hx : x = k) (h : ¬ k.toInt < lo ∧ ¬ hi < k.toInt ∧ offs[(k.toInt - lo).toNat]? = some off ∧ (pc : Int) + off = (tgt : Int))
    (kk : W p l e R s m args below meth c H locs cells slots Q (F0 m tgt ls rest)) : W p l e R s m args below meth c H locs cells slots Q (F0 m pc ls (.int x :: rest)) := by
  subst hx
  exact lv_tableIn hexec hb hdg h.1 h.2.1 h.2.2.1 h.2.2.2 kk
theorem z_tout (hexec : p.tables.exec = Jvm.exec) (hb : c.code = cc) {dflt lo hi : Int} {offs : Array Int} {len : Nat} {x : Int32} {tgt : Nat} (hdg : decode cc pc = .ok (.tableswitch dflt lo hi offs, len)) (ks : List Int32) (hx : ∀ k ∈ ks, ¬ x = k) (hk : ks.map Int32.toInt = (List.range (hi - lo + 1).toNat).map (fun (i : Nat) => lo + (i : Int))) (ht : (pc : Int) + dflt = (tgt : Int))
    (kk : W p l e R s m args below meth c H locs cells slots Q (F0 m tgt ls rest)) : W p l e R s m args below meth c H locs cells slots Q (F0 m pc ls (.int x :: rest)) := by
  refine lv_tableOut hexec hb hdg ?_ ht kk
  by_cases h : x.toInt < lo ∨ hi < x.toInt
  · exact h
  · exfalso
    have h1 : x.toInt ∈ ks.map Int32.toInt := by
      rw [hk]
      exact List.mem_map.mpr ⟨(x.toInt - lo).toNat, List.mem_range.mpr (by omega), by omega⟩
    obtain ⟨k, hk1, hk2⟩ := List.mem_map.mp h1
    exact hx k hk1 (Int32.toInt_inj.mp hk2.symm)
theorem z_idiv (hexec : p.tables.exec = Jvm.exec) (hb : c.code = cc) {x y r : Int32} (hdg : decode cc pc = .ok (.idiv, 1)) (hr : zdv x y = some r) (kk : W p l e R s m args below meth c H locs cells slots Q (F0 m (pc + 1) ls (.int r :: rest))) : W p l e R s m args below meth c H locs cells slots Q (F0 m pc ls (.int y :: .int x :: rest)) := by
  obtain ⟨h1, h2⟩ := zdv_in hr
  subst h2
  exact lv_idiv hexec hb hdg h1 kk
theorem z_irem (hexec : p.tables.exec = Jvm.exec) (hb : c.code = cc) {x y r : Int32} (hdg : decode cc pc = .ok (.irem, 1)) (hr : zrm x y = some r) (kk : W p l e R s m args below meth c H locs cells slots Q (F0 m (pc + 1) ls (.int r :: rest))) : W p l e R s m args below meth c H locs cells slots Q (F0 m pc ls (.int y :: .int x :: rest)) := by
  obtain ⟨h1, h2⟩ := zrm_in hr
  subst h2
  exact lv_irem hexec hb hdg h1 kk
theorem z_lrem (hexec : p.tables.exec = Jvm.exec) (hb : c.code = cc) {x y r : Int64} (hdg : decode cc pc = .ok (.lrem, 1)) (hr : zrl x y = some r) (kk : W p l e R s m args below meth c H locs cells slots Q (F0 m (pc + 1) ls (.long r :: rest))) : W p l e R s m args below meth c H locs cells slots Q (F0 m pc ls (.long y :: .long x :: rest)) := by
  obtain ⟨h1, h2⟩ := zrl_in hr
  subst h2
  exact lv_lrem hexec hb hdg h1 kk
theorem z_lin (hexec : p.tables.exec = Jvm.exec) (hb : c.code = cc) {dflt : Int} {ps : Array (Int × Int)} {len : Nat} {x k : Int32} {off : Int} {tgt : Nat} (hdg : decode cc pc = .ok (.lookupswitch dflt ps, len)) (hp : (ps.toList.zip (ps.toList.drop 1)).all (fun (a, next) => a.1 < next.1) = true) (hx : x = k) (ho : Op.lookupswitch.offset ps.toList dflt k.toInt = off) (ht : (pc : Int) + off = (tgt : Int))
    (kk : W p l e R s m args below meth c H locs cells slots Q (F0 m tgt ls rest)) : W p l e R s m args below meth c H locs cells slots Q (F0 m pc ls (.int x :: rest)) := by
  subst hx
  exact lv_lookup hexec hb hdg hp ho ht kk
theorem z_nil {D : va_G} {cl : List vw_C} : va_P D cl [] H := fun k q h => by simp at h
end ZR

/-! the row of moments -/
noncomputable def zopen {α : Type} (c : Prop) (a : Option α) : Option α := @ite _ c (Classical.propDecidable c) a none
theorem zopen_in {α : Type} {c : Prop} {a : Option α} {x : α} (h : zopen c a = some x) : c ∧ a = some x := by
  unfold zopen at h
  by_cases hc : c
  · rw [if_pos hc] at h; exact ⟨hc, h⟩
  · rw [if_neg hc] at h; cases h
abbrev Ro : Type := (Nat → Mo) × (Nat → Nat) × Int32
def RoW (g : zG) (q : Nat → Nat) (P : Ro) : va_W := (q 34, .inr (5, [.ref (q 35), .int P.2.2])) :: (q 35, .inl (g.2.2.2.2, 14, .inr (.inr (.inr (.inr (fun i => some (q (50 + 5 * P.2.1 i)))))))) :: roW g q P.1
def f5_at (q : Nat → Nat) (P : Ro) (i : Int32) : Value := if i < 0 then .null else if 14 ≤ i then .null else .ref (q (50 + 5 * P.2.1 i.toNatClampNeg))
def f5_forget (P : Ro) : Ro := (P.1, (fun i => if i < 13 then P.2.1 (i + 1) else if i = 13 then P.2.1 0 else P.2.1 i), 13)
def f5_ok (P : Ro) : Prop := ∀ i, i < 14 → P.2.1 i < 14
def f5_full (P : Ro) : Ro := if 14 ≤ P.2.2 then f5_forget P else P
noncomputable def f5_push (P : Ro) (M : Mo) : Option Ro := zopen (f5_ok P ∧ ∃ k, k ≤ 14 ∧ P.2.2 = nI k) ((f2_copy ((f5_full P).1 ((f5_full P).2.1 (f5_full P).2.2.toNatClampNeg)) M).bind fun M1 => some (va_up (f5_full P).1 ((f5_full P).2.1 (f5_full P).2.2.toNatClampNeg) M1, (f5_full P).2.1, (f5_full P).2.2 + 1))
noncomputable def f5_pop (P : Ro) (M : Mo) : Option (Ro × Mo) := zopen (f5_ok P ∧ ∃ k, k < 14 ∧ P.2.2 = nI (k + 1)) ((f2_copy M (P.1 (P.2.1 (P.2.2 - 1).toNatClampNeg))).bind fun M1 => some ((P.1, P.2.1, P.2.2 - 1), M1))
def roA (g : zG) (q : Nat → Nat) (P : Ro) : va_W := [(q 34, .inr (5, [.ref (q 35), .int P.2.2])), (q 35, .inl (g.2.2.2.2, 14, .inr (.inr (.inr (.inr (fun i => some (q (50 + 5 * P.2.1 i))))))))]
def roL (g : zG) (q : Nat → Nat) (r : Nat → Mo) : Nat → va_W
  | 0 => []
  | n + 1 => roL g q r n ++ OW g q (50 + 5 * n) (r n)
def roX (g : zG) (q : Nat → Nat) (r : Nat → Mo) (j : Nat) : Nat → va_W
  | 0 => []
  | n + 1 => if n = j then roL g q r n else roX g q r j n ++ OW g q (50 + 5 * n) (r n)
theorem roW_eq (g : zG) (q : Nat → Nat) (r : Nat → Mo) : roW g q r = roL g q r 14 := by
  simp only [roW, roL, List.append_assoc, List.nil_append]
theorem roL_perm (g : zG) (q : Nat → Nat) (r : Nat → Mo) (j : Nat) : ∀ n : Nat, j < n → (roL g q r n).Perm (OW g q (50 + 5 * j) (r j) ++ roX g q r j n)
  | 0, h => absurd h (by omega)
  | n + 1, h => by
    unfold roL roX
    by_cases hn : n = j
    · subst hn
      rw [if_pos rfl]
      exact List.perm_append_comm
    · rw [if_neg hn, ← List.append_assoc]
      exact (roL_perm g q r j n (by omega)).append_right _
theorem roL_up (g : zG) (q : Nat → Nat) (r : Nat → Mo) (j : Nat) (M : Mo) : ∀ n : Nat, n ≤ j → roL g q (va_up r j M) n = roL g q r n
  | 0, _ => rfl
  | n + 1, h => by
    unfold roL
    rw [roL_up g q r j M n (by omega), show va_up r j M n = r n from if_neg (by omega)]
theorem roX_up (g : zG) (q : Nat → Nat) (r : Nat → Mo) (j : Nat) (M : Mo) : ∀ n : Nat, roX g q (va_up r j M) j n = roX g q r j n
  | 0 => rfl
  | n + 1 => by
    unfold roX
    by_cases hn : n = j
    · rw [if_pos hn, if_pos hn]
      exact roL_up g q r j M n (by omega)
    · rw [if_neg hn, if_neg hn, roX_up g q r j M n, show va_up r j M n = r n from if_neg hn]
theorem roL_mem (g : zG) (q : Nat → Nat) (r : Nat → Mo) {j : Nat} : ∀ n : Nat, j < n → ∀ x ∈ OW g q (50 + 5 * j) (r j), x ∈ roL g q r n
  | 0, h, _, _ => absurd h (by omega)
  | n + 1, h, x, hx => by
    unfold roL
    by_cases hn : j = n
    · subst hn
      exact List.mem_append_right _ hx
    · exact List.mem_append_left _ (roL_mem g q r n (by omega) x hx)
theorem pm1 {a b o x n : va_W} (hb : b.Perm (o ++ x)) : ((a ++ b) ++ n).Perm ((o ++ n) ++ (a ++ x)) := by
  have h1 : ((a ++ b) ++ n).Perm ((a ++ (o ++ x)) ++ n) := (hb.append_left a).append_right n
  refine h1.trans ?_
  rw [List.append_assoc, List.append_assoc, List.append_assoc]
  refine (List.perm_append_comm_assoc a o (x ++ n)).trans (List.Perm.append_left o ?_)
  have h2 : (a ++ (x ++ n)).Perm ((a ++ x) ++ n) := by rw [List.append_assoc]
  exact h2.trans List.perm_append_comm
theorem pm2 {a b o x n : va_W} (hb : b.Perm (o ++ x)) : ((a ++ b) ++ n).Perm ((n ++ o) ++ (a ++ x)) := (pm1 hb).trans (List.perm_append_comm.append_right _)
theorem pm3 {A N B R D W : va_W} : (A ++ (N ++ (B ++ (R ++ (D ++ W))))).Perm (((R ++ W) ++ N) ++ (A ++ (B ++ D))) := by
  rw [List.append_assoc, List.append_assoc]
  have e1 : (A ++ (N ++ (B ++ (R ++ (D ++ W))))).Perm (R ++ (A ++ (N ++ (B ++ (D ++ W))))) :=
    ((((List.perm_append_comm_assoc B R (D ++ W)).append_left N).trans (List.perm_append_comm_assoc N R (B ++ (D ++ W)))).append_left A).trans (List.perm_append_comm_assoc A R (N ++ (B ++ (D ++ W))))
  have e2 : (A ++ (N ++ (B ++ (D ++ W)))).Perm (W ++ (A ++ (N ++ (B ++ D)))) :=
    ((((((List.perm_append_comm (l₁ := D) (l₂ := W)).append_left B).trans (List.perm_append_comm_assoc B W D)).append_left N).trans (List.perm_append_comm_assoc N W (B ++ D))).append_left A).trans (List.perm_append_comm_assoc A W (N ++ (B ++ D)))
  exact e1.trans ((e2.trans ((List.perm_append_comm_assoc A N (B ++ D)).append_left W)).append_left R)
theorem RoW_eq (g : zG) (q : Nat → Nat) (P : Ro) : RoW g q P = roA g q P ++ roL g q P.1 14 := by
  unfold RoW
  rw [roW_eq]
  rfl
theorem ro_at (g : zG) (q : Nat → Nat) (P : Ro) {j : Nat} (hj : j < 14) : ∃ k : Nat, (RoW g q P)[k]? = some (q (50 + 5 * j), .inr (2, [.ref (q (50 + 5 * j + 1)), .ref (q (50 + 5 * j + 2)), .ref (q (50 + 5 * j + 3)), .ref (q (50 + 5 * j + 4)), .int ((P.1 j).1 4), .int ((P.1 j).1 5), .int ((P.1 j).1 6), .int ((P.1 j).1 7), .int ((P.1 j).1 8)])) := by
  refine List.getElem?_of_mem ?_
  rw [RoW_eq]
  exact List.mem_append_right _ (roL_mem g q P.1 14 hj _ List.mem_cons_self)
theorem ro_perm (g : zG) (q : Nat → Nat) (P : Ro) (M : Mo) {j : Nat} (hj : j < 14) : (RoW g q P ++ OW g q 23 M).Perm ((OW g q (50 + 5 * j) (P.1 j) ++ OW g q 23 M) ++ (roA g q P ++ roX g q P.1 j 14)) := by
  rw [RoW_eq]
  exact pm1 (roL_perm g q P.1 j 14 hj)
theorem ro_permN (g : zG) (q : Nat → Nat) (P : Ro) (M : Mo) {j : Nat} (hj : j < 14) : (RoW g q P ++ OW g q 23 M).Perm ((OW g q 23 M ++ OW g q (50 + 5 * j) (P.1 j)) ++ (roA g q P ++ roX g q P.1 j 14)) := by
  rw [RoW_eq]
  exact pm2 (roL_perm g q P.1 j 14 hj)
theorem ro_perm1 (g : zG) (q : Nat → Nat) (P : Ro) (M M1 : Mo) {j : Nat} (hj : j < 14) : ((OW g q (50 + 5 * j) M1 ++ OW g q 23 M) ++ (roA g q P ++ roX g q P.1 j 14)).Perm (RoW g q (va_up P.1 j M1, P.2) ++ OW g q 23 M) := by
  have h := ro_perm g q (va_up P.1 j M1, P.2) M hj
  have e1 : (va_up P.1 j M1) j = M1 := if_pos rfl
  have e2 : roX g q (va_up P.1 j M1) j 14 = roX g q P.1 j 14 := roX_up g q P.1 j M1 14
  dsimp only at h
  rw [e1, e2] at h
  exact h.symm
theorem cw_eq (g : zG) (q : Nat → Nat) (C : Cs) : ∃ A B D : va_W, ∀ (P : Ro) (M : Mo), CW g q (cM (cRo (cRM C P.1) P.2) 0 M) = A ++ (OW g q 23 M ++ (B ++ (roA g q P ++ (D ++ roW g q P.1)))) := by
  refine ⟨(q 0, .inr (6, [.ref (q 1), .ref (q 3), .ref (q 13), .ref (q (13 + 2)), .ref (q 23), .ref (q 28), .ref (q 33), .ref (q 34), .ref (q 36), .ref (q 41), .ref (q 46), .int C.2.2.2.2.2.2.2.2.1, .long C.2.2.2.2.2.2.2.2.2])) :: (LW g q 1 C.2.2.2.1 ++ (RW g q 3 C.2.2.2.2.1 ++ RW g q 13 C.2.2.2.2.2.1)), OW g q 28 (C.1 1) ++ [(q 33, .inl (g.2.2.1, 4, .inl C.2.2.2.2.2.2.1))], OW g q 36 (C.1 2) ++ (OW g q 41 (C.1 3) ++ HW g q 46 C.2.2.2.2.2.2.2.1), fun P M => ?_⟩
  simp only [List.append_assoc, List.cons_append, List.nil_append]
  rfl
theorem cM_self (C : Cs) (i : Nat) : cM C i (C.1 i) = C := by
  unfold cM
  have : va_up C.1 i (C.1 i) = C.1 := by
    funext k
    unfold va_up
    by_cases h : k = i
    · rw [if_pos h, h]
    · rw [if_neg h]
  rw [this]
theorem cw_perm (g : zG) (q : Nat → Nat) (C : Cs) : ∃ X : va_W, ∀ (P : Ro) (M : Mo), (CW g q (cM (cRo (cRM C P.1) P.2) 0 M)).Perm ((RoW g q P ++ OW g q 23 M) ++ X) := by
  obtain ⟨A, B, D, h⟩ := cw_eq g q C
  refine ⟨A ++ (B ++ D), fun P M => ?_⟩
  rw [h P M]
  exact pm3
theorem cw_perm0 {g : zG} {q : Nat → Nat} {C : Cs} {X : va_W} (h : ∀ (P : Ro) (M : Mo), (CW g q (cM (cRo (cRM C P.1) P.2) 0 M)).Perm ((RoW g q P ++ OW g q 23 M) ++ X)) : (CW g q C).Perm ((RoW g q (C.2.1, C.2.2.1) ++ OW g q 23 (C.1 0)) ++ X) := by
  have h1 := h (C.2.1, C.2.2.1) (C.1 0)
  have e : cM (cRo (cRM C (C.2.1, C.2.2.1).1) (C.2.1, C.2.2.1).2) 0 (C.1 0) = C := cM_self C 0
  rw [e] at h1
  exact h1
theorem cw_perm1 {g : zG} {q : Nat → Nat} {C : Cs} {X : va_W} (h : ∀ (P : Ro) (M : Mo), (CW g q (cM (cRo (cRM C P.1) P.2) 0 M)).Perm ((RoW g q P ++ OW g q 23 M) ++ X)) (P : Ro) : ((RoW g q P ++ OW g q 23 (C.1 0)) ++ X).Perm (CW g q (cRo (cRM C P.1) P.2)) := by
  have h1 := h P (C.1 0)
  have e : cM (cRo (cRM C P.1) P.2) 0 (C.1 0) = cRo (cRM C P.1) P.2 := cM_self (cRo (cRM C P.1) P.2) 0
  rw [e] at h1
  exact h1.symm

section ZRA
variable {p : Program} {l : Launch} {e : Env} {R : Room} {s : State} {m : MethodId} {args : Array Value} {below : List Frame} {meth : Method} {c : Code} {cc : ByteArray} {pc : Nat} {ls : Array Slot}
theorem z_ra {v : Value} {r : Option Value} {n : String} (hexec : p.tables.exec = Jvm.exec) (hb : c.code = cc) (hr : meth.sig.returnType = some (.object n)) (hlk : meth.locks = false) (hn : v = .null ∨ ∃ a, v = .ref a) (hv : some v = r) (hdg : decode cc pc = .ok (.areturn, 1)) : W p l e R s m args below meth c s.heap [] 0 0 (MQ below (zRQ r) args s 0 0 (fun _ => False)) (F0 m pc ls [v]) := by
  subst hv
  exact W.aret hexec hb hr (Or.inl ⟨n, rfl⟩) hn (fun t ht _ => ⟨rfl, ht⟩) (fun _ h => by cases h) hdg hlk
end ZRA
set_option maxHeartbeats 4000000 in
set_option maxRecDepth 100000 in
theorem c5_momentAt (l : Launch) (g : zG) (q : Nat → Nat) (P : Ro) (i : Int32) : zRO l g yX5_momentAt wsX5_momentAt zr0 [.ref (q 34), .int i] (RoW g q P) (some (f5_at q P i)) := by
  refine zRO_of (cc := cX5_momentAt) (maxL := 2) (ret := (some (.object "ManholeBirths$Moment"))) (by decide) rfl (Nat.le_of_ble_eq_true rfl) ?_
  intro p e s m args below meth c ls hx hb hr hml hts hown hlk hK hP hl
  have hown : s.vm.findClass RX5 = some m.cls := hown
  have hl : lv_has ls 2 [(0, .ref (q 34)), (1, .int i)] := hl
  have inX5 : ∀ w ∈ wsX50, w ∈ wsX5_momentAt := fun _ h => List.mem_cons_of_mem _ (List.mem_append_right _ h)
  unfold f5_at
  refine lv_iload_n hx hb dX5_momentAt_0 rfl (lv_at hl 1 rfl) ?_
  refine lv_if_lt (tgt := 22) hx hb dX5_momentAt_1 (by decide) (fun c1 => ?_) (fun c1 => ?_)
  · refine lv_null hx hb dX5_momentAt_22 ?_
    exact z_ra hx hb hr hlk (Or.inl rfl) (by rw [if_pos c1]) dX5_momentAt_23
  · refine lv_iload_n hx hb dX5_momentAt_4 rfl (lv_at hl 1 rfl) ?_
    refine lv_aload_n hx hb dX5_momentAt_5 rfl (lv_at hl 0 rfl) ?_
    refine z_get (ci := 5) (v := .ref (q 35)) (C := RX5) (T := TX5) (N := 2) hx hb hts inX5 hown hK hP 0 rfl rfl 0 (by decide) (List.mem_of_getElem? (i := 1) rfl) rfl rfl dX5_momentAt_6 ?_
    refine va_alen (v := 14) hx hb hK.1 hP 1 2 rfl rfl rfl dX5_momentAt_9 ?_
    refine lv_icmp_ge (tgt := 22) hx hb dX5_momentAt_10 (by decide) (fun c2 => ?_) (fun c2 => ?_)
    · refine lv_null hx hb dX5_momentAt_22 ?_
      exact z_ra hx hb hr hlk (Or.inl rfl) (by rw [if_neg c1, if_pos c2]) dX5_momentAt_23
    · refine lv_aload_n hx hb dX5_momentAt_13 rfl (lv_at hl 0 rfl) ?_
      refine z_get (ci := 5) (v := .ref (q 35)) (C := RX5) (T := TX5) (N := 2) hx hb hts inX5 hown hK hP 0 rfl rfl 0 (by decide) (List.mem_of_getElem? (i := 1) rfl) rfl rfl dX5_momentAt_14 ?_
      refine lv_iload_n hx hb dX5_momentAt_17 rfl (lv_at hl 1 rfl) ?_
      refine va_aldq hx hb hK.1 hP 1 2 rfl rfl (z_inr (n := 14) (by decide) c1 c2) dX5_momentAt_18 ?_
      refine lv_goto (tgt := 23) hx hb dX5_momentAt_19 (by decide) ?_
      exact z_ra hx hb hr hlk (Or.inr ⟨_, rfl⟩) (by rw [if_neg c1, if_neg c2]; rfl) dX5_momentAt_23
def f5_sh (f : Nat → Nat) (k : Nat) : Nat → Nat := fun i => if i < k then f (i + 1) else f i
theorem f5_sh_0 (f : Nat → Nat) : f5_sh f 0 = f := by funext i; unfold f5_sh; rw [if_neg (by omega)]
theorem f5_sh_up (q f : Nat → Nat) (k : Nat) : va_up (fun i => some (q (50 + 5 * f5_sh f k i))) k (some (q (50 + 5 * f5_sh f k (k + 1)))) = (fun i => some (q (50 + 5 * f5_sh f (k + 1) i))) := by
  funext i
  unfold va_up f5_sh
  dsimp only
  by_cases h : i = k
  · subst h; rw [if_pos rfl, if_neg (by omega), if_pos (by omega)]
  · rw [if_neg h]
    by_cases h2 : i < k
    · rw [if_pos h2, if_pos (by omega)]
    · rw [if_neg h2, if_neg (by omega)]
theorem f5_sh_end (q f : Nat → Nat) : va_up (fun i => some (q (50 + 5 * f5_sh f 13 i))) 13 (some (q (50 + 5 * f 0))) = (fun i => some (q (50 + 5 * (if i < 13 then f (i + 1) else if i = 13 then f 0 else f i)))) := by
  funext i
  unfold va_up f5_sh
  dsimp only
  by_cases h : i = 13
  · subst h; rfl
  · rw [if_neg h]
    by_cases h2 : i < 13
    · rw [if_pos h2, if_pos h2]
    · rw [if_neg h2, if_neg h2, if_neg h]
theorem f5_sh_ok {f : Nat → Nat} (h : ∀ i, i < 14 → f i < 14) {k i : Nat} (hi : i < 14) (hk : k ≤ 13) : f5_sh f k i < 14 := by
  unfold f5_sh
  by_cases h2 : i < k
  · rw [if_pos h2]; exact h _ (by omega)
  · rw [if_neg h2]; exact h _ hi
abbrev rmX5_forgetFirst : Room := { frames := 1, cells := 0, slots := 0, locals := 21 }
set_option maxHeartbeats 4000000 in
set_option maxRecDepth 100000 in
theorem c5_forgetFirst (l : Launch) (g : zG) (q : Nat → Nat) (P : Ro) (hok : f5_ok P) : zRW l g yX5_forgetFirst wsX5_forgetFirst rmX5_forgetFirst [.ref (q 34)] (RoW g q P) none (RoW g q (f5_forget P)) := by
  refine zRW_of (cc := cX5_forgetFirst) (maxL := 4) (ret := none) (by decide) rfl (Nat.le_of_ble_eq_true rfl) ?_
  intro p e s m args below meth c A H locs ls hx hb hr hml hts hown hlk hK hA hP hD hS hl
  have hown : s.vm.findClass RX5 = some m.cls := hown
  have hl : lv_has ls 4 [(0, .ref (q 34))] := hl
  have inX5 : ∀ w ∈ wsX50, w ∈ wsX5_forgetFirst := fun _ h => List.mem_cons_of_mem _ (List.mem_append_right _ h)
  have hL : ∀ (n j : Nat) (H : Heap) (locs : List Loc) (ls : Array Slot), n + j = 13 → va_P (zD g) vwCl (RoW g q (P.1, f5_sh P.2.1 j, P.2.2)) H → va_D A (RoW g q (P.1, f5_sh P.2.1 j, P.2.2)) → va_S A s.heap H locs → lv_has ls 4 [(3, .int (nI j)), (2, .int 13), (1, .ref (q (50 + 5 * P.2.1 0))), (0, .ref (q 34))] → W p l e (headSpec wsX5_forgetFirst rmX5_forgetFirst).room s m args below meth c H locs 0 0 (MQ below (zWQ g A (RoW g q (f5_forget P)) none) args s 0 0 A) (F0 m 11 ls []) := by
    intro n
    induction n with
    | zero =>
      intro j H locs ls hj hP hD hS hl
      obtain rfl : j = 13 := by omega
      refine lv_iload_n hx hb dX5_forgetFirst_11 rfl (lv_at hl 0 rfl) ?_
      refine lv_iload_n hx hb dX5_forgetFirst_12 rfl (lv_at hl 1 rfl) ?_
      refine lv_icmp_ge (tgt := 47) hx hb dX5_forgetFirst_13 (by decide) (fun c1 => ?_) (fun c1 => absurd (by decide) c1)
      refine lv_iload_n hx hb dX5_forgetFirst_47 rfl (lv_at hl 1 rfl) ?_
      refine lv_aload_n hx hb dX5_forgetFirst_48 rfl (lv_at hl 3 rfl) ?_
      refine z_get (ci := 5) (v := .ref (q 35)) (C := RX5) (T := TX5) (N := 2) hx hb hts inX5 hown hK hP 0 rfl rfl 0 (by decide) (List.mem_of_getElem? (i := 1) rfl) rfl rfl dX5_forgetFirst_49 ?_
      refine va_alen (v := 14) hx hb hK.1 hP 1 2 rfl rfl rfl dX5_forgetFirst_52 ?_
      refine lv_icmp_ge (tgt := 63) hx hb dX5_forgetFirst_53 (by decide) (fun c2 => absurd c2 (by decide)) (fun c2 => ?_)
      refine lv_aload_n hx hb dX5_forgetFirst_56 rfl (lv_at hl 3 rfl) ?_
      refine z_get (ci := 5) (v := .ref (q 35)) (C := RX5) (T := TX5) (N := 2) hx hb hts inX5 hown hK hP 0 rfl rfl 0 (by decide) (List.mem_of_getElem? (i := 1) rfl) rfl rfl dX5_forgetFirst_57 ?_
      refine lv_iload_n hx hb dX5_forgetFirst_60 rfl (lv_at hl 1 rfl) ?_
      refine lv_aload_n hx hb dX5_forgetFirst_61 rfl (lv_at hl 2 rfl) ?_
      obtain ⟨kk, hkk⟩ := ro_at g q (P.1, f5_sh P.2.1 13, P.2.2) (hok 0 (by decide))
      refine va_astq (r := (RX2, TX2, 9)) hx hb hK.1 hP hD hS 1 2 kk 2 rfl rfl hkk rfl (i := 13) (vp_in_nI (n := 13) (N := 14) (by decide) (by decide)) dX5_forgetFirst_62 (fun H locs hP hD hS => ?_)
      have hP : va_P (zD g) vwCl (RoW g q (P.1, (f5_forget P).2.1, P.2.2)) H := by
        have e := f5_sh_end q P.2.1
        have h9 := hP
        simp only [RoW, List.set_cons_succ, List.set_cons_zero] at h9
        rw [show ((13 : Int32).toNatClampNeg) = 13 from rfl, e] at h9
        exact h9
      have hD : va_D A (RoW g q (P.1, (f5_forget P).2.1, P.2.2)) := by
        have e := f5_sh_end q P.2.1
        have h9 := hD
        simp only [RoW, List.set_cons_succ, List.set_cons_zero] at h9
        rw [show ((13 : Int32).toNatClampNeg) = 13 from rfl, e] at h9
        exact h9
      refine lv_aload_n hx hb dX5_forgetFirst_63 rfl (lv_at hl 3 rfl) ?_
      refine lv_iload_n hx hb dX5_forgetFirst_64 rfl (lv_at hl 1 rfl) ?_
      refine z_put (ci := 5) (v := .int 13) (C := RX5) (T := TX5) (N := 2) (ws' := RoW g q (f5_forget P)) hx hb hts inX5 tyX5 tyX5_ok nmX5 hown hK hP hD hS 0 rfl rfl 1 (by decide) (List.mem_of_getElem? (i := 2) rfl) rfl rfl rfl rfl (Nat.le_of_ble_eq_true rfl) rfl dX5_forgetFirst_65 (fun H locs hP hD hS => ?_)
      exact z_wv hx hb hr hlk hP hD hS rfl dX5_forgetFirst_68
    | succ n ih =>
      intro j H locs ls hj hP hD hS hl
      have hj2 : j < 13 := by omega
      refine lv_iload_n hx hb dX5_forgetFirst_11 rfl (lv_at hl 0 rfl) ?_
      refine lv_iload_n hx hb dX5_forgetFirst_12 rfl (lv_at hl 1 rfl) ?_
      refine lv_icmp_ge (tgt := 47) hx hb dX5_forgetFirst_13 (by decide) (fun c1 => absurd c1 (nI_ge (b := 13) hj2 (by decide))) (fun c1 => ?_)
      refine lv_iload_n hx hb dX5_forgetFirst_16 rfl (lv_at hl 0 rfl) ?_
      refine lv_iconst (v := 1) hx hb dX5_forgetFirst_17 (by decide) ?_
      refine lv_iadd hx hb dX5_forgetFirst_18 ?_
      rw [nI_1]
      refine lv_aload_n hx hb dX5_forgetFirst_19 rfl (lv_at hl 3 rfl) ?_
      refine z_get (ci := 5) (v := .ref (q 35)) (C := RX5) (T := TX5) (N := 2) hx hb hts inX5 hown hK hP 0 rfl rfl 0 (by decide) (List.mem_of_getElem? (i := 1) rfl) rfl rfl dX5_forgetFirst_20 ?_
      refine va_alen (v := 14) hx hb hK.1 hP 1 2 rfl rfl rfl dX5_forgetFirst_23 ?_
      refine lv_icmp_ge (tgt := 47) hx hb dX5_forgetFirst_24 (by decide) (fun c2 => absurd c2 (nI_ge (b := 14) (by omega) (by decide))) (fun c2 => ?_)
      refine lv_aload_n hx hb dX5_forgetFirst_27 rfl (lv_at hl 3 rfl) ?_
      refine z_get (ci := 5) (v := .ref (q 35)) (C := RX5) (T := TX5) (N := 2) hx hb hts inX5 hown hK hP 0 rfl rfl 0 (by decide) (List.mem_of_getElem? (i := 1) rfl) rfl rfl dX5_forgetFirst_28 ?_
      refine lv_iload_n hx hb dX5_forgetFirst_31 rfl (lv_at hl 0 rfl) ?_
      refine lv_aload_n hx hb dX5_forgetFirst_32 rfl (lv_at hl 3 rfl) ?_
      refine z_get (ci := 5) (v := .ref (q 35)) (C := RX5) (T := TX5) (N := 2) hx hb hts inX5 hown hK hP 0 rfl rfl 0 (by decide) (List.mem_of_getElem? (i := 1) rfl) rfl rfl dX5_forgetFirst_33 ?_
      refine lv_iload_n hx hb dX5_forgetFirst_36 rfl (lv_at hl 0 rfl) ?_
      refine lv_iconst (v := 1) hx hb dX5_forgetFirst_37 (by decide) ?_
      refine lv_iadd hx hb dX5_forgetFirst_38 ?_
      rw [nI_1]
      refine va_aldq hx hb hK.1 hP 1 2 rfl rfl (vp_in_nI (n := j + 1) (N := 14) (by omega) (by decide)) dX5_forgetFirst_39 ?_
      rw [nI_clamp (by omega)]
      obtain ⟨kk, hkk⟩ := ro_at g q (P.1, f5_sh P.2.1 j, P.2.2) (f5_sh_ok hok (i := j + 1) (by omega) (k := j) (by omega))
      refine va_astq (v := q (50 + 5 * f5_sh P.2.1 j (j + 1))) (r := (RX2, TX2, 9)) hx hb hK.1 hP hD hS 1 2 kk 2 rfl rfl hkk rfl (i := nI j) (vp_in_nI (n := j) (N := 14) (by omega) (by decide)) dX5_forgetFirst_40 (fun H locs hP hD hS => ?_)
      have hP : va_P (zD g) vwCl (RoW g q (P.1, f5_sh P.2.1 (j + 1), P.2.2)) H := by
        have e := f5_sh_up q P.2.1 j
        have h9 := hP
        simp only [RoW, List.set_cons_succ, List.set_cons_zero] at h9
        rw [nI_clamp (by omega), e] at h9
        exact h9
      have hD : va_D A (RoW g q (P.1, f5_sh P.2.1 (j + 1), P.2.2)) := by
        have e := f5_sh_up q P.2.1 j
        have h9 := hD
        simp only [RoW, List.set_cons_succ, List.set_cons_zero] at h9
        rw [nI_clamp (by omega), e] at h9
        exact h9
      refine lv_iinc (v := nI (j + 1)) (lv' := [(3, .int (nI (j + 1))), (2, .int 13), (1, .ref (q (50 + 5 * P.2.1 0))), (0, .ref (q 34))]) hx hb dX5_forgetFirst_41 hl (k := 0) rfl (nI_1 j) (by decide) rfl (fun ls hl => ?_)
      refine lv_goto (tgt := 11) hx hb dX5_forgetFirst_44 (by decide) ?_
      exact ih (j + 1) H locs ls (by omega) hP hD hS hl
  refine lv_aload_n hx hb dX5_forgetFirst_0 rfl (lv_at hl 0 rfl) ?_
  refine lv_iconst (v := 0) hx hb dX5_forgetFirst_1 (by decide) ?_
  refine z_rgo (va_runV (As := [.int 0]) (rest := []) ⟨hx, hb, hml, hown, hts⟩ (c5_momentAt l g q P 0) (cwV 1 hts gX5_forgetFirst_X5_momentAt rfl rfl rfl (by decide +kernel) ⟨Nat.le_of_ble_eq_true rfl, Nat.le_of_ble_eq_true rfl⟩) (z_rpreV (ci := 5) (q := (RX5, TX5, 2)) (q0 := 0) hP hK rfl rfl) rfl rfl hl.1 rfl (lv_room (Nat.le_of_ble_eq_true rfl)) dX5_forgetFirst_2 ⟨Nat.zero_le _, Nat.zero_le _⟩) ?_
  have e0 : f5_at q P 0 = .ref (q (50 + 5 * P.2.1 0)) := rfl
  rw [e0]
  refine lv_astore_n (lv' := [(1, .ref (q (50 + 5 * P.2.1 0))), (0, .ref (q 34))]) hx hb dX5_forgetFirst_5 rfl hl (by decide) rfl (fun ls hl => ?_)
  refine lv_bipush (v := 13) hx hb dX5_forgetFirst_6 (by decide) ?_
  refine lv_istore_n (lv' := [(2, .int 13), (1, .ref (q (50 + 5 * P.2.1 0))), (0, .ref (q 34))]) hx hb dX5_forgetFirst_8 rfl hl (by decide) rfl (fun ls hl => ?_)
  refine lv_iconst (v := 0) hx hb dX5_forgetFirst_9 (by decide) ?_
  refine lv_istore_n (lv' := [(3, .int 0), (2, .int 13), (1, .ref (q (50 + 5 * P.2.1 0))), (0, .ref (q 34))]) hx hb dX5_forgetFirst_10 rfl hl (by decide) rfl (fun ls hl => ?_)
  exact hL 13 0 H locs ls rfl (by rw [f5_sh_0]; exact hP) (by rw [f5_sh_0]; exact hD) hS hl
abbrev rmX5_push : Room := { frames := 2, cells := 0, slots := 0, locals := 44 }
abbrev rmX5_popInto : Room := { frames := 2, cells := 0, slots := 0, locals := 44 }

set_option maxHeartbeats 4000000 in
set_option maxRecDepth 100000 in
theorem c5_push (l : Launch) (g : zG) (q : Nat → Nat) (P : Ro) (M : Mo) (Po : Ro) (hF : f5_push P M = some Po) : zRW l g yX5_push wsX5_push rmX5_push [.ref (q 34), .ref (q 23)] (RoW g q P ++ OW g q 23 M) none (RoW g q Po ++ OW g q 23 M) := by
  obtain ⟨⟨hok, k, hk, hkc⟩, hF⟩ := zopen_in hF
  refine zRW_of (cc := cX5_push) (maxL := 3) (ret := none) (by decide) rfl (Nat.le_of_ble_eq_true rfl) ?_
  intro p e s m args below meth c A H locs ls hx hb hr hml hts hown hlk hK hA hP hD hS hl
  have hown : s.vm.findClass RX5 = some m.cls := hown
  have hl : lv_has ls 3 [(0, .ref (q 34)), (1, .ref (q 23))] := hl
  have inX5 : ∀ w ∈ wsX50, w ∈ wsX5_push := fun _ h => List.mem_cons_of_mem _ (List.mem_append_left _ (List.mem_append_right _ h))
  have hT : ∀ (P1 : Ro) (H : Heap) (locs : List Loc) (ls : Array Slot), (¬ P1.2.2 < 0) → (¬ 14 ≤ P1.2.2) → P1.2.1 P1.2.2.toNatClampNeg < 14 → ((f2_copy (P1.1 (P1.2.1 P1.2.2.toNatClampNeg)) M).bind fun M1 => some (va_up P1.1 (P1.2.1 P1.2.2.toNatClampNeg) M1, P1.2.1, P1.2.2 + 1)) = some Po → va_P (zD g) vwCl (RoW g q P1 ++ OW g q 23 M) H → va_D A (RoW g q P1 ++ OW g q 23 M) → va_S A s.heap H locs → lv_has ls 3 [(0, .ref (q 34)), (1, .ref (q 23))] → W p l e (headSpec wsX5_push rmX5_push).room s m args below meth c H locs 0 0 (MQ below (zWQ g A (RoW g q Po ++ OW g q 23 M) none) args s 0 0 A) (F0 m 16 ls []) := by
    intro P1 H locs ls hn1 hn2 hjl hF hP hD hS hl
    refine lv_aload_n hx hb dX5_push_16 rfl (lv_at hl 0 rfl) ?_
    refine lv_aload_n hx hb dX5_push_17 rfl (lv_at hl 0 rfl) ?_
    refine z_get (ci := 5) (v := .int P1.2.2) (C := RX5) (T := TX5) (N := 2) hx hb hts inX5 hown hK hP 0 rfl rfl 1 (by decide) (List.mem_of_getElem? (i := 1) rfl) rfl rfl dX5_push_18 ?_
    refine z_rgo (va_runV (As := [.int P1.2.2]) (rest := []) ⟨hx, hb, hml, hown, hts⟩ (c5_momentAt l g q P1 P1.2.2) (cwV 1 hts gX5_push_X5_momentAt rfl rfl rfl (by decide +kernel) ⟨Nat.le_of_ble_eq_true rfl, Nat.le_of_ble_eq_true rfl⟩) (z_rpreV (ci := 5) (q := (RX5, TX5, 2)) (q0 := 0) (zP_left hP) hK rfl rfl) rfl rfl hl.1 rfl (lv_room (Nat.le_of_ble_eq_true rfl)) dX5_push_21 ⟨Nat.zero_le _, Nat.zero_le _⟩) ?_
    have e0 : f5_at q P1 P1.2.2 = .ref (q (50 + 5 * P1.2.1 P1.2.2.toNatClampNeg)) := by unfold f5_at; rw [if_neg hn1, if_neg hn2]
    rw [e0]
    generalize hj : P1.2.1 P1.2.2.toNatClampNeg = j at hjl hF ⊢
    refine lv_astore_n (lv' := [(2, .ref (q (50 + 5 * j))), (0, .ref (q 34)), (1, .ref (q 23))]) hx hb dX5_push_24 rfl hl (by decide) rfl (fun ls hl => ?_)
    refine lv_aload_n hx hb dX5_push_25 rfl (lv_at hl 0 rfl) ?_
    refine lv_ifnonnull (tgt := 30) hx hb dX5_push_26 (by decide) ?_
    refine lv_aload_n hx hb dX5_push_30 rfl (lv_at hl 0 rfl) ?_
    refine lv_aload_n hx hb dX5_push_31 rfl (lv_at hl 2 rfl) ?_
    obtain ⟨M1, hM1, hF⟩ := zob hF
    refine z_wgoP (wn := (RoW g q (va_up P1.1 j M1, P1.2) ++ OW g q 23 M)) (va_runV (As := [.ref (q 23)]) (rest := []) ⟨hx, hb, hml, hown, hts⟩ ((c2_copy l g q (50 + 5 * j) q 23 (P1.1 j) M M1 hM1) H.size) (cwV 1 hts gX5_push_X2_copy rfl rfl rfl (by decide +kernel) ⟨Nat.le_of_ble_eq_true rfl, Nat.le_of_ble_eq_true rfl⟩) (z_wpreV (ci := 2) (q := (RX2, TX2, 9)) (q0 := 0) (zP_left (zP_perm hP (ro_perm g q P1 M hjl))) hK (z_any (zD_left (zD_perm hD (ro_perm g q P1 M hjl)))) rfl rfl) rfl rfl hl.1 rfl (lv_room (Nat.le_of_ble_eq_true rfl)) dX5_push_32 ⟨Nat.zero_le _, Nat.zero_le _⟩) hP hD hS hA _ (ro_perm g q P1 M hjl) rfl (ro_perm1 g q P1 M M1 hjl) (fun H locs hP hD hS => ?_)
    show W p l e (headSpec wsX5_push rmX5_push).room s m args below meth c H locs 0 0 (MQ below (zWQ g A (RoW g q Po ++ OW g q 23 M) none) args s 0 0 A) (F0 m 35 ls [])
    refine lv_aload_n hx hb dX5_push_35 rfl (lv_at hl 1 rfl) ?_
    refine lv_dup hx hb dX5_push_36 rfl ?_
    refine z_get (ci := 5) (v := .int P1.2.2) (C := RX5) (T := TX5) (N := 2) hx hb hts inX5 hown hK hP 0 rfl rfl 1 (by decide) (List.mem_of_getElem? (i := 1) rfl) rfl rfl dX5_push_37 ?_
    refine lv_iconst (v := 1) hx hb dX5_push_40 (by decide) ?_
    refine lv_iadd hx hb dX5_push_41 ?_
    refine z_put (ci := 5) (v := .int (P1.2.2 + 1)) (C := RX5) (T := TX5) (N := 2) (ws' := (RoW g q (va_up P1.1 j M1, P1.2.1, P1.2.2 + 1) ++ OW g q 23 M)) hx hb hts inX5 tyX5 tyX5_ok nmX5 hown hK hP hD hS 0 rfl rfl 1 (by decide) (List.mem_of_getElem? (i := 1) rfl) rfl rfl rfl rfl (Nat.le_of_ble_eq_true rfl) rfl dX5_push_42 (fun H locs hP hD hS => ?_)
    cases hF
    exact z_wv hx hb hr hlk hP hD hS rfl dX5_push_45
  refine lv_aload_n hx hb dX5_push_0 rfl (lv_at hl 0 rfl) ?_
  refine z_get (ci := 5) (v := .int P.2.2) (C := RX5) (T := TX5) (N := 2) hx hb hts inX5 hown hK hP 0 rfl rfl 1 (by decide) (List.mem_of_getElem? (i := 1) rfl) rfl rfl dX5_push_1 ?_
  refine lv_aload_n hx hb dX5_push_4 rfl (lv_at hl 0 rfl) ?_
  refine z_get (ci := 5) (v := .ref (q 35)) (C := RX5) (T := TX5) (N := 2) hx hb hts inX5 hown hK hP 0 rfl rfl 0 (by decide) (List.mem_of_getElem? (i := 2) rfl) rfl rfl dX5_push_5 ?_
  refine va_alen (v := 14) hx hb hK.1 hP 1 2 rfl rfl rfl dX5_push_8 ?_
  refine lv_icmp_lt (tgt := 16) hx hb dX5_push_9 (by decide) (fun c1 => ?_) (fun c1 => ?_)
  · have hk2 : k < 14 := by
      rw [hkc] at c1
      exact (nI_ltI (b := 14) (by omega) (by decide)).mp c1
    have hfu : f5_full P = P := by unfold f5_full; rw [if_neg (by rw [hkc]; exact nI_ge (b := 14) hk2 (by decide))]
    rw [hfu] at hF
    refine hT P H locs ls (by rw [hkc]; exact nI_pos (by omega)) (by rw [hkc]; exact nI_ge (b := 14) hk2 (by decide)) (hok _ (by rw [hkc, nI_clamp (by omega)]; exact hk2)) hF hP hD hS (lv_sub hl [0, 1] rfl)
  · have hk2 : k = 14 := by
      rw [hkc] at c1
      have hk9 : ¬ k < 14 := fun h => c1 ((nI_ltI (a := k) (b := 14) (by omega) (by decide)).mpr h)
      omega
    have hfu : f5_full P = f5_forget P := by unfold f5_full; rw [if_pos (by rw [hkc, hk2]; decide)]
    rw [hfu] at hF
    refine lv_aload_n hx hb dX5_push_12 rfl (lv_at hl 0 rfl) ?_
    refine z_wgoP (wn := (RoW g q (f5_forget P) ++ OW g q 23 M)) (va_runV (As := []) (rest := []) ⟨hx, hb, hml, hown, hts⟩ ((c5_forgetFirst l g q P hok) H.size) (cwV 0 hts gX5_push_X5_forgetFirst rfl rfl rfl (by decide +kernel) ⟨Nat.le_of_ble_eq_true rfl, Nat.le_of_ble_eq_true rfl⟩) (z_wpreV (ci := 5) (q := (RX5, TX5, 2)) (q0 := 0) (zP_left hP) hK (z_any (zD_left hD)) rfl rfl) rfl rfl hl.1 rfl (lv_room (Nat.le_of_ble_eq_true rfl)) dX5_push_13 ⟨Nat.zero_le _, Nat.zero_le _⟩) hP hD hS hA (OW g q 23 M) (List.Perm.refl _) rfl (List.Perm.refl _) (fun H locs hP hD hS => ?_)
    show W p l e (headSpec wsX5_push rmX5_push).room s m args below meth c H locs 0 0 (MQ below (zWQ g A (RoW g q Po ++ OW g q 23 M) none) args s 0 0 A) (F0 m 16 ls [])
    exact hT (f5_forget P) H locs ls (show ¬ (13 : Int32) < 0 by decide) (show ¬ (14 : Int32) ≤ 13 by decide) (show P.2.1 0 < 14 from hok 0 (by decide)) hF hP hD hS (lv_sub hl [0, 1] rfl)
set_option maxHeartbeats 4000000 in
set_option maxRecDepth 100000 in
theorem c5_popInto (l : Launch) (g : zG) (q : Nat → Nat) (P : Ro) (M : Mo) (Po : Ro) (Mo_ : Mo) (hF : f5_pop P M = some (Po, Mo_)) : zRW l g yX5_popInto wsX5_popInto rmX5_popInto [.ref (q 34), .ref (q 23)] (RoW g q P ++ OW g q 23 M) none (RoW g q Po ++ OW g q 23 Mo_) := by
  obtain ⟨⟨hok, k, hk, hkc⟩, hF⟩ := zopen_in hF
  refine zRW_of (cc := cX5_popInto) (maxL := 3) (ret := none) (by decide) rfl (Nat.le_of_ble_eq_true rfl) ?_
  intro p e s m args below meth c A H locs ls hx hb hr hml hts hown hlk hK hA hP hD hS hl
  have hown : s.vm.findClass RX5 = some m.cls := hown
  have hl : lv_has ls 3 [(0, .ref (q 34)), (1, .ref (q 23))] := hl
  have inX5 : ∀ w ∈ wsX50, w ∈ wsX5_popInto := fun _ h => List.mem_cons_of_mem _ (List.mem_append_left _ (List.mem_append_right _ h))
  have ek : P.2.2 - 1 = nI k := by rw [hkc]; exact nI_pred k
  refine lv_aload_n hx hb dX5_popInto_0 rfl (lv_at hl 0 rfl) ?_
  refine lv_aload_n hx hb dX5_popInto_1 rfl (lv_at hl 0 rfl) ?_
  refine z_get (ci := 5) (v := .int P.2.2) (C := RX5) (T := TX5) (N := 2) hx hb hts inX5 hown hK hP 0 rfl rfl 1 (by decide) (List.mem_of_getElem? (i := 1) rfl) rfl rfl dX5_popInto_2 ?_
  refine lv_iconst (v := 1) hx hb dX5_popInto_5 (by decide) ?_
  refine lv_isub hx hb dX5_popInto_6 ?_
  refine z_rgo (va_runV (As := [.int (P.2.2 - 1)]) (rest := []) ⟨hx, hb, hml, hown, hts⟩ (c5_momentAt l g q P (P.2.2 - 1)) (cwV 1 hts gX5_popInto_X5_momentAt rfl rfl rfl (by decide +kernel) ⟨Nat.le_of_ble_eq_true rfl, Nat.le_of_ble_eq_true rfl⟩) (z_rpreV (ci := 5) (q := (RX5, TX5, 2)) (q0 := 0) (zP_left hP) hK rfl rfl) rfl rfl hl.1 rfl (lv_room (Nat.le_of_ble_eq_true rfl)) dX5_popInto_7 ⟨Nat.zero_le _, Nat.zero_le _⟩) ?_
  have e0 : f5_at q P (P.2.2 - 1) = .ref (q (50 + 5 * P.2.1 (P.2.2 - 1).toNatClampNeg)) := by unfold f5_at; rw [if_neg (by rw [ek]; exact nI_pos (by omega)), if_neg (by rw [ek]; exact nI_ge (b := 14) hk (by decide))]
  rw [e0]
  have hjl : P.2.1 (P.2.2 - 1).toNatClampNeg < 14 := hok _ (by rw [ek, nI_clamp (by omega)]; exact hk)
  generalize hj : P.2.1 (P.2.2 - 1).toNatClampNeg = j at hjl hF ⊢
  refine lv_astore_n (lv' := [(2, .ref (q (50 + 5 * j))), (0, .ref (q 34)), (1, .ref (q 23))]) hx hb dX5_popInto_10 rfl hl (by decide) rfl (fun ls hl => ?_)
  refine lv_aload_n hx hb dX5_popInto_11 rfl (lv_at hl 0 rfl) ?_
  refine lv_ifnonnull (tgt := 16) hx hb dX5_popInto_12 (by decide) ?_
  refine lv_aload_n hx hb dX5_popInto_16 rfl (lv_at hl 2 rfl) ?_
  refine lv_aload_n hx hb dX5_popInto_17 rfl (lv_at hl 0 rfl) ?_
  obtain ⟨M1, hM1, hF⟩ := zob hF
  refine z_wgoP (wn := (RoW g q P ++ OW g q 23 M1)) (va_runV (As := [.ref (q (50 + 5 * j))]) (rest := []) ⟨hx, hb, hml, hown, hts⟩ ((c2_copy l g q 23 q (50 + 5 * j) M (P.1 j) M1 hM1) H.size) (cwV 1 hts gX5_popInto_X2_copy rfl rfl rfl (by decide +kernel) ⟨Nat.le_of_ble_eq_true rfl, Nat.le_of_ble_eq_true rfl⟩) (z_wpreV (ci := 2) (q := (RX2, TX2, 9)) (q0 := 0) (zP_left (zP_perm hP (ro_permN g q P M hjl))) hK (z_any (zD_left (zD_perm hD (ro_permN g q P M hjl)))) rfl rfl) rfl rfl hl.1 rfl (lv_room (Nat.le_of_ble_eq_true rfl)) dX5_popInto_18 ⟨Nat.zero_le _, Nat.zero_le _⟩) hP hD hS hA _ (ro_permN g q P M hjl) rfl (ro_permN g q P M1 hjl).symm (fun H locs hP hD hS => ?_)
  show W p l e (headSpec wsX5_popInto rmX5_popInto).room s m args below meth c H locs 0 0 (MQ below (zWQ g A (RoW g q Po ++ OW g q 23 Mo_) none) args s 0 0 A) (F0 m 21 ls [])
  refine lv_aload_n hx hb dX5_popInto_21 rfl (lv_at hl 1 rfl) ?_
  refine lv_dup hx hb dX5_popInto_22 rfl ?_
  refine z_get (ci := 5) (v := .int P.2.2) (C := RX5) (T := TX5) (N := 2) hx hb hts inX5 hown hK hP 0 rfl rfl 1 (by decide) (List.mem_of_getElem? (i := 1) rfl) rfl rfl dX5_popInto_23 ?_
  refine lv_iconst (v := 1) hx hb dX5_popInto_26 (by decide) ?_
  refine lv_isub hx hb dX5_popInto_27 ?_
  refine z_put (ci := 5) (v := .int (P.2.2 - 1)) (C := RX5) (T := TX5) (N := 2) (ws' := (RoW g q (P.1, P.2.1, P.2.2 - 1) ++ OW g q 23 M1)) hx hb hts inX5 tyX5 tyX5_ok nmX5 hown hK hP hD hS 0 rfl rfl 1 (by decide) (List.mem_of_getElem? (i := 1) rfl) rfl rfl rfl rfl (Nat.le_of_ble_eq_true rfl) rfl dX5_popInto_28 (fun H locs hP hD hS => ?_)
  cases hF
  exact z_wv hx hb hr hlk hP hD hS rfl dX5_popInto_31

set_option maxHeartbeats 4000000 in
set_option maxRecDepth 100000 in
theorem c6_slot0 (l : Launch) (g : zG) (q : Nat → Nat) (C : Cs) (x1 : Int32) (hc : x1 = 0) : zRO l g yX6_slotOf wsX6_slotOf zr0 [.ref (q 0), .int x1] (CW g q C) (some (.ref (q 36))) := by
  refine zRO_of (cc := cX6_slotOf) (maxL := 2) (ret := (some (.object "ManholeBirths$Moment"))) (by decide) rfl (Nat.le_of_ble_eq_true rfl) ?_
  intro p e s m args below meth c ls hx hb hr hml hts hown hlk hK hP hl
  have hown : s.vm.findClass RX6 = some m.cls := hown
  have hl : lv_has ls 2 [(0, .ref (q 0)), (1, .int x1)] := hl
  have inX6 : ∀ w ∈ wsX60, w ∈ wsX6_slotOf := fun _ h => List.mem_cons_of_mem _ (List.mem_append_right _ h)
  refine lv_iload_n hx hb dX6_slotOf_0 rfl (lv_at hl 1 rfl) ?_
  refine lv_if_ne (tgt := 11) hx hb dX6_slotOf_1 (by decide) (fun c1 => absurd hc c1) (fun c1 => ?_)
  refine lv_aload_n hx hb dX6_slotOf_4 rfl (lv_at hl 0 rfl) ?_
  refine z_get (ci := 6) (v := .ref (q 36)) (C := RX6) (T := TX6) (N := 13) hx hb hts inX6 hown hK hP 0 rfl rfl 8 (by decide) (List.mem_of_getElem? (i := 1) rfl) rfl rfl dX6_slotOf_5 ?_
  refine lv_goto (tgt := 15) hx hb dX6_slotOf_8 (by decide) ?_
  exact z_ra hx hb hr hlk (Or.inr ⟨_, rfl⟩) rfl dX6_slotOf_15
set_option maxHeartbeats 4000000 in
set_option maxRecDepth 100000 in
theorem c6_slot1 (l : Launch) (g : zG) (q : Nat → Nat) (C : Cs) (x1 : Int32) (hc : ¬ x1 = 0) : zRO l g yX6_slotOf wsX6_slotOf zr0 [.ref (q 0), .int x1] (CW g q C) (some (.ref (q 41))) := by
  refine zRO_of (cc := cX6_slotOf) (maxL := 2) (ret := (some (.object "ManholeBirths$Moment"))) (by decide) rfl (Nat.le_of_ble_eq_true rfl) ?_
  intro p e s m args below meth c ls hx hb hr hml hts hown hlk hK hP hl
  have hown : s.vm.findClass RX6 = some m.cls := hown
  have hl : lv_has ls 2 [(0, .ref (q 0)), (1, .int x1)] := hl
  have inX6 : ∀ w ∈ wsX60, w ∈ wsX6_slotOf := fun _ h => List.mem_cons_of_mem _ (List.mem_append_right _ h)
  refine lv_iload_n hx hb dX6_slotOf_0 rfl (lv_at hl 1 rfl) ?_
  refine lv_if_ne (tgt := 11) hx hb dX6_slotOf_1 (by decide) (fun c1 => ?_) (fun c1 => absurd c1 hc)
  refine lv_aload_n hx hb dX6_slotOf_11 rfl (lv_at hl 0 rfl) ?_
  refine z_get (ci := 6) (v := .ref (q 41)) (C := RX6) (T := TX6) (N := 13) hx hb hts inX6 hown hK hP 0 rfl rfl 9 (by decide) (List.mem_of_getElem? (i := 2) rfl) rfl rfl dX6_slotOf_12 ?_
  exact z_ra hx hb hr hlk (Or.inr ⟨_, rfl⟩) rfl dX6_slotOf_15

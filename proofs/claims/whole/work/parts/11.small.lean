def f0_add (U : He) (x1 : Int32) (x2 : Int32) (x3 : Int32) : Option (He) := bd (uA U 0 (f6_put 6 (U.1 0) (U.2) x1)) (fun (U1 : He) => bd (uA U1 1 (f6_put 6 (U1.1 1) (U1.2) x2)) (fun (U2 : He) => bd (uA U2 2 (f6_put 6 (U2.1 2) (U2.2) x3)) (fun (U3 : He) => bd (uL U3 ((U3.2) + 1)) (fun (U4 : He) => some U4))))
abbrev rmX0_add : Room := { frames := 1, cells := 0, slots := 0, locals := 22 }
set_option maxHeartbeats 4000000 in
set_option maxRecDepth 100000 in
theorem c0_add (l : Launch) (g : zG) (q : Nat → Nat) (b : Nat) (U : He) (x1 : Int32) (x2 : Int32) (x3 : Int32) (U_o : He) (hF : f0_add U x1 x2 x3 = some U_o) : zRW l g yX0_add wsX0_add rmX0_add [.ref (q b), .int x1, .int x2, .int x3] (HW g q b U) none (HW g q b U_o) := by
  refine zRW_of (cc := cX0_add) (maxL := 4) (ret := none) (by decide) rfl (Nat.le_of_ble_eq_true rfl) ?_
  intro p e s m args below meth c A H locs ls hx hb hr hml hts hown hlk hK hA hP hD hS hl
  have hown : s.vm.findClass RX0 = some m.cls := hown
  have hl : lv_has ls 4 [(0, .ref (q b)), (1, .int x1), (2, .int x2), (3, .int x3)] := hl
  have inX0 : ∀ w ∈ wsX00, w ∈ wsX0_add := fun _ h => List.mem_cons_of_mem _ (List.mem_append_right _ h)
  unfold f0_add at hF
  refine lv_aload_n hx hb dX0_add_0 rfl (lv_at hl 0 rfl) ?_
  refine z_get (ci := 0) (v := .ref (q (b + 1))) (C := RX0) (T := TX0) (N := 4) hx hb hts inX0 hown hK hP 0 rfl rfl 0 (by decide) (List.mem_of_getElem? (i := 1) rfl) rfl rfl dX0_add_1 ?_
  refine lv_aload_n hx hb dX0_add_4 rfl (lv_at hl 0 rfl) ?_
  refine z_get (ci := 0) (v := .int (U.2)) (C := RX0) (T := TX0) (N := 4) hx hb hts inX0 hown hK hP 0 rfl rfl 3 (by decide) (List.mem_of_getElem? (i := 2) rfl) rfl rfl dX0_add_5 ?_
  refine lv_iload_n hx hb dX0_add_8 rfl (lv_at hl 1 rfl) ?_
  refine z_wgo (wn := HW g q b (uA U 0 (f6_put 6 (U.1 0) (U.2) x1))) (va_runSN (As := [.ref (q (b + 1)), .int (U.2), .int x1]) (rest := []) ⟨hx, hb, hml, hown, hts⟩ ((c6_put l g (q (b + 1)) 6 (by decide) (U.1 0) (U.2) x1) H.size) ⟨va_cnB 3 hts gX0_add_X6_put_n25 rfl rfl rfl (hK.nest 21 rfl) (hts (.initialized RX6) (List.mem_of_getElem? (i := 6) rfl)) (by decide +kernel) ⟨Nat.le_of_ble_eq_true rfl, Nat.le_of_ble_eq_true rfl⟩, hts (.static yX6_put) (List.mem_of_getElem? (i := 5) rfl), trivial⟩ (z_wpre (hP.sub (ws' := [((q (b + 1)), .inl (g.2.2.1, 6, .inl (U.1 0)))]) [1] rfl) hK (z_any (hD.sub (ws' := [((q (b + 1)), .inl (g.2.2.1, 6, .inl (U.1 0)))]) [1] (by decide) rfl))) rfl rfl hl.1 rfl (lv_room (Nat.le_of_ble_eq_true rfl)) dX0_add_9 ⟨Nat.zero_le _, Nat.zero_le _⟩) hP hD hS hA [1] rfl (by decide) rfl rfl (fun H locs hP hD hS => ?_)
  show W p l e (headSpec wsX0_add rmX0_add).room s m args below meth c H locs 0 0 (MQ below (zWQ g A (HW g q b U_o) none) args s 0 0 A) (F0 m 12 ls [])
  obtain ⟨U1, eU1⟩ : ∃ y : He, y = (uA U 0 (f6_put 6 (U.1 0) (U.2) x1)) := ⟨_, rfl⟩
  rw [← eU1] at hP hD
  have hF := bd_eq eU1 hF
  refine lv_aload_n hx hb dX0_add_12 rfl (lv_at hl 0 rfl) ?_
  refine z_get (ci := 0) (v := .ref (q (b + 2))) (C := RX0) (T := TX0) (N := 4) hx hb hts inX0 hown hK hP 0 rfl rfl 1 (by decide) (List.mem_of_getElem? (i := 3) rfl) rfl rfl dX0_add_13 ?_
  refine lv_aload_n hx hb dX0_add_16 rfl (lv_at hl 0 rfl) ?_
  refine z_get (ci := 0) (v := .int (U1.2)) (C := RX0) (T := TX0) (N := 4) hx hb hts inX0 hown hK hP 0 rfl rfl 3 (by decide) (List.mem_of_getElem? (i := 2) rfl) rfl rfl dX0_add_17 ?_
  refine lv_iload_n hx hb dX0_add_20 rfl (lv_at hl 2 rfl) ?_
  refine z_wgo (wn := HW g q b (uA U1 1 (f6_put 6 (U1.1 1) (U1.2) x2))) (va_runSN (As := [.ref (q (b + 2)), .int (U1.2), .int x2]) (rest := []) ⟨hx, hb, hml, hown, hts⟩ ((c6_put l g (q (b + 2)) 6 (by decide) (U1.1 1) (U1.2) x2) H.size) ⟨va_cnB 3 hts gX0_add_X6_put_n25 rfl rfl rfl (hK.nest 21 rfl) (hts (.initialized RX6) (List.mem_of_getElem? (i := 6) rfl)) (by decide +kernel) ⟨Nat.le_of_ble_eq_true rfl, Nat.le_of_ble_eq_true rfl⟩, hts (.static yX6_put) (List.mem_of_getElem? (i := 5) rfl), trivial⟩ (z_wpre (hP.sub (ws' := [((q (b + 2)), .inl (g.2.2.1, 6, .inl (U1.1 1)))]) [2] rfl) hK (z_any (hD.sub (ws' := [((q (b + 2)), .inl (g.2.2.1, 6, .inl (U1.1 1)))]) [2] (by decide) rfl))) rfl rfl hl.1 rfl (lv_room (Nat.le_of_ble_eq_true rfl)) dX0_add_21 ⟨Nat.zero_le _, Nat.zero_le _⟩) hP hD hS hA [2] rfl (by decide) rfl rfl (fun H locs hP hD hS => ?_)
  show W p l e (headSpec wsX0_add rmX0_add).room s m args below meth c H locs 0 0 (MQ below (zWQ g A (HW g q b U_o) none) args s 0 0 A) (F0 m 24 ls [])
  obtain ⟨U2, eU2⟩ : ∃ y : He, y = (uA U1 1 (f6_put 6 (U1.1 1) (U1.2) x2)) := ⟨_, rfl⟩
  rw [← eU2] at hP hD
  have hF := bd_eq eU2 hF
  refine lv_aload_n hx hb dX0_add_24 rfl (lv_at hl 0 rfl) ?_
  refine z_get (ci := 0) (v := .ref (q (b + 3))) (C := RX0) (T := TX0) (N := 4) hx hb hts inX0 hown hK hP 0 rfl rfl 2 (by decide) (List.mem_of_getElem? (i := 4) rfl) rfl rfl dX0_add_25 ?_
  refine lv_aload_n hx hb dX0_add_28 rfl (lv_at hl 0 rfl) ?_
  refine z_get (ci := 0) (v := .int (U2.2)) (C := RX0) (T := TX0) (N := 4) hx hb hts inX0 hown hK hP 0 rfl rfl 3 (by decide) (List.mem_of_getElem? (i := 2) rfl) rfl rfl dX0_add_29 ?_
  refine lv_iload_n hx hb dX0_add_32 rfl (lv_at hl 3 rfl) ?_
  refine z_wgo (wn := HW g q b (uA U2 2 (f6_put 6 (U2.1 2) (U2.2) x3))) (va_runSN (As := [.ref (q (b + 3)), .int (U2.2), .int x3]) (rest := []) ⟨hx, hb, hml, hown, hts⟩ ((c6_put l g (q (b + 3)) 6 (by decide) (U2.1 2) (U2.2) x3) H.size) ⟨va_cnB 3 hts gX0_add_X6_put_n25 rfl rfl rfl (hK.nest 21 rfl) (hts (.initialized RX6) (List.mem_of_getElem? (i := 6) rfl)) (by decide +kernel) ⟨Nat.le_of_ble_eq_true rfl, Nat.le_of_ble_eq_true rfl⟩, hts (.static yX6_put) (List.mem_of_getElem? (i := 5) rfl), trivial⟩ (z_wpre (hP.sub (ws' := [((q (b + 3)), .inl (g.2.2.1, 6, .inl (U2.1 2)))]) [3] rfl) hK (z_any (hD.sub (ws' := [((q (b + 3)), .inl (g.2.2.1, 6, .inl (U2.1 2)))]) [3] (by decide) rfl))) rfl rfl hl.1 rfl (lv_room (Nat.le_of_ble_eq_true rfl)) dX0_add_33 ⟨Nat.zero_le _, Nat.zero_le _⟩) hP hD hS hA [3] rfl (by decide) rfl rfl (fun H locs hP hD hS => ?_)
  show W p l e (headSpec wsX0_add rmX0_add).room s m args below meth c H locs 0 0 (MQ below (zWQ g A (HW g q b U_o) none) args s 0 0 A) (F0 m 36 ls [])
  obtain ⟨U3, eU3⟩ : ∃ y : He, y = (uA U2 2 (f6_put 6 (U2.1 2) (U2.2) x3)) := ⟨_, rfl⟩
  rw [← eU3] at hP hD
  have hF := bd_eq eU3 hF
  refine lv_aload_n hx hb dX0_add_36 rfl (lv_at hl 0 rfl) ?_
  refine lv_dup hx hb dX0_add_37 rfl ?_
  refine z_get (ci := 0) (v := .int (U3.2)) (C := RX0) (T := TX0) (N := 4) hx hb hts inX0 hown hK hP 0 rfl rfl 3 (by decide) (List.mem_of_getElem? (i := 2) rfl) rfl rfl dX0_add_38 ?_
  refine lv_iconst (v := 1) hx hb dX0_add_41 (by decide) ?_
  refine lv_iadd hx hb dX0_add_42 ?_
  refine z_put (ci := 0) (v := .int ((U3.2) + 1)) (C := RX0) (T := TX0) (N := 4) (ws' := HW g q b (uL U3 ((U3.2) + 1))) hx hb hts inX0 tyX0 tyX0_ok nmX0 hown hK hP hD hS 0 rfl rfl 3 (by decide) (List.mem_of_getElem? (i := 2) rfl) rfl rfl rfl rfl (Nat.le_of_ble_eq_true rfl) rfl dX0_add_43 (fun H locs hP hD hS => ?_)
  obtain ⟨U4, eU4⟩ : ∃ y : He, y = (uL U3 ((U3.2) + 1)) := ⟨_, rfl⟩
  rw [← eU4] at hP hD
  have hF := bd_eq eU4 hF
  have e9b := zin hF
  exact z_wv hx hb hr hlk hP hD hS (by rw [e9b]) dX0_add_46
def f0_allows_l3 (x1 : Int32) (x2 : Int32) (x3 : Int32) (x4 : Int32) (U : He) : Nat → Int32 → Option (Int32)
  | 0, _ => none
  | n3 + 1, y1 => if (U.2) ≤ y1 then some 1 else bd (α := Int32) (if (f6_cell 6 (U.1 0) y1) = x1 then if (f6_cell 6 (U.1 2) y1) = x2 then 1 else 0 else 0) (fun (v3 : Int32) => bd (α := Int32) (f6_cell 6 (U.1 1) y1) (fun (v6 : Int32) => if v3 = 0 then f0_allows_l3 x1 x2 x3 x4 U n3 (y1 + 1) else if x4 ≤ v6 then f0_allows_l3 x1 x2 x3 x4 U n3 (y1 + 1) else if v6 = x3 then f0_allows_l3 x1 x2 x3 x4 U n3 (y1 + 1) else some 0))
def f0_allows (U : He) (x1 : Int32) (x2 : Int32) (x3 : Int32) (x4 : Int32) : Option (Int32) := f0_allows_l3 x1 x2 x3 x4 U FU 0
abbrev rmX0_allows : Room := { frames := 1, cells := 0, slots := 0, locals := 21 }
set_option maxHeartbeats 4000000 in
set_option maxRecDepth 100000 in
theorem c0_allows (l : Launch) (g : zG) (q : Nat → Nat) (b : Nat) (U : He) (x1 : Int32) (x2 : Int32) (x3 : Int32) (x4 : Int32) (ro : Int32) (hF : f0_allows U x1 x2 x3 x4 = some ro) : zRO l g yX0_allows wsX0_allows rmX0_allows [.ref (q b), .int x1, .int x2, .int x3, .int x4] (HW g q b U) (some (.int ro)) := by
  refine zRO_of (cc := cX0_allows) (maxL := 8) (ret := (some .boolean)) (by decide) rfl (Nat.le_of_ble_eq_true rfl) ?_
  intro p e s m args below meth c ls hx hb hr hml hts hown hlk hK hP hl
  have hown : s.vm.findClass RX0 = some m.cls := hown
  have hl : lv_has ls 8 [(0, .ref (q b)), (1, .int x1), (2, .int x2), (3, .int x3), (4, .int x4)] := hl
  have inX0 : ∀ w ∈ wsX00, w ∈ wsX0_allows := fun _ h => List.mem_cons_of_mem _ (List.mem_append_right _ h)
  unfold f0_allows at hF
  refine lv_iconst (v := 0) hx hb dX0_allows_0 (by decide) ?_
  refine lv_istore (lv' := [(5, .int 0), (0, .ref (q b)), (1, .int x1), (2, .int x2), (3, .int x3), (4, .int x4)]) hx hb dX0_allows_1 hl (by decide) rfl (fun ls hl => ?_)
  have L3 : ∀ (n3 : Nat) (y1 : Int32) (ls : Array Slot), f0_allows_l3 x1 x2 x3 x4 U n3 y1 = some ro → lv_has ls 8 [(0, .ref (q b)), (1, .int x1), (2, .int x2), (3, .int x3), (4, .int x4), (5, .int y1)] → W p l e (headSpec wsX0_allows rmX0_allows).room s m args below meth c s.heap [] 0 0 (MQ below (zRQ (some (.int ro))) args s 0 0 (fun _ => False)) (F0 m 3 ls []) := by
    intro n3
    induction n3 with
    | zero =>
      intro y1 ls hF hl
      exact absurd (show (none : Option (Int32)) = some _ from hF) (fun h9 => by cases h9)
    | succ n3 ih3 =>
      intro y1 ls hF hl
      rw [f0_allows_l3] at hF
      refine lv_iload hx hb dX0_allows_3 (lv_at hl 5 rfl) ?_
      refine lv_aload_n hx hb dX0_allows_5 rfl (lv_at hl 0 rfl) ?_
      refine z_get (ci := 0) (v := .int (U.2)) (C := RX0) (T := TX0) (N := 4) hx hb hts inX0 hown hK hP 0 rfl rfl 3 (by decide) (List.mem_of_getElem? (i := 1) rfl) rfl rfl dX0_allows_6 ?_
      refine lv_icmp_ge (tgt := 82) hx hb dX0_allows_9 (by decide) (fun c2 => ?_) (fun c2 => ?_)
      · have hF := zit c2 hF
        refine lv_iconst (v := 1) hx hb dX0_allows_82 (by decide) ?_
        have e9a := zin hF
        exact z_rz hx hb hr hlk rfl (congrArg (fun z => some (Value.int z)) e9a) dX0_allows_83
      · have hF := zif c2 hF
        refine lv_aload_n hx hb dX0_allows_12 rfl (lv_at hl 0 rfl) ?_
        refine z_get (ci := 0) (v := .ref (q (b + 1))) (C := RX0) (T := TX0) (N := 4) hx hb hts inX0 hown hK hP 0 rfl rfl 0 (by decide) (List.mem_of_getElem? (i := 2) rfl) rfl rfl dX0_allows_13 ?_
        refine lv_iload hx hb dX0_allows_16 (lv_at hl 5 rfl) ?_
        refine z_rgo (va_runSN (As := [.ref (q (b + 1)), .int y1]) (rest := []) ⟨hx, hb, hml, hown, hts⟩ (c6_cell l g (q (b + 1)) 6 (by decide) (U.1 0) y1) ⟨va_cnB 2 hts gX0_allows_X6_cell_n29 rfl rfl rfl (hK.nest 22 rfl) (hts (.initialized RX6) (List.mem_of_getElem? (i := 6) rfl)) (by decide +kernel) ⟨Nat.le_of_ble_eq_true rfl, Nat.le_of_ble_eq_true rfl⟩, hts (.static yX6_cell) (List.mem_of_getElem? (i := 5) rfl), trivial⟩ (z_rpre (hP.sub (ws' := [((q (b + 1)), .inl (g.2.2.1, 6, .inl (U.1 0)))]) [1] rfl) hK) rfl rfl hl.1 rfl (lv_room (Nat.le_of_ble_eq_true rfl)) dX0_allows_18 ⟨Nat.zero_le _, Nat.zero_le _⟩) ?_
        refine lv_iload_n hx hb dX0_allows_21 rfl (lv_at hl 1 rfl) ?_
        obtain ⟨v3, hVv3⟩ : ∃ y : Int32, (if (f6_cell 6 (U.1 0) y1) = x1 then if (f6_cell 6 (U.1 2) y1) = x2 then 1 else 0 else 0 : Int32) = y := ⟨_, rfl⟩
        have hF := bd_eq hVv3.symm hF
        have Jv3 : W p l e (headSpec wsX0_allows rmX0_allows).room s m args below meth c s.heap [] 0 0 (MQ below (zRQ (some (.int ro))) args s 0 0 (fun _ => False)) (F0 m 43 ls [.int v3]) := by
          refine lv_istore (lv' := [(6, .int v3), (0, .ref (q b)), (1, .int x1), (2, .int x2), (3, .int x3), (4, .int x4), (5, .int y1)]) hx hb dX0_allows_43 hl (by decide) rfl (fun ls hl => ?_)
          refine lv_aload_n hx hb dX0_allows_45 rfl (lv_at hl 1 rfl) ?_
          refine z_get (ci := 0) (v := .ref (q (b + 2))) (C := RX0) (T := TX0) (N := 4) hx hb hts inX0 hown hK hP 0 rfl rfl 1 (by decide) (List.mem_of_getElem? (i := 4) rfl) rfl rfl dX0_allows_46 ?_
          refine lv_iload hx hb dX0_allows_49 (lv_at hl 6 rfl) ?_
          refine z_rgo (va_runSN (As := [.ref (q (b + 2)), .int y1]) (rest := []) ⟨hx, hb, hml, hown, hts⟩ (c6_cell l g (q (b + 2)) 6 (by decide) (U.1 1) y1) ⟨va_cnB 2 hts gX0_allows_X6_cell_n29 rfl rfl rfl (hK.nest 22 rfl) (hts (.initialized RX6) (List.mem_of_getElem? (i := 6) rfl)) (by decide +kernel) ⟨Nat.le_of_ble_eq_true rfl, Nat.le_of_ble_eq_true rfl⟩, hts (.static yX6_cell) (List.mem_of_getElem? (i := 5) rfl), trivial⟩ (z_rpre (hP.sub (ws' := [((q (b + 2)), .inl (g.2.2.1, 6, .inl (U.1 1)))]) [2] rfl) hK) rfl rfl hl.1 rfl (lv_room (Nat.le_of_ble_eq_true rfl)) dX0_allows_51 ⟨Nat.zero_le _, Nat.zero_le _⟩) ?_
          refine lv_topi (fun v6 ev6 => ?_)
          have hF := bd_eq ev6 hF
          refine lv_istore (lv' := [(7, .int v6), (6, .int v3), (0, .ref (q b)), (1, .int x1), (2, .int x2), (3, .int x3), (4, .int x4), (5, .int y1)]) hx hb dX0_allows_54 hl (by decide) rfl (fun ls hl => ?_)
          refine lv_iload hx hb dX0_allows_56 (lv_at hl 1 rfl) ?_
          refine lv_if_eq (tgt := 76) hx hb dX0_allows_58 (by decide) (fun c7 => ?_) (fun c7 => ?_)
          · have hF := zit c7 hF
            refine lv_iinc (v := (y1 + 1)) (lv' := [(5, .int (y1 + 1)), (7, .int v6), (6, .int v3), (0, .ref (q b)), (1, .int x1), (2, .int x2), (3, .int x3), (4, .int x4)]) hx hb dX0_allows_76 hl (k := 7) rfl rfl (by decide) rfl (fun ls hl => ?_)
            refine lv_goto (tgt := 3) hx hb dX0_allows_79 (by decide) ?_
            exact ih3 (y1 + 1) ls hF (lv_sub hl [3, 4, 5, 6, 7, 0] rfl)
          · have hF := zif c7 hF
            refine lv_iload hx hb dX0_allows_61 (lv_at hl 0 rfl) ?_
            refine lv_iload hx hb dX0_allows_63 (lv_at hl 6 rfl) ?_
            refine lv_icmp_ge (tgt := 76) hx hb dX0_allows_65 (by decide) (fun c8 => ?_) (fun c8 => ?_)
            · have hF := zit c8 hF
              refine lv_iinc (v := (y1 + 1)) (lv' := [(5, .int (y1 + 1)), (7, .int v6), (6, .int v3), (0, .ref (q b)), (1, .int x1), (2, .int x2), (3, .int x3), (4, .int x4)]) hx hb dX0_allows_76 hl (k := 7) rfl rfl (by decide) rfl (fun ls hl => ?_)
              refine lv_goto (tgt := 3) hx hb dX0_allows_79 (by decide) ?_
              exact ih3 (y1 + 1) ls hF (lv_sub hl [3, 4, 5, 6, 7, 0] rfl)
            · have hF := zif c8 hF
              refine lv_iload hx hb dX0_allows_68 (lv_at hl 0 rfl) ?_
              refine lv_iload_n hx hb dX0_allows_70 rfl (lv_at hl 5 rfl) ?_
              refine lv_icmp_eq (tgt := 76) hx hb dX0_allows_71 (by decide) (fun c9 => ?_) (fun c9 => ?_)
              · have hF := zit c9 hF
                refine lv_iinc (v := (y1 + 1)) (lv' := [(5, .int (y1 + 1)), (7, .int v6), (6, .int v3), (0, .ref (q b)), (1, .int x1), (2, .int x2), (3, .int x3), (4, .int x4)]) hx hb dX0_allows_76 hl (k := 7) rfl rfl (by decide) rfl (fun ls hl => ?_)
                refine lv_goto (tgt := 3) hx hb dX0_allows_79 (by decide) ?_
                exact ih3 (y1 + 1) ls hF (lv_sub hl [3, 4, 5, 6, 7, 0] rfl)
              · have hF := zif c9 hF
                refine lv_iconst (v := 0) hx hb dX0_allows_74 (by decide) ?_
                have e9a := zin hF
                exact z_rz hx hb hr hlk rfl (congrArg (fun z => some (Value.int z)) e9a) dX0_allows_75
        refine lv_icmp_ne (tgt := 42) hx hb dX0_allows_22 (by decide) (fun c4 => ?_) (fun c4 => ?_)
        · have hVv3 := zif c4 hVv3
          refine lv_iconst (v := 0) hx hb dX0_allows_42 (by decide) ?_
          subst hVv3
          exact Jv3
        · have hVv3 := zit c4 hVv3
          refine lv_aload_n hx hb dX0_allows_25 rfl (lv_at hl 0 rfl) ?_
          refine z_get (ci := 0) (v := .ref (q (b + 3))) (C := RX0) (T := TX0) (N := 4) hx hb hts inX0 hown hK hP 0 rfl rfl 2 (by decide) (List.mem_of_getElem? (i := 3) rfl) rfl rfl dX0_allows_26 ?_
          refine lv_iload hx hb dX0_allows_29 (lv_at hl 5 rfl) ?_
          refine z_rgo (va_runSN (As := [.ref (q (b + 3)), .int y1]) (rest := []) ⟨hx, hb, hml, hown, hts⟩ (c6_cell l g (q (b + 3)) 6 (by decide) (U.1 2) y1) ⟨va_cnB 2 hts gX0_allows_X6_cell_n29 rfl rfl rfl (hK.nest 22 rfl) (hts (.initialized RX6) (List.mem_of_getElem? (i := 6) rfl)) (by decide +kernel) ⟨Nat.le_of_ble_eq_true rfl, Nat.le_of_ble_eq_true rfl⟩, hts (.static yX6_cell) (List.mem_of_getElem? (i := 5) rfl), trivial⟩ (z_rpre (hP.sub (ws' := [((q (b + 3)), .inl (g.2.2.1, 6, .inl (U.1 2)))]) [3] rfl) hK) rfl rfl hl.1 rfl (lv_room (Nat.le_of_ble_eq_true rfl)) dX0_allows_31 ⟨Nat.zero_le _, Nat.zero_le _⟩) ?_
          refine lv_iload_n hx hb dX0_allows_34 rfl (lv_at hl 2 rfl) ?_
          refine lv_icmp_ne (tgt := 42) hx hb dX0_allows_35 (by decide) (fun c5 => ?_) (fun c5 => ?_)
          · have hVv3 := zif c5 hVv3
            refine lv_iconst (v := 0) hx hb dX0_allows_42 (by decide) ?_
            subst hVv3
            exact Jv3
          · have hVv3 := zit c5 hVv3
            refine lv_iconst (v := 1) hx hb dX0_allows_38 (by decide) ?_
            refine lv_goto (tgt := 43) hx hb dX0_allows_39 (by decide) ?_
            subst hVv3
            exact Jv3
  exact L3 FU 0 ls hF (lv_sub hl [1, 2, 3, 4, 5, 0] rfl)
def f1_add (T : Le) (x1 : Int32) : Option (Le) := bd (lA T (f6_put 60 (T.1) (T.2) x1)) (fun (T1 : Le) => bd (lL T1 ((T1.2) + 1)) (fun (T2 : Le) => some T2))
abbrev rmX1_add : Room := { frames := 1, cells := 0, slots := 0, locals := 22 }
set_option maxHeartbeats 4000000 in
set_option maxRecDepth 100000 in
theorem c1_add (l : Launch) (g : zG) (q : Nat → Nat) (b : Nat) (T : Le) (x1 : Int32) (T_o : Le) (hF : f1_add T x1 = some T_o) : zRW l g yX1_add wsX1_add rmX1_add [.ref (q b), .int x1] (LW g q b T) none (LW g q b T_o) := by
  refine zRW_of (cc := cX1_add) (maxL := 2) (ret := none) (by decide) rfl (Nat.le_of_ble_eq_true rfl) ?_
  intro p e s m args below meth c A H locs ls hx hb hr hml hts hown hlk hK hA hP hD hS hl
  have hown : s.vm.findClass RX1 = some m.cls := hown
  have hl : lv_has ls 2 [(0, .ref (q b)), (1, .int x1)] := hl
  have inX1 : ∀ w ∈ wsX10, w ∈ wsX1_add := fun _ h => List.mem_cons_of_mem _ (List.mem_append_right _ h)
  unfold f1_add at hF
  refine lv_aload_n hx hb dX1_add_0 rfl (lv_at hl 0 rfl) ?_
  refine z_get (ci := 1) (v := .ref (q (b + 1))) (C := RX1) (T := TX1) (N := 2) hx hb hts inX1 hown hK hP 0 rfl rfl 0 (by decide) (List.mem_of_getElem? (i := 1) rfl) rfl rfl dX1_add_1 ?_
  refine lv_aload_n hx hb dX1_add_4 rfl (lv_at hl 0 rfl) ?_
  refine z_get (ci := 1) (v := .int (T.2)) (C := RX1) (T := TX1) (N := 2) hx hb hts inX1 hown hK hP 0 rfl rfl 1 (by decide) (List.mem_of_getElem? (i := 2) rfl) rfl rfl dX1_add_5 ?_
  refine lv_iload_n hx hb dX1_add_8 rfl (lv_at hl 1 rfl) ?_
  refine z_wgo (wn := LW g q b (lA T (f6_put 60 (T.1) (T.2) x1))) (va_runSN (As := [.ref (q (b + 1)), .int (T.2), .int x1]) (rest := []) ⟨hx, hb, hml, hown, hts⟩ ((c6_put l g (q (b + 1)) 60 (by decide) (T.1) (T.2) x1) H.size) ⟨va_cnB 3 hts gX1_add_X6_put_n19 rfl rfl rfl (hK.nest 6 rfl) (hts (.initialized RX6) (List.mem_of_getElem? (i := 4) rfl)) (by decide +kernel) ⟨Nat.le_of_ble_eq_true rfl, Nat.le_of_ble_eq_true rfl⟩, hts (.static yX6_put) (List.mem_of_getElem? (i := 3) rfl), trivial⟩ (z_wpre (hP.sub (ws' := [((q (b + 1)), .inl (g.2.2.1, 60, .inl (T.1)))]) [1] rfl) hK (z_any (hD.sub (ws' := [((q (b + 1)), .inl (g.2.2.1, 60, .inl (T.1)))]) [1] (by decide) rfl))) rfl rfl hl.1 rfl (lv_room (Nat.le_of_ble_eq_true rfl)) dX1_add_9 ⟨Nat.zero_le _, Nat.zero_le _⟩) hP hD hS hA [1] rfl (by decide) rfl rfl (fun H locs hP hD hS => ?_)
  show W p l e (headSpec wsX1_add rmX1_add).room s m args below meth c H locs 0 0 (MQ below (zWQ g A (LW g q b T_o) none) args s 0 0 A) (F0 m 12 ls [])
  obtain ⟨T1, eT1⟩ : ∃ y : Le, y = (lA T (f6_put 60 (T.1) (T.2) x1)) := ⟨_, rfl⟩
  rw [← eT1] at hP hD
  have hF := bd_eq eT1 hF
  refine lv_aload_n hx hb dX1_add_12 rfl (lv_at hl 0 rfl) ?_
  refine lv_dup hx hb dX1_add_13 rfl ?_
  refine z_get (ci := 1) (v := .int (T1.2)) (C := RX1) (T := TX1) (N := 2) hx hb hts inX1 hown hK hP 0 rfl rfl 1 (by decide) (List.mem_of_getElem? (i := 2) rfl) rfl rfl dX1_add_14 ?_
  refine lv_iconst (v := 1) hx hb dX1_add_17 (by decide) ?_
  refine lv_iadd hx hb dX1_add_18 ?_
  refine z_put (ci := 1) (v := .int ((T1.2) + 1)) (C := RX1) (T := TX1) (N := 2) (ws' := LW g q b (lL T1 ((T1.2) + 1))) hx hb hts inX1 tyX1 tyX1_ok nmX1 hown hK hP hD hS 0 rfl rfl 1 (by decide) (List.mem_of_getElem? (i := 2) rfl) rfl rfl rfl rfl (Nat.le_of_ble_eq_true rfl) rfl dX1_add_19 (fun H locs hP hD hS => ?_)
  obtain ⟨T2, eT2⟩ : ∃ y : Le, y = (lL T1 ((T1.2) + 1)) := ⟨_, rfl⟩
  rw [← eT2] at hP hD
  have hF := bd_eq eT2 hF
  have e9b := zin hF
  exact z_wv hx hb hr hlk hP hD hS (by rw [e9b]) dX1_add_22
def f1_at (T : Le) (x1 : Int32) : Int32 := (f6_cell 60 (T.1) x1)
abbrev rmX1_at : Room := { frames := 1, cells := 0, slots := 0, locals := 21 }
set_option maxHeartbeats 4000000 in
set_option maxRecDepth 100000 in
theorem c1_at (l : Launch) (g : zG) (q : Nat → Nat) (b : Nat) (T : Le) (x1 : Int32) : zRO l g yX1_at wsX1_at rmX1_at [.ref (q b), .int x1] (LW g q b T) (some (.int (f1_at T x1))) := by
  obtain ⟨ro, hF⟩ : ∃ y : Int32, f1_at T x1 = y := ⟨_, rfl⟩
  rw [hF]
  refine zRO_of (cc := cX1_at) (maxL := 2) (ret := (some .int)) (by decide) rfl (Nat.le_of_ble_eq_true rfl) ?_
  intro p e s m args below meth c ls hx hb hr hml hts hown hlk hK hP hl
  have hown : s.vm.findClass RX1 = some m.cls := hown
  have hl : lv_has ls 2 [(0, .ref (q b)), (1, .int x1)] := hl
  have inX1 : ∀ w ∈ wsX10, w ∈ wsX1_at := fun _ h => List.mem_cons_of_mem _ (List.mem_append_right _ h)
  unfold f1_at at hF
  refine lv_aload_n hx hb dX1_at_0 rfl (lv_at hl 0 rfl) ?_
  refine z_get (ci := 1) (v := .ref (q (b + 1))) (C := RX1) (T := TX1) (N := 2) hx hb hts inX1 hown hK hP 0 rfl rfl 0 (by decide) (List.mem_of_getElem? (i := 1) rfl) rfl rfl dX1_at_1 ?_
  refine lv_iload_n hx hb dX1_at_4 rfl (lv_at hl 1 rfl) ?_
  refine z_rgo (va_runSN (As := [.ref (q (b + 1)), .int x1]) (rest := []) ⟨hx, hb, hml, hown, hts⟩ (c6_cell l g (q (b + 1)) 60 (by decide) (T.1) x1) ⟨va_cnB 2 hts gX1_at_X6_cell_n23 rfl rfl rfl (hK.nest 7 rfl) (hts (.initialized RX6) (List.mem_of_getElem? (i := 3) rfl)) (by decide +kernel) ⟨Nat.le_of_ble_eq_true rfl, Nat.le_of_ble_eq_true rfl⟩, hts (.static yX6_cell) (List.mem_of_getElem? (i := 2) rfl), trivial⟩ (z_rpre (hP.sub (ws' := [((q (b + 1)), .inl (g.2.2.1, 60, .inl (T.1)))]) [1] rfl) hK) rfl rfl hl.1 rfl (lv_room (Nat.le_of_ble_eq_true rfl)) dX1_at_5 ⟨Nat.zero_le _, Nat.zero_le _⟩) ?_
  exact z_ri hx hb hr hlk (congrArg (fun z => some (Value.int z)) hF) dX1_at_8
def f3_tide (N : Mo) (x1 : Int32) : Int32 := if 2 ≤ (x1 &&& 3) then (N.1 1) else (N.1 0)
abbrev rmX3_tide : Room := { frames := 0, cells := 0, slots := 0, locals := 0 }
set_option maxHeartbeats 4000000 in
set_option maxRecDepth 100000 in
theorem c3_tide (l : Launch) (g : zG) (q : Nat → Nat) (b : Nat) (N : Mo) (x1 : Int32) : zRO l g yX3_tide wsX3_tide rmX3_tide [.ref (q b), .int x1] (NW g q b N) (some (.int (f3_tide N x1))) := by
  obtain ⟨ro, hF⟩ : ∃ y : Int32, f3_tide N x1 = y := ⟨_, rfl⟩
  rw [hF]
  refine zRO_of (cc := cX3_tide) (maxL := 2) (ret := (some .int)) (by decide) rfl (Nat.le_of_ble_eq_true rfl) ?_
  intro p e s m args below meth c ls hx hb hr hml hts hown hlk hK hP hl
  have hown : s.vm.findClass RX3 = some m.cls := hown
  have hl : lv_has ls 2 [(0, .ref (q b)), (1, .int x1)] := hl
  have inX3 : ∀ w ∈ wsX30, w ∈ wsX3_tide := fun _ h => List.mem_cons_of_mem _ (List.mem_append_right _ h)
  unfold f3_tide at hF
  refine lv_iload_n hx hb dX3_tide_0 rfl (lv_at hl 1 rfl) ?_
  refine lv_iconst (v := 3) hx hb dX3_tide_1 (by decide) ?_
  refine lv_iand hx hb dX3_tide_2 ?_
  refine lv_iconst (v := 2) hx hb dX3_tide_3 (by decide) ?_
  refine lv_icmp_ge (tgt := 14) hx hb dX3_tide_4 (by decide) (fun c1 => ?_) (fun c1 => ?_)
  · have hF := zit c1 hF
    refine lv_aload_n hx hb dX3_tide_14 rfl (lv_at hl 0 rfl) ?_
    refine z_get (ci := 3) (v := .int (N.1 1)) (C := RX3) (T := TX3) (N := 13) hx hb hts inX3 hown hK hP 0 rfl rfl 1 (by decide) (List.mem_of_getElem? (i := 2) rfl) rfl rfl dX3_tide_15 ?_
    exact z_ri hx hb hr hlk (congrArg (fun z => some (Value.int z)) hF) dX3_tide_18
  · have hF := zif c1 hF
    refine lv_aload_n hx hb dX3_tide_7 rfl (lv_at hl 0 rfl) ?_
    refine z_get (ci := 3) (v := .int (N.1 0)) (C := RX3) (T := TX3) (N := 13) hx hb hts inX3 hown hK hP 0 rfl rfl 0 (by decide) (List.mem_of_getElem? (i := 1) rfl) rfl rfl dX3_tide_8 ?_
    refine lv_goto (tgt := 18) hx hb dX3_tide_11 (by decide) ?_
    exact z_ri hx hb hr hlk (congrArg (fun z => some (Value.int z)) hF) dX3_tide_18
def f6_has (x0 : Int32) (x1 : Int32) : Int32 := if x1 < 0 then 0 else if 31 ≤ x1 then 0 else if ((x0 >>> (x1 &&& 31)) &&& 1) = 0 then 0 else 1
abbrev rmX6_has : Room := { frames := 0, cells := 0, slots := 0, locals := 0 }
set_option maxHeartbeats 4000000 in
set_option maxRecDepth 100000 in
theorem c6_has (l : Launch) (g : zG)  (x0 : Int32) (x1 : Int32) : zRO l g yX6_has wsX6_has rmX6_has [.int x0, .int x1] [] (some (.int (f6_has x0 x1))) := by
  obtain ⟨ro, hF⟩ : ∃ y : Int32, f6_has x0 x1 = y := ⟨_, rfl⟩
  rw [hF]
  refine zRO_of (cc := cX6_has) (maxL := 2) (ret := (some .boolean)) (by decide) rfl (Nat.le_of_ble_eq_true rfl) ?_
  intro p e s m args below meth c ls hx hb hr hml hts hown hlk hK hP hl
  have hown : s.vm.findClass RX6 = some m.cls := hown
  have hl : lv_has ls 2 [(0, .int x0), (1, .int x1)] := hl
  unfold f6_has at hF
  refine lv_iload_n hx hb dX6_has_0 rfl (lv_at hl 1 rfl) ?_
  refine lv_if_lt (tgt := 22) hx hb dX6_has_1 (by decide) (fun c1 => ?_) (fun c1 => ?_)
  · have hF := zit c1 hF
    refine lv_iconst (v := 0) hx hb dX6_has_22 (by decide) ?_
    exact z_rz hx hb hr hlk rfl (congrArg (fun z => some (Value.int z)) hF) dX6_has_23
  · have hF := zif c1 hF
    refine lv_iload_n hx hb dX6_has_4 rfl (lv_at hl 1 rfl) ?_
    refine lv_bipush (v := 31) hx hb dX6_has_5 (by decide) ?_
    refine lv_icmp_ge (tgt := 22) hx hb dX6_has_7 (by decide) (fun c2 => ?_) (fun c2 => ?_)
    · have hF := zit c2 hF
      refine lv_iconst (v := 0) hx hb dX6_has_22 (by decide) ?_
      exact z_rz hx hb hr hlk rfl (congrArg (fun z => some (Value.int z)) hF) dX6_has_23
    · have hF := zif c2 hF
      refine lv_iload_n hx hb dX6_has_10 rfl (lv_at hl 0 rfl) ?_
      refine lv_iload_n hx hb dX6_has_11 rfl (lv_at hl 1 rfl) ?_
      refine lv_ishr hx hb dX6_has_12 ?_
      refine lv_iconst (v := 1) hx hb dX6_has_13 (by decide) ?_
      refine lv_iand hx hb dX6_has_14 ?_
      refine lv_if_eq (tgt := 22) hx hb dX6_has_15 (by decide) (fun c3 => ?_) (fun c3 => ?_)
      · have hF := zit c3 hF
        refine lv_iconst (v := 0) hx hb dX6_has_22 (by decide) ?_
        exact z_rz hx hb hr hlk rfl (congrArg (fun z => some (Value.int z)) hF) dX6_has_23
      · have hF := zif c3 hF
        refine lv_iconst (v := 1) hx hb dX6_has_18 (by decide) ?_
        refine lv_goto (tgt := 23) hx hb dX6_has_19 (by decide) ?_
        exact z_rz hx hb hr hlk rfl (congrArg (fun z => some (Value.int z)) hF) dX6_has_23
theorem b6_has (x0 : Int32) (x1 : Int32) : narrow .boolean (.int (f6_has x0 x1)) = .int (f6_has x0 x1) := by
  unfold f6_has
  repeat' split
  all_goals first | rfl | exact rfl
def f6_bit (x0 : Int32) : Int32 := if x0 < 0 then 0 else if 31 ≤ x0 then 0 else ((1 : Int32) <<< (x0 &&& 31))
abbrev rmX6_bit : Room := { frames := 0, cells := 0, slots := 0, locals := 0 }
set_option maxHeartbeats 4000000 in
set_option maxRecDepth 100000 in
theorem c6_bit (l : Launch) (g : zG)  (x0 : Int32) : zRO l g yX6_bit wsX6_bit rmX6_bit [.int x0] [] (some (.int (f6_bit x0))) := by
  obtain ⟨ro, hF⟩ : ∃ y : Int32, f6_bit x0 = y := ⟨_, rfl⟩
  rw [hF]
  refine zRO_of (cc := cX6_bit) (maxL := 1) (ret := (some .int)) (by decide) rfl (Nat.le_of_ble_eq_true rfl) ?_
  intro p e s m args below meth c ls hx hb hr hml hts hown hlk hK hP hl
  have hown : s.vm.findClass RX6 = some m.cls := hown
  have hl : lv_has ls 1 [(0, .int x0)] := hl
  unfold f6_bit at hF
  refine lv_iload_n hx hb dX6_bit_0 rfl (lv_at hl 0 rfl) ?_
  refine lv_if_lt (tgt := 16) hx hb dX6_bit_1 (by decide) (fun c1 => ?_) (fun c1 => ?_)
  · have hF := zit c1 hF
    refine lv_iconst (v := 0) hx hb dX6_bit_16 (by decide) ?_
    exact z_ri hx hb hr hlk (congrArg (fun z => some (Value.int z)) hF) dX6_bit_17
  · have hF := zif c1 hF
    refine lv_iload_n hx hb dX6_bit_4 rfl (lv_at hl 0 rfl) ?_
    refine lv_bipush (v := 31) hx hb dX6_bit_5 (by decide) ?_
    refine lv_icmp_ge (tgt := 16) hx hb dX6_bit_7 (by decide) (fun c2 => ?_) (fun c2 => ?_)
    · have hF := zit c2 hF
      refine lv_iconst (v := 0) hx hb dX6_bit_16 (by decide) ?_
      exact z_ri hx hb hr hlk (congrArg (fun z => some (Value.int z)) hF) dX6_bit_17
    · have hF := zif c2 hF
      refine lv_iconst (v := 1) hx hb dX6_bit_10 (by decide) ?_
      refine lv_iload_n hx hb dX6_bit_11 rfl (lv_at hl 0 rfl) ?_
      refine lv_ishl hx hb dX6_bit_12 ?_
      refine lv_goto (tgt := 17) hx hb dX6_bit_13 (by decide) ?_
      exact z_ri hx hb hr hlk (congrArg (fun z => some (Value.int z)) hF) dX6_bit_17
def f3_beside_j62 (x1 : Int32) (y2 : Int32) (v5 : Int32) (v6 : Int32) (k5 : (Int32 → Int32 → Option (Int32))) (y7 : Int32) : Option (Int32) := if v6 = x1 then bd (α := Int32) (y7 ||| (f6_bit v5)) (fun (v9 : Int32) => k5 v9 (y2 + 1)) else k5 y7 (y2 + 1)
def f3_beside_l5 (x1 : Int32) (x2 : Int32) (N : Mo) : Nat → Int32 → Int32 → Option (Int32)
  | 0, _, _ => none
  | n5 + 1, y1, y2 => if (N.1 3) ≤ y2 then some y1 else if (f6_has x2 y2) = 0 then f3_beside_l5 x1 x2 N n5 y1 (y2 + 1) else bd (α := Int32) (f6_cell 8 (N.2 7) y2) (fun (v5 : Int32) => bd (α := Int32) (f6_cell 8 (N.2 8) y2) (fun (v6 : Int32) => if v5 = x1 then bd (α := Int32) (y1 ||| (f6_bit v6)) (fun (v11 : Int32) => f3_beside_j62 x1 y2 v5 v6 (fun y1 y2 => f3_beside_l5 x1 x2 N n5 y1 y2) v11) else f3_beside_j62 x1 y2 v5 v6 (fun y1 y2 => f3_beside_l5 x1 x2 N n5 y1 y2) y1))
def f3_beside (N : Mo) (x1 : Int32) (x2 : Int32) : Option (Int32) := f3_beside_l5 x1 x2 N FU 0 0
abbrev rmX3_beside : Room := { frames := 1, cells := 0, slots := 0, locals := 21 }
set_option maxHeartbeats 4000000 in
set_option maxRecDepth 100000 in
theorem c3_beside (l : Launch) (g : zG) (q : Nat → Nat) (b : Nat) (N : Mo) (x1 : Int32) (x2 : Int32) (ro : Int32) (hF : f3_beside N x1 x2 = some ro) : zRO l g yX3_beside wsX3_beside rmX3_beside [.ref (q b), .int x1, .int x2] (NW g q b N) (some (.int ro)) := by
  refine zRO_of (cc := cX3_beside) (maxL := 7) (ret := (some .int)) (by decide) rfl (Nat.le_of_ble_eq_true rfl) ?_
  intro p e s m args below meth c ls hx hb hr hml hts hown hlk hK hP hl
  have hown : s.vm.findClass RX3 = some m.cls := hown
  have hl : lv_has ls 7 [(0, .ref (q b)), (1, .int x1), (2, .int x2)] := hl
  have inX3 : ∀ w ∈ wsX30, w ∈ wsX3_beside := fun _ h => List.mem_cons_of_mem _ (List.mem_append_right _ h)
  unfold f3_beside at hF
  refine lv_iconst (v := 0) hx hb dX3_beside_0 (by decide) ?_
  refine lv_istore_n (lv' := [(3, .int 0), (0, .ref (q b)), (1, .int x1), (2, .int x2)]) hx hb dX3_beside_1 rfl hl (by decide) rfl (fun ls hl => ?_)
  refine lv_iconst (v := 0) hx hb dX3_beside_2 (by decide) ?_
  refine lv_istore (lv' := [(4, .int 0), (3, .int 0), (0, .ref (q b)), (1, .int x1), (2, .int x2)]) hx hb dX3_beside_3 hl (by decide) rfl (fun ls hl => ?_)
  have L5 : ∀ (n5 : Nat) (y1 : Int32) (y2 : Int32) (ls : Array Slot), f3_beside_l5 x1 x2 N n5 y1 y2 = some ro → lv_has ls 7 [(0, .ref (q b)), (1, .int x1), (2, .int x2), (3, .int y1), (4, .int y2)] → W p l e (headSpec wsX3_beside rmX3_beside).room s m args below meth c s.heap [] 0 0 (MQ below (zRQ (some (.int ro))) args s 0 0 (fun _ => False)) (F0 m 5 ls []) := by
    intro n5
    induction n5 with
    | zero =>
      intro y1 y2 ls hF hl
      exact absurd (show (none : Option (Int32)) = some _ from hF) (fun h9 => by cases h9)
    | succ n5 ih5 =>
      intro y1 y2 ls hF hl
      rw [f3_beside_l5] at hF
      refine lv_iload hx hb dX3_beside_5 (lv_at hl 4 rfl) ?_
      refine lv_aload_n hx hb dX3_beside_7 rfl (lv_at hl 0 rfl) ?_
      refine z_get (ci := 3) (v := .int (N.1 3)) (C := RX3) (T := TX3) (N := 13) hx hb hts inX3 hown hK hP 0 rfl rfl 3 (by decide) (List.mem_of_getElem? (i := 1) rfl) rfl rfl dX3_beside_8 ?_
      refine lv_icmp_ge (tgt := 82) hx hb dX3_beside_11 (by decide) (fun c3 => ?_) (fun c3 => ?_)
      · have hF := zit c3 hF
        refine lv_iload_n hx hb dX3_beside_82 rfl (lv_at hl 3 rfl) ?_
        have e9a := zin hF
        exact z_ri hx hb hr hlk (congrArg (fun z => some (Value.int z)) e9a) dX3_beside_83
      · have hF := zif c3 hF
        refine lv_iload_n hx hb dX3_beside_14 rfl (lv_at hl 2 rfl) ?_
        refine lv_iload hx hb dX3_beside_15 (lv_at hl 4 rfl) ?_
        refine z_rgo (va_runSN (As := [.int x2, .int y2]) (rest := []) ⟨hx, hb, hml, hown, hts⟩ (c6_has l g   x2 y2) ⟨va_cnB 2 hts gX3_beside_X6_has_n75 rfl rfl rfl (hK.nest 10 rfl) (hts (.initialized RX6) (List.mem_of_getElem? (i := 5) rfl)) (by decide +kernel) ⟨Nat.le_of_ble_eq_true rfl, Nat.le_of_ble_eq_true rfl⟩, hts (.static yX6_has) (List.mem_of_getElem? (i := 4) rfl), trivial⟩ (z_rpre z_nil hK) rfl rfl hl.1 rfl (lv_room (Nat.le_of_ble_eq_true rfl)) dX3_beside_17 ⟨Nat.zero_le _, Nat.zero_le _⟩) ?_
        refine lv_if_ne (tgt := 26) hx hb dX3_beside_20 (by decide) (fun c4 => ?_) (fun c4 => ?_)
        · have hF := zif c4 hF
          refine lv_aload_n hx hb dX3_beside_26 rfl (lv_at hl 0 rfl) ?_
          refine z_get (ci := 3) (v := .ref (q (b + 2))) (C := RX3) (T := TX3) (N := 13) hx hb hts inX3 hown hK hP 0 rfl rfl 7 (by decide) (List.mem_of_getElem? (i := 2) rfl) rfl rfl dX3_beside_27 ?_
          refine lv_iload hx hb dX3_beside_30 (lv_at hl 4 rfl) ?_
          refine z_rgo (va_runSN (As := [.ref (q (b + 2)), .int y2]) (rest := []) ⟨hx, hb, hml, hown, hts⟩ (c6_cell l g (q (b + 2)) 8 (by decide) (N.2 7) y2) ⟨va_cnB 2 hts gX3_beside_X6_cell_n64 rfl rfl rfl (hK.nest 11 rfl) (hts (.initialized RX6) (List.mem_of_getElem? (i := 5) rfl)) (by decide +kernel) ⟨Nat.le_of_ble_eq_true rfl, Nat.le_of_ble_eq_true rfl⟩, hts (.static yX6_cell) (List.mem_of_getElem? (i := 7) rfl), trivial⟩ (z_rpre (hP.sub (ws' := [((q (b + 2)), .inl (g.2.2.1, 8, .inl (N.2 7)))]) [2] rfl) hK) rfl rfl hl.1 rfl (lv_room (Nat.le_of_ble_eq_true rfl)) dX3_beside_32 ⟨Nat.zero_le _, Nat.zero_le _⟩) ?_
          refine lv_topi (fun v5 ev5 => ?_)
          have hF := bd_eq ev5 hF
          refine lv_istore (lv' := [(5, .int v5), (0, .ref (q b)), (1, .int x1), (2, .int x2), (3, .int y1), (4, .int y2)]) hx hb dX3_beside_35 hl (by decide) rfl (fun ls hl => ?_)
          refine lv_aload_n hx hb dX3_beside_37 rfl (lv_at hl 1 rfl) ?_
          refine z_get (ci := 3) (v := .ref (q (b + 3))) (C := RX3) (T := TX3) (N := 13) hx hb hts inX3 hown hK hP 0 rfl rfl 8 (by decide) (List.mem_of_getElem? (i := 3) rfl) rfl rfl dX3_beside_38 ?_
          refine lv_iload hx hb dX3_beside_41 (lv_at hl 5 rfl) ?_
          refine z_rgo (va_runSN (As := [.ref (q (b + 3)), .int y2]) (rest := []) ⟨hx, hb, hml, hown, hts⟩ (c6_cell l g (q (b + 3)) 8 (by decide) (N.2 8) y2) ⟨va_cnB 2 hts gX3_beside_X6_cell_n64 rfl rfl rfl (hK.nest 11 rfl) (hts (.initialized RX6) (List.mem_of_getElem? (i := 5) rfl)) (by decide +kernel) ⟨Nat.le_of_ble_eq_true rfl, Nat.le_of_ble_eq_true rfl⟩, hts (.static yX6_cell) (List.mem_of_getElem? (i := 7) rfl), trivial⟩ (z_rpre (hP.sub (ws' := [((q (b + 3)), .inl (g.2.2.1, 8, .inl (N.2 8)))]) [3] rfl) hK) rfl rfl hl.1 rfl (lv_room (Nat.le_of_ble_eq_true rfl)) dX3_beside_43 ⟨Nat.zero_le _, Nat.zero_le _⟩) ?_
          refine lv_topi (fun v6 ev6 => ?_)
          have hF := bd_eq ev6 hF
          refine lv_istore (lv' := [(6, .int v6), (5, .int v5), (0, .ref (q b)), (1, .int x1), (2, .int x2), (3, .int y1), (4, .int y2)]) hx hb dX3_beside_46 hl (by decide) rfl (fun ls hl => ?_)
          refine lv_iload hx hb dX3_beside_48 (lv_at hl 1 rfl) ?_
          refine lv_iload_n hx hb dX3_beside_50 rfl (lv_at hl 3 rfl) ?_
          have L62 : ∀ (y7 : Int32) (ls : Array Slot), f3_beside_j62 x1 y2 v5 v6 (fun y1 y2 => f3_beside_l5 x1 x2 N n5 y1 y2) y7 = some ro → lv_has ls 7 [(0, .ref (q b)), (1, .int x1), (2, .int x2), (3, .int y7), (4, .int y2), (5, .int v5), (6, .int v6)] → W p l e (headSpec wsX3_beside rmX3_beside).room s m args below meth c s.heap [] 0 0 (MQ below (zRQ (some (.int ro))) args s 0 0 (fun _ => False)) (F0 m 62 ls []) := by
            intro y7 ls hF hl
            unfold f3_beside_j62 at hF
            refine lv_iload hx hb dX3_beside_62 (lv_at hl 6 rfl) ?_
            refine lv_iload_n hx hb dX3_beside_64 rfl (lv_at hl 1 rfl) ?_
            refine lv_icmp_ne (tgt := 76) hx hb dX3_beside_65 (by decide) (fun c8 => ?_) (fun c8 => ?_)
            · have hF := zif c8 hF
              refine lv_iinc (v := (y2 + 1)) (lv' := [(4, .int (y2 + 1)), (0, .ref (q b)), (1, .int x1), (2, .int x2), (3, .int y7), (5, .int v5), (6, .int v6)]) hx hb dX3_beside_76 hl (k := 4) rfl rfl (by decide) rfl (fun ls hl => ?_)
              refine lv_goto (tgt := 5) hx hb dX3_beside_79 (by decide) ?_
              exact ih5 y7 (y2 + 1) ls hF (lv_sub hl [1, 2, 3, 4, 0] rfl)
            · have hF := zit c8 hF
              refine lv_iload_n hx hb dX3_beside_68 rfl (lv_at hl 3 rfl) ?_
              refine lv_iload hx hb dX3_beside_69 (lv_at hl 5 rfl) ?_
              refine z_rgo (va_runSN (As := [.int v5]) (rest := [.int y7]) ⟨hx, hb, hml, hown, hts⟩ (c6_bit l g   v5) ⟨va_cnB 1 hts gX3_beside_X6_bit_n60 rfl rfl rfl (hK.nest 9 rfl) (hts (.initialized RX6) (List.mem_of_getElem? (i := 5) rfl)) (by decide +kernel) ⟨Nat.le_of_ble_eq_true rfl, Nat.le_of_ble_eq_true rfl⟩, hts (.static yX6_bit) (List.mem_of_getElem? (i := 9) rfl), trivial⟩ (z_rpre z_nil hK) rfl rfl hl.1 rfl (lv_room (Nat.le_of_ble_eq_true rfl)) dX3_beside_71 ⟨Nat.zero_le _, Nat.zero_le _⟩) ?_
              refine lv_ior hx hb dX3_beside_74 ?_
              refine lv_topi (fun v9 ev9 => ?_)
              have hF := bd_eq ev9 hF
              refine lv_istore_n (lv' := [(3, .int v9), (0, .ref (q b)), (1, .int x1), (2, .int x2), (4, .int y2), (5, .int v5), (6, .int v6)]) hx hb dX3_beside_75 rfl hl (by decide) rfl (fun ls hl => ?_)
              refine lv_iinc (v := (y2 + 1)) (lv' := [(4, .int (y2 + 1)), (3, .int v9), (0, .ref (q b)), (1, .int x1), (2, .int x2), (5, .int v5), (6, .int v6)]) hx hb dX3_beside_76 hl (k := 4) rfl rfl (by decide) rfl (fun ls hl => ?_)
              refine lv_goto (tgt := 5) hx hb dX3_beside_79 (by decide) ?_
              exact ih5 v9 (y2 + 1) ls hF (lv_sub hl [2, 3, 4, 1, 0] rfl)
          refine lv_icmp_ne (tgt := 62) hx hb dX3_beside_51 (by decide) (fun c10 => ?_) (fun c10 => ?_)
          · have hF := zif c10 hF
            exact L62 y1 ls hF (lv_sub hl [2, 3, 4, 5, 6, 1, 0] rfl)
          · have hF := zit c10 hF
            refine lv_iload_n hx hb dX3_beside_54 rfl (lv_at hl 5 rfl) ?_
            refine lv_iload hx hb dX3_beside_55 (lv_at hl 0 rfl) ?_
            refine z_rgo (va_runSN (As := [.int v6]) (rest := [.int y1]) ⟨hx, hb, hml, hown, hts⟩ (c6_bit l g   v6) ⟨va_cnB 1 hts gX3_beside_X6_bit_n60 rfl rfl rfl (hK.nest 9 rfl) (hts (.initialized RX6) (List.mem_of_getElem? (i := 5) rfl)) (by decide +kernel) ⟨Nat.le_of_ble_eq_true rfl, Nat.le_of_ble_eq_true rfl⟩, hts (.static yX6_bit) (List.mem_of_getElem? (i := 9) rfl), trivial⟩ (z_rpre z_nil hK) rfl rfl hl.1 rfl (lv_room (Nat.le_of_ble_eq_true rfl)) dX3_beside_57 ⟨Nat.zero_le _, Nat.zero_le _⟩) ?_
            refine lv_ior hx hb dX3_beside_60 ?_
            refine lv_topi (fun v11 ev11 => ?_)
            have hF := bd_eq ev11 hF
            refine lv_istore_n (lv' := [(3, .int v11), (6, .int v6), (5, .int v5), (0, .ref (q b)), (1, .int x1), (2, .int x2), (4, .int y2)]) hx hb dX3_beside_61 rfl hl (by decide) rfl (fun ls hl => ?_)
            exact L62 v11 ls hF (lv_sub hl [3, 4, 5, 0, 6, 2, 1] rfl)
        · have hF := zit c4 hF
          refine lv_goto (tgt := 76) hx hb dX3_beside_23 (by decide) ?_
          refine lv_iinc (v := (y2 + 1)) (lv' := [(4, .int (y2 + 1)), (0, .ref (q b)), (1, .int x1), (2, .int x2), (3, .int y1)]) hx hb dX3_beside_76 hl (k := 4) rfl rfl (by decide) rfl (fun ls hl => ?_)
          refine lv_goto (tgt := 5) hx hb dX3_beside_79 (by decide) ?_
          exact ih5 y1 (y2 + 1) ls hF (lv_sub hl [1, 2, 3, 4, 0] rfl)
  exact L5 FU 0 0 ls hF (lv_sub hl [2, 3, 4, 1, 0] rfl)
def f3_under_l4 (x1 : Int32) (N : Mo) : Nat → Int32 → Int32 → Option (Int32)
  | 0, _, _ => none
  | n4 + 1, y1, y2 => if (N.1 2) ≤ y2 then some y1 else if x1 ≤ (f6_cell 6 (N.2 6) y2) then f3_under_l4 x1 N n4 y1 (y2 + 1) else bd (α := Int32) (y1 ||| (f6_bit y2)) (fun (v5 : Int32) => f3_under_l4 x1 N n4 v5 (y2 + 1))
def f3_under (N : Mo) (x1 : Int32) : Option (Int32) := f3_under_l4 x1 N FU 0 0
abbrev rmX3_under : Room := { frames := 1, cells := 0, slots := 0, locals := 21 }
set_option maxHeartbeats 4000000 in
set_option maxRecDepth 100000 in
theorem c3_under (l : Launch) (g : zG) (q : Nat → Nat) (b : Nat) (N : Mo) (x1 : Int32) (ro : Int32) (hF : f3_under N x1 = some ro) : zRO l g yX3_under wsX3_under rmX3_under [.ref (q b), .int x1] (NW g q b N) (some (.int ro)) := by
  refine zRO_of (cc := cX3_under) (maxL := 4) (ret := (some .int)) (by decide) rfl (Nat.le_of_ble_eq_true rfl) ?_
  intro p e s m args below meth c ls hx hb hr hml hts hown hlk hK hP hl
  have hown : s.vm.findClass RX3 = some m.cls := hown
  have hl : lv_has ls 4 [(0, .ref (q b)), (1, .int x1)] := hl
  have inX3 : ∀ w ∈ wsX30, w ∈ wsX3_under := fun _ h => List.mem_cons_of_mem _ (List.mem_append_right _ h)
  unfold f3_under at hF
  refine lv_iconst (v := 0) hx hb dX3_under_0 (by decide) ?_
  refine lv_istore_n (lv' := [(2, .int 0), (0, .ref (q b)), (1, .int x1)]) hx hb dX3_under_1 rfl hl (by decide) rfl (fun ls hl => ?_)
  refine lv_iconst (v := 0) hx hb dX3_under_2 (by decide) ?_
  refine lv_istore_n (lv' := [(3, .int 0), (2, .int 0), (0, .ref (q b)), (1, .int x1)]) hx hb dX3_under_3 rfl hl (by decide) rfl (fun ls hl => ?_)
  have L4 : ∀ (n4 : Nat) (y1 : Int32) (y2 : Int32) (ls : Array Slot), f3_under_l4 x1 N n4 y1 y2 = some ro → lv_has ls 4 [(0, .ref (q b)), (1, .int x1), (2, .int y1), (3, .int y2)] → W p l e (headSpec wsX3_under rmX3_under).room s m args below meth c s.heap [] 0 0 (MQ below (zRQ (some (.int ro))) args s 0 0 (fun _ => False)) (F0 m 4 ls []) := by
    intro n4
    induction n4 with
    | zero =>
      intro y1 y2 ls hF hl
      exact absurd (show (none : Option (Int32)) = some _ from hF) (fun h9 => by cases h9)
    | succ n4 ih4 =>
      intro y1 y2 ls hF hl
      rw [f3_under_l4] at hF
      refine lv_iload_n hx hb dX3_under_4 rfl (lv_at hl 3 rfl) ?_
      refine lv_aload_n hx hb dX3_under_5 rfl (lv_at hl 0 rfl) ?_
      refine z_get (ci := 3) (v := .int (N.1 2)) (C := RX3) (T := TX3) (N := 13) hx hb hts inX3 hown hK hP 0 rfl rfl 2 (by decide) (List.mem_of_getElem? (i := 1) rfl) rfl rfl dX3_under_6 ?_
      refine lv_icmp_ge (tgt := 37) hx hb dX3_under_9 (by decide) (fun c3 => ?_) (fun c3 => ?_)
      · have hF := zit c3 hF
        refine lv_iload_n hx hb dX3_under_37 rfl (lv_at hl 2 rfl) ?_
        have e9a := zin hF
        exact z_ri hx hb hr hlk (congrArg (fun z => some (Value.int z)) e9a) dX3_under_38
      · have hF := zif c3 hF
        refine lv_aload_n hx hb dX3_under_12 rfl (lv_at hl 0 rfl) ?_
        refine z_get (ci := 3) (v := .ref (q (b + 1))) (C := RX3) (T := TX3) (N := 13) hx hb hts inX3 hown hK hP 0 rfl rfl 6 (by decide) (List.mem_of_getElem? (i := 2) rfl) rfl rfl dX3_under_13 ?_
        refine lv_iload_n hx hb dX3_under_16 rfl (lv_at hl 3 rfl) ?_
        refine z_rgo (va_runSN (As := [.ref (q (b + 1)), .int y2]) (rest := []) ⟨hx, hb, hml, hown, hts⟩ (c6_cell l g (q (b + 1)) 6 (by decide) (N.2 6) y2) ⟨va_cnB 2 hts gX3_under_X6_cell_n64 rfl rfl rfl (hK.nest 11 rfl) (hts (.initialized RX6) (List.mem_of_getElem? (i := 4) rfl)) (by decide +kernel) ⟨Nat.le_of_ble_eq_true rfl, Nat.le_of_ble_eq_true rfl⟩, hts (.static yX6_cell) (List.mem_of_getElem? (i := 3) rfl), trivial⟩ (z_rpre (hP.sub (ws' := [((q (b + 1)), .inl (g.2.2.1, 6, .inl (N.2 6)))]) [1] rfl) hK) rfl rfl hl.1 rfl (lv_room (Nat.le_of_ble_eq_true rfl)) dX3_under_17 ⟨Nat.zero_le _, Nat.zero_le _⟩) ?_
        refine lv_iload_n hx hb dX3_under_20 rfl (lv_at hl 1 rfl) ?_
        refine lv_icmp_ge (tgt := 31) hx hb dX3_under_21 (by decide) (fun c4 => ?_) (fun c4 => ?_)
        · have hF := zit c4 hF
          refine lv_iinc (v := (y2 + 1)) (lv' := [(3, .int (y2 + 1)), (0, .ref (q b)), (1, .int x1), (2, .int y1)]) hx hb dX3_under_31 hl (k := 3) rfl rfl (by decide) rfl (fun ls hl => ?_)
          refine lv_goto (tgt := 4) hx hb dX3_under_34 (by decide) ?_
          exact ih4 y1 (y2 + 1) ls hF (lv_sub hl [1, 2, 3, 0] rfl)
        · have hF := zif c4 hF
          refine lv_iload_n hx hb dX3_under_24 rfl (lv_at hl 2 rfl) ?_
          refine lv_iload_n hx hb dX3_under_25 rfl (lv_at hl 3 rfl) ?_
          refine z_rgo (va_runSN (As := [.int y2]) (rest := [.int y1]) ⟨hx, hb, hml, hown, hts⟩ (c6_bit l g   y2) ⟨va_cnB 1 hts gX3_under_X6_bit_n60 rfl rfl rfl (hK.nest 9 rfl) (hts (.initialized RX6) (List.mem_of_getElem? (i := 4) rfl)) (by decide +kernel) ⟨Nat.le_of_ble_eq_true rfl, Nat.le_of_ble_eq_true rfl⟩, hts (.static yX6_bit) (List.mem_of_getElem? (i := 6) rfl), trivial⟩ (z_rpre z_nil hK) rfl rfl hl.1 rfl (lv_room (Nat.le_of_ble_eq_true rfl)) dX3_under_26 ⟨Nat.zero_le _, Nat.zero_le _⟩) ?_
          refine lv_ior hx hb dX3_under_29 ?_
          refine lv_topi (fun v5 ev5 => ?_)
          have hF := bd_eq ev5 hF
          refine lv_istore_n (lv' := [(2, .int v5), (0, .ref (q b)), (1, .int x1), (3, .int y2)]) hx hb dX3_under_30 rfl hl (by decide) rfl (fun ls hl => ?_)
          refine lv_iinc (v := (y2 + 1)) (lv' := [(3, .int (y2 + 1)), (2, .int v5), (0, .ref (q b)), (1, .int x1)]) hx hb dX3_under_31 hl (k := 3) rfl rfl (by decide) rfl (fun ls hl => ?_)
          refine lv_goto (tgt := 4) hx hb dX3_under_34 (by decide) ?_
          exact ih4 v5 (y2 + 1) ls hF (lv_sub hl [2, 3, 1, 0] rfl)
  exact L4 FU 0 0 ls hF (lv_sub hl [2, 3, 1, 0] rfl)
def f3_outermost_l6 (x1 : Int32) (x2 : Int32) (N : Mo) : Nat → Int32 → Int32 → Option (Int32)
  | 0, _, _ => none
  | n6 + 1, y1, y2 => if (N.1 2) ≤ y2 then some y1 else if (f6_has x1 y2) = 0 then f3_outermost_l6 x1 x2 N n6 y1 (y2 + 1) else if y1 = (-9) then f3_outermost_l6 x1 x2 N n6 y2 (y2 + 1) else if (x2 * (f6_cell 6 (N.2 6) y2)) ≤ (x2 * (f6_cell 6 (N.2 6) y1)) then f3_outermost_l6 x1 x2 N n6 y1 (y2 + 1) else f3_outermost_l6 x1 x2 N n6 y2 (y2 + 1)
def f3_outermost (N : Mo) (x1 : Int32) (x2 : Int32) : Option (Int32) := f3_outermost_l6 x1 x2 N FU (-9) 0
abbrev rmX3_outermost : Room := { frames := 1, cells := 0, slots := 0, locals := 21 }
set_option maxHeartbeats 4000000 in
set_option maxRecDepth 100000 in
theorem c3_outermost (l : Launch) (g : zG) (q : Nat → Nat) (b : Nat) (N : Mo) (x1 : Int32) (x2 : Int32) (ro : Int32) (hF : f3_outermost N x1 x2 = some ro) : zRO l g yX3_outermost wsX3_outermost rmX3_outermost [.ref (q b), .int x1, .int x2] (NW g q b N) (some (.int ro)) := by
  refine zRO_of (cc := cX3_outermost) (maxL := 5) (ret := (some .int)) (by decide) rfl (Nat.le_of_ble_eq_true rfl) ?_
  intro p e s m args below meth c ls hx hb hr hml hts hown hlk hK hP hl
  have hown : s.vm.findClass RX3 = some m.cls := hown
  have hl : lv_has ls 5 [(0, .ref (q b)), (1, .int x1), (2, .int x2)] := hl
  have inX3 : ∀ w ∈ wsX30, w ∈ wsX3_outermost := fun _ h => List.mem_cons_of_mem _ (List.mem_append_right _ h)
  unfold f3_outermost at hF
  refine lv_bipush (v := (-9)) hx hb dX3_outermost_0 (by decide) ?_
  refine lv_istore_n (lv' := [(3, .int (-9)), (0, .ref (q b)), (1, .int x1), (2, .int x2)]) hx hb dX3_outermost_2 rfl hl (by decide) rfl (fun ls hl => ?_)
  refine lv_iconst (v := 0) hx hb dX3_outermost_3 (by decide) ?_
  refine lv_istore (lv' := [(4, .int 0), (3, .int (-9)), (0, .ref (q b)), (1, .int x1), (2, .int x2)]) hx hb dX3_outermost_4 hl (by decide) rfl (fun ls hl => ?_)
  have L6 : ∀ (n6 : Nat) (y1 : Int32) (y2 : Int32) (ls : Array Slot), f3_outermost_l6 x1 x2 N n6 y1 y2 = some ro → lv_has ls 5 [(0, .ref (q b)), (1, .int x1), (2, .int x2), (3, .int y1), (4, .int y2)] → W p l e (headSpec wsX3_outermost rmX3_outermost).room s m args below meth c s.heap [] 0 0 (MQ below (zRQ (some (.int ro))) args s 0 0 (fun _ => False)) (F0 m 6 ls []) := by
    intro n6
    induction n6 with
    | zero =>
      intro y1 y2 ls hF hl
      exact absurd (show (none : Option (Int32)) = some _ from hF) (fun h9 => by cases h9)
    | succ n6 ih6 =>
      intro y1 y2 ls hF hl
      rw [f3_outermost_l6] at hF
      refine lv_iload hx hb dX3_outermost_6 (lv_at hl 4 rfl) ?_
      refine lv_aload_n hx hb dX3_outermost_8 rfl (lv_at hl 0 rfl) ?_
      refine z_get (ci := 3) (v := .int (N.1 2)) (C := RX3) (T := TX3) (N := 13) hx hb hts inX3 hown hK hP 0 rfl rfl 2 (by decide) (List.mem_of_getElem? (i := 1) rfl) rfl rfl dX3_outermost_9 ?_
      refine lv_icmp_ge (tgt := 66) hx hb dX3_outermost_12 (by decide) (fun c3 => ?_) (fun c3 => ?_)
      · have hF := zit c3 hF
        refine lv_iload_n hx hb dX3_outermost_66 rfl (lv_at hl 3 rfl) ?_
        have e9a := zin hF
        exact z_ri hx hb hr hlk (congrArg (fun z => some (Value.int z)) e9a) dX3_outermost_67
      · have hF := zif c3 hF
        refine lv_iload_n hx hb dX3_outermost_15 rfl (lv_at hl 1 rfl) ?_
        refine lv_iload hx hb dX3_outermost_16 (lv_at hl 4 rfl) ?_
        refine z_rgo (va_runSN (As := [.int x1, .int y2]) (rest := []) ⟨hx, hb, hml, hown, hts⟩ (c6_has l g   x1 y2) ⟨va_cnB 2 hts gX3_outermost_X6_has_n75 rfl rfl rfl (hK.nest 10 rfl) (hts (.initialized RX6) (List.mem_of_getElem? (i := 4) rfl)) (by decide +kernel) ⟨Nat.le_of_ble_eq_true rfl, Nat.le_of_ble_eq_true rfl⟩, hts (.static yX6_has) (List.mem_of_getElem? (i := 3) rfl), trivial⟩ (z_rpre z_nil hK) rfl rfl hl.1 rfl (lv_room (Nat.le_of_ble_eq_true rfl)) dX3_outermost_18 ⟨Nat.zero_le _, Nat.zero_le _⟩) ?_
        refine lv_if_ne (tgt := 27) hx hb dX3_outermost_21 (by decide) (fun c4 => ?_) (fun c4 => ?_)
        · have hF := zif c4 hF
          refine lv_iload_n hx hb dX3_outermost_27 rfl (lv_at hl 3 rfl) ?_
          refine lv_bipush (v := (-9)) hx hb dX3_outermost_28 (by decide) ?_
          refine lv_icmp_eq (tgt := 57) hx hb dX3_outermost_30 (by decide) (fun c5 => ?_) (fun c5 => ?_)
          · have hF := zit c5 hF
            refine lv_iload hx hb dX3_outermost_57 (lv_at hl 4 rfl) ?_
            refine lv_istore_n (lv' := [(3, .int y2), (0, .ref (q b)), (1, .int x1), (2, .int x2), (4, .int y2)]) hx hb dX3_outermost_59 rfl hl (by decide) rfl (fun ls hl => ?_)
            refine lv_iinc (v := (y2 + 1)) (lv' := [(4, .int (y2 + 1)), (3, .int y2), (0, .ref (q b)), (1, .int x1), (2, .int x2)]) hx hb dX3_outermost_60 hl (k := 4) rfl rfl (by decide) rfl (fun ls hl => ?_)
            refine lv_goto (tgt := 6) hx hb dX3_outermost_63 (by decide) ?_
            exact ih6 y2 (y2 + 1) ls hF (lv_sub hl [2, 3, 4, 1, 0] rfl)
          · have hF := zif c5 hF
            refine lv_iload_n hx hb dX3_outermost_33 rfl (lv_at hl 2 rfl) ?_
            refine lv_aload_n hx hb dX3_outermost_34 rfl (lv_at hl 0 rfl) ?_
            refine z_get (ci := 3) (v := .ref (q (b + 1))) (C := RX3) (T := TX3) (N := 13) hx hb hts inX3 hown hK hP 0 rfl rfl 6 (by decide) (List.mem_of_getElem? (i := 2) rfl) rfl rfl dX3_outermost_35 ?_
            refine lv_iload hx hb dX3_outermost_38 (lv_at hl 4 rfl) ?_
            refine z_rgo (va_runSN (As := [.ref (q (b + 1)), .int y2]) (rest := [.int x2]) ⟨hx, hb, hml, hown, hts⟩ (c6_cell l g (q (b + 1)) 6 (by decide) (N.2 6) y2) ⟨va_cnB 2 hts gX3_outermost_X6_cell_n64 rfl rfl rfl (hK.nest 11 rfl) (hts (.initialized RX6) (List.mem_of_getElem? (i := 4) rfl)) (by decide +kernel) ⟨Nat.le_of_ble_eq_true rfl, Nat.le_of_ble_eq_true rfl⟩, hts (.static yX6_cell) (List.mem_of_getElem? (i := 6) rfl), trivial⟩ (z_rpre (hP.sub (ws' := [((q (b + 1)), .inl (g.2.2.1, 6, .inl (N.2 6)))]) [1] rfl) hK) rfl rfl hl.1 rfl (lv_room (Nat.le_of_ble_eq_true rfl)) dX3_outermost_40 ⟨Nat.zero_le _, Nat.zero_le _⟩) ?_
            refine lv_imul hx hb dX3_outermost_43 ?_
            refine lv_iload_n hx hb dX3_outermost_44 rfl (lv_at hl 2 rfl) ?_
            refine lv_aload_n hx hb dX3_outermost_45 rfl (lv_at hl 0 rfl) ?_
            refine z_get (ci := 3) (v := .ref (q (b + 1))) (C := RX3) (T := TX3) (N := 13) hx hb hts inX3 hown hK hP 0 rfl rfl 6 (by decide) (List.mem_of_getElem? (i := 2) rfl) rfl rfl dX3_outermost_46 ?_
            refine lv_iload_n hx hb dX3_outermost_49 rfl (lv_at hl 3 rfl) ?_
            refine z_rgo (va_runSN (As := [.ref (q (b + 1)), .int y1]) (rest := [.int x2, .int (x2 * (f6_cell 6 (N.2 6) y2))]) ⟨hx, hb, hml, hown, hts⟩ (c6_cell l g (q (b + 1)) 6 (by decide) (N.2 6) y1) ⟨va_cnB 2 hts gX3_outermost_X6_cell_n64 rfl rfl rfl (hK.nest 11 rfl) (hts (.initialized RX6) (List.mem_of_getElem? (i := 4) rfl)) (by decide +kernel) ⟨Nat.le_of_ble_eq_true rfl, Nat.le_of_ble_eq_true rfl⟩, hts (.static yX6_cell) (List.mem_of_getElem? (i := 6) rfl), trivial⟩ (z_rpre (hP.sub (ws' := [((q (b + 1)), .inl (g.2.2.1, 6, .inl (N.2 6)))]) [1] rfl) hK) rfl rfl hl.1 rfl (lv_room (Nat.le_of_ble_eq_true rfl)) dX3_outermost_50 ⟨Nat.zero_le _, Nat.zero_le _⟩) ?_
            refine lv_imul hx hb dX3_outermost_53 ?_
            refine lv_icmp_le (tgt := 60) hx hb dX3_outermost_54 (by decide) (fun c6 => ?_) (fun c6 => ?_)
            · have hF := zit c6 hF
              refine lv_iinc (v := (y2 + 1)) (lv' := [(4, .int (y2 + 1)), (0, .ref (q b)), (1, .int x1), (2, .int x2), (3, .int y1)]) hx hb dX3_outermost_60 hl (k := 4) rfl rfl (by decide) rfl (fun ls hl => ?_)
              refine lv_goto (tgt := 6) hx hb dX3_outermost_63 (by decide) ?_
              exact ih6 y1 (y2 + 1) ls hF (lv_sub hl [1, 2, 3, 4, 0] rfl)
            · have hF := zif c6 hF
              refine lv_iload hx hb dX3_outermost_57 (lv_at hl 4 rfl) ?_
              refine lv_istore_n (lv' := [(3, .int y2), (0, .ref (q b)), (1, .int x1), (2, .int x2), (4, .int y2)]) hx hb dX3_outermost_59 rfl hl (by decide) rfl (fun ls hl => ?_)
              refine lv_iinc (v := (y2 + 1)) (lv' := [(4, .int (y2 + 1)), (3, .int y2), (0, .ref (q b)), (1, .int x1), (2, .int x2)]) hx hb dX3_outermost_60 hl (k := 4) rfl rfl (by decide) rfl (fun ls hl => ?_)
              refine lv_goto (tgt := 6) hx hb dX3_outermost_63 (by decide) ?_
              exact ih6 y2 (y2 + 1) ls hF (lv_sub hl [2, 3, 4, 1, 0] rfl)
        · have hF := zit c4 hF
          refine lv_goto (tgt := 60) hx hb dX3_outermost_24 (by decide) ?_
          refine lv_iinc (v := (y2 + 1)) (lv' := [(4, .int (y2 + 1)), (0, .ref (q b)), (1, .int x1), (2, .int x2), (3, .int y1)]) hx hb dX3_outermost_60 hl (k := 4) rfl rfl (by decide) rfl (fun ls hl => ?_)
          refine lv_goto (tgt := 6) hx hb dX3_outermost_63 (by decide) ?_
          exact ih6 y1 (y2 + 1) ls hF (lv_sub hl [1, 2, 3, 4, 0] rfl)
  exact L6 FU (-9) 0 ls hF (lv_sub hl [2, 3, 4, 1, 0] rfl)
def f3_firstRound_j33 (x1 : Int32) (y2 : Int32) (N : Mo) (k6 : (Int32 → Int32 → Option (Int32))) (y5 : Int32) : Option (Int32) := if 0 ≤ y5 then if (f6_has x1 y5) = 0 then k6 y5 (y2 + 1) else some y5 else bd (α := Int32) ((N.1 2) - 1) (fun (v8 : Int32) => if (f6_has x1 v8) = 0 then k6 v8 (y2 + 1) else some v8)
def f3_firstRound_l6 (x1 : Int32) (x3 : Int32) (N : Mo) : Nat → Int32 → Int32 → Option (Int32)
  | 0, _, _ => none
  | n6 + 1, y1, y2 => if (N.1 2) ≤ y2 then some (-9) else bd (α := Int32) (y1 + x3) (fun (v4 : Int32) => if v4 < (N.1 2) then f3_firstRound_j33 x1 y2 N (fun y1 y2 => f3_firstRound_l6 x1 x3 N n6 y1 y2) v4 else f3_firstRound_j33 x1 y2 N (fun y1 y2 => f3_firstRound_l6 x1 x3 N n6 y1 y2) 0)
def f3_firstRound (N : Mo) (x1 : Int32) (x2 : Int32) (x3 : Int32) : Option (Int32) := f3_firstRound_l6 x1 x3 N FU x2 0
abbrev rmX3_firstRound : Room := { frames := 1, cells := 0, slots := 0, locals := 21 }
set_option maxHeartbeats 4000000 in
set_option maxRecDepth 100000 in
theorem c3_firstRound (l : Launch) (g : zG) (q : Nat → Nat) (b : Nat) (N : Mo) (x1 : Int32) (x2 : Int32) (x3 : Int32) (ro : Int32) (hF : f3_firstRound N x1 x2 x3 = some ro) : zRO l g yX3_firstRound wsX3_firstRound rmX3_firstRound [.ref (q b), .int x1, .int x2, .int x3] (NW g q b N) (some (.int ro)) := by
  refine zRO_of (cc := cX3_firstRound) (maxL := 6) (ret := (some .int)) (by decide) rfl (Nat.le_of_ble_eq_true rfl) ?_
  intro p e s m args below meth c ls hx hb hr hml hts hown hlk hK hP hl
  have hown : s.vm.findClass RX3 = some m.cls := hown
  have hl : lv_has ls 6 [(0, .ref (q b)), (1, .int x1), (2, .int x2), (3, .int x3)] := hl
  have inX3 : ∀ w ∈ wsX30, w ∈ wsX3_firstRound := fun _ h => List.mem_cons_of_mem _ (List.mem_append_right _ h)
  unfold f3_firstRound at hF
  refine lv_iload_n hx hb dX3_firstRound_0 rfl (lv_at hl 2 rfl) ?_
  refine lv_istore (lv' := [(4, .int x2), (0, .ref (q b)), (1, .int x1), (2, .int x2), (3, .int x3)]) hx hb dX3_firstRound_1 hl (by decide) rfl (fun ls hl => ?_)
  refine lv_iconst (v := 0) hx hb dX3_firstRound_3 (by decide) ?_
  refine lv_istore (lv' := [(5, .int 0), (4, .int x2), (0, .ref (q b)), (1, .int x1), (2, .int x2), (3, .int x3)]) hx hb dX3_firstRound_4 hl (by decide) rfl (fun ls hl => ?_)
  have L6 : ∀ (n6 : Nat) (y1 : Int32) (y2 : Int32) (ls : Array Slot), f3_firstRound_l6 x1 x3 N n6 y1 y2 = some ro → lv_has ls 6 [(0, .ref (q b)), (1, .int x1), (3, .int x3), (4, .int y1), (5, .int y2)] → W p l e (headSpec wsX3_firstRound rmX3_firstRound).room s m args below meth c s.heap [] 0 0 (MQ below (zRQ (some (.int ro))) args s 0 0 (fun _ => False)) (F0 m 6 ls []) := by
    intro n6
    induction n6 with
    | zero =>
      intro y1 y2 ls hF hl
      exact absurd (show (none : Option (Int32)) = some _ from hF) (fun h9 => by cases h9)
    | succ n6 ih6 =>
      intro y1 y2 ls hF hl
      rw [f3_firstRound_l6] at hF
      refine lv_iload hx hb dX3_firstRound_6 (lv_at hl 4 rfl) ?_
      refine lv_aload_n hx hb dX3_firstRound_8 rfl (lv_at hl 0 rfl) ?_
      refine z_get (ci := 3) (v := .int (N.1 2)) (C := RX3) (T := TX3) (N := 13) hx hb hts inX3 hown hK hP 0 rfl rfl 2 (by decide) (List.mem_of_getElem? (i := 1) rfl) rfl rfl dX3_firstRound_9 ?_
      refine lv_icmp_ge (tgt := 64) hx hb dX3_firstRound_12 (by decide) (fun c3 => ?_) (fun c3 => ?_)
      · have hF := zit c3 hF
        refine lv_bipush (v := (-9)) hx hb dX3_firstRound_64 (by decide) ?_
        have e9a := zin hF
        exact z_ri hx hb hr hlk (congrArg (fun z => some (Value.int z)) e9a) dX3_firstRound_66
      · have hF := zif c3 hF
        refine lv_iload hx hb dX3_firstRound_15 (lv_at hl 3 rfl) ?_
        refine lv_iload_n hx hb dX3_firstRound_17 rfl (lv_at hl 2 rfl) ?_
        refine lv_iadd hx hb dX3_firstRound_18 ?_
        refine lv_topi (fun v4 ev4 => ?_)
        have hF := bd_eq ev4 hF
        refine lv_istore (lv' := [(4, .int v4), (0, .ref (q b)), (1, .int x1), (3, .int x3), (5, .int y2)]) hx hb dX3_firstRound_19 hl (by decide) rfl (fun ls hl => ?_)
        refine lv_iload hx hb dX3_firstRound_21 (lv_at hl 0 rfl) ?_
        refine lv_aload_n hx hb dX3_firstRound_23 rfl (lv_at hl 1 rfl) ?_
        refine z_get (ci := 3) (v := .int (N.1 2)) (C := RX3) (T := TX3) (N := 13) hx hb hts inX3 hown hK hP 0 rfl rfl 2 (by decide) (List.mem_of_getElem? (i := 1) rfl) rfl rfl dX3_firstRound_24 ?_
        have L33 : ∀ (y5 : Int32) (ls : Array Slot), f3_firstRound_j33 x1 y2 N (fun y1 y2 => f3_firstRound_l6 x1 x3 N n6 y1 y2) y5 = some ro → lv_has ls 6 [(0, .ref (q b)), (1, .int x1), (3, .int x3), (4, .int y5), (5, .int y2)] → W p l e (headSpec wsX3_firstRound rmX3_firstRound).room s m args below meth c s.heap [] 0 0 (MQ below (zRQ (some (.int ro))) args s 0 0 (fun _ => False)) (F0 m 33 ls []) := by
          intro y5 ls hF hl
          unfold f3_firstRound_j33 at hF
          refine lv_iload hx hb dX3_firstRound_33 (lv_at hl 3 rfl) ?_
          refine lv_if_ge (tgt := 46) hx hb dX3_firstRound_35 (by decide) (fun c6 => ?_) (fun c6 => ?_)
          · have hF := zit c6 hF
            refine lv_iload_n hx hb dX3_firstRound_46 rfl (lv_at hl 1 rfl) ?_
            refine lv_iload hx hb dX3_firstRound_47 (lv_at hl 3 rfl) ?_
            refine z_rgo (va_runSN (As := [.int x1, .int y5]) (rest := []) ⟨hx, hb, hml, hown, hts⟩ (c6_has l g   x1 y5) ⟨va_cnB 2 hts gX3_firstRound_X6_has_n75 rfl rfl rfl (hK.nest 10 rfl) (hts (.initialized RX6) (List.mem_of_getElem? (i := 3) rfl)) (by decide +kernel) ⟨Nat.le_of_ble_eq_true rfl, Nat.le_of_ble_eq_true rfl⟩, hts (.static yX6_has) (List.mem_of_getElem? (i := 2) rfl), trivial⟩ (z_rpre z_nil hK) rfl rfl hl.1 rfl (lv_room (Nat.le_of_ble_eq_true rfl)) dX3_firstRound_49 ⟨Nat.zero_le _, Nat.zero_le _⟩) ?_
            refine lv_if_eq (tgt := 58) hx hb dX3_firstRound_52 (by decide) (fun c7 => ?_) (fun c7 => ?_)
            · have hF := zit c7 hF
              refine lv_iinc (v := (y2 + 1)) (lv' := [(5, .int (y2 + 1)), (0, .ref (q b)), (1, .int x1), (3, .int x3), (4, .int y5)]) hx hb dX3_firstRound_58 hl (k := 4) rfl rfl (by decide) rfl (fun ls hl => ?_)
              refine lv_goto (tgt := 6) hx hb dX3_firstRound_61 (by decide) ?_
              exact ih6 y5 (y2 + 1) ls hF (lv_sub hl [1, 2, 3, 4, 0] rfl)
            · have hF := zif c7 hF
              refine lv_iload hx hb dX3_firstRound_55 (lv_at hl 3 rfl) ?_
              have e9a := zin hF
              exact z_ri hx hb hr hlk (congrArg (fun z => some (Value.int z)) e9a) dX3_firstRound_57
          · have hF := zif c6 hF
            refine lv_aload_n hx hb dX3_firstRound_38 rfl (lv_at hl 0 rfl) ?_
            refine z_get (ci := 3) (v := .int (N.1 2)) (C := RX3) (T := TX3) (N := 13) hx hb hts inX3 hown hK hP 0 rfl rfl 2 (by decide) (List.mem_of_getElem? (i := 1) rfl) rfl rfl dX3_firstRound_39 ?_
            refine lv_iconst (v := 1) hx hb dX3_firstRound_42 (by decide) ?_
            refine lv_isub hx hb dX3_firstRound_43 ?_
            refine lv_topi (fun v8 ev8 => ?_)
            have hF := bd_eq ev8 hF
            refine lv_istore (lv' := [(4, .int v8), (0, .ref (q b)), (1, .int x1), (3, .int x3), (5, .int y2)]) hx hb dX3_firstRound_44 hl (by decide) rfl (fun ls hl => ?_)
            refine lv_iload_n hx hb dX3_firstRound_46 rfl (lv_at hl 2 rfl) ?_
            refine lv_iload hx hb dX3_firstRound_47 (lv_at hl 0 rfl) ?_
            refine z_rgo (va_runSN (As := [.int x1, .int v8]) (rest := []) ⟨hx, hb, hml, hown, hts⟩ (c6_has l g   x1 v8) ⟨va_cnB 2 hts gX3_firstRound_X6_has_n75 rfl rfl rfl (hK.nest 10 rfl) (hts (.initialized RX6) (List.mem_of_getElem? (i := 3) rfl)) (by decide +kernel) ⟨Nat.le_of_ble_eq_true rfl, Nat.le_of_ble_eq_true rfl⟩, hts (.static yX6_has) (List.mem_of_getElem? (i := 2) rfl), trivial⟩ (z_rpre z_nil hK) rfl rfl hl.1 rfl (lv_room (Nat.le_of_ble_eq_true rfl)) dX3_firstRound_49 ⟨Nat.zero_le _, Nat.zero_le _⟩) ?_
            refine lv_if_eq (tgt := 58) hx hb dX3_firstRound_52 (by decide) (fun c9 => ?_) (fun c9 => ?_)
            · have hF := zit c9 hF
              refine lv_iinc (v := (y2 + 1)) (lv' := [(5, .int (y2 + 1)), (4, .int v8), (0, .ref (q b)), (1, .int x1), (3, .int x3)]) hx hb dX3_firstRound_58 hl (k := 4) rfl rfl (by decide) rfl (fun ls hl => ?_)
              refine lv_goto (tgt := 6) hx hb dX3_firstRound_61 (by decide) ?_
              exact ih6 v8 (y2 + 1) ls hF (lv_sub hl [2, 3, 4, 1, 0] rfl)
            · have hF := zif c9 hF
              refine lv_iload hx hb dX3_firstRound_55 (lv_at hl 0 rfl) ?_
              have e9a := zin hF
              exact z_ri hx hb hr hlk (congrArg (fun z => some (Value.int z)) e9a) dX3_firstRound_57
        refine lv_icmp_lt (tgt := 33) hx hb dX3_firstRound_27 (by decide) (fun c10 => ?_) (fun c10 => ?_)
        · have hF := zit c10 hF
          exact L33 v4 ls hF (lv_sub hl [1, 2, 3, 0, 4] rfl)
        · have hF := zif c10 hF
          refine lv_iconst (v := 0) hx hb dX3_firstRound_30 (by decide) ?_
          refine lv_istore (lv' := [(4, .int 0), (0, .ref (q b)), (1, .int x1), (3, .int x3), (5, .int y2)]) hx hb dX3_firstRound_31 hl (by decide) rfl (fun ls hl => ?_)
          exact L33 0 ls hF (lv_sub hl [1, 2, 3, 0, 4] rfl)
  exact L6 FU x2 0 ls hF (lv_sub hl [2, 3, 5, 1, 0] rfl)
def f2_nextOf (M : Mo) (N : Mo) (x1 : Int32) (x3 : Int32) : Option (Int32) := if (f6_has (M.1 5) x1) = 0 then bd (α := Int32) (f6_cell 4 (M.2 0) x1) (fun (v2 : Int32) => (f3_beside N v2 (M.1 6)).bind fun v3 => (f3_under N x3).bind fun v4 => bd (α := Int32) (v3 &&& (v4 ^^^ (-1))) (fun (v5 : Int32) => bd (α := Int32) (v5 &&& ((f6_bit (f6_cell 4 (M.2 1) x1)) ^^^ (-1))) (fun (v6 : Int32) => bd (α := Int32) (if v6 = 0 then v5 else v6) (fun (v7 : Int32) => if (f6_cell 4 (M.2 3) x1) = 0 then (f3_outermost N v7 1).bind fun v10 => some v10 else if (f6_cell 4 (M.2 3) x1) = 1 then (f3_outermost N v7 (-1)).bind fun v12 => some v12 else if (f6_cell 4 (M.2 3) x1) = 2 then (f3_firstRound N v7 v2 1).bind fun v14 => some v14 else (f3_firstRound N v7 v2 (-1)).bind fun v15 => some v15)))) else some (-9)
abbrev rmX2_nextOf : Room := { frames := 2, cells := 0, slots := 0, locals := 47 }
set_option maxHeartbeats 4000000 in
set_option maxRecDepth 100000 in
theorem c2_nextOf (l : Launch) (g : zG) (q : Nat → Nat) (b : Nat) (r : Nat → Nat) (d : Nat) (M : Mo) (N : Mo) (x1 : Int32) (x3 : Int32) (ro : Int32) (hF : f2_nextOf M N x1 x3 = some ro) : zRO l g yX2_nextOf wsX2_nextOf rmX2_nextOf [.ref (q b), .int x1, .ref (r d), .int x3] (OW g q b M ++ NW g r d N) (some (.int ro)) := by
  refine zRO_of (cc := cX2_nextOf) (maxL := 8) (ret := (some .int)) (by decide) rfl (Nat.le_of_ble_eq_true rfl) ?_
  intro p e s m args below meth c ls hx hb hr hml hts hown hlk hK hP hl
  have hown : s.vm.findClass RX2 = some m.cls := hown
  have hl : lv_has ls 8 [(0, .ref (q b)), (1, .int x1), (2, .ref (r d)), (3, .int x3)] := hl
  have inX2 : ∀ w ∈ wsX20, w ∈ wsX2_nextOf := fun _ h => List.mem_cons_of_mem _ (List.mem_append_left _ (List.mem_append_right _ h))
  unfold f2_nextOf at hF
  refine lv_aload_n hx hb dX2_nextOf_0 rfl (lv_at hl 0 rfl) ?_
  refine z_get (ci := 2) (v := .int (M.1 5)) (C := RX2) (T := TX2) (N := 9) hx hb hts inX2 hown hK hP 0 rfl rfl 5 (by decide) (List.mem_of_getElem? (i := 1) rfl) rfl rfl dX2_nextOf_1 ?_
  refine lv_iload_n hx hb dX2_nextOf_4 rfl (lv_at hl 1 rfl) ?_
  refine z_rgo (va_runSN (As := [.int (M.1 5), .int x1]) (rest := []) ⟨hx, hb, hml, hown, hts⟩ (c6_has l g   (M.1 5) x1) ⟨va_cnB 2 hts gX2_nextOf_X6_has_n74 rfl rfl rfl (hK.nest 19 rfl) (hts (.initialized RX6) (List.mem_of_getElem? (i := 7) rfl)) (by decide +kernel) ⟨Nat.le_of_ble_eq_true rfl, Nat.le_of_ble_eq_true rfl⟩, hts (.static yX6_has) (List.mem_of_getElem? (i := 6) rfl), trivial⟩ (z_rpre z_nil hK) rfl rfl hl.1 rfl (lv_room (Nat.le_of_ble_eq_true rfl)) dX2_nextOf_5 ⟨Nat.zero_le _, Nat.zero_le _⟩) ?_
  refine lv_if_eq (tgt := 14) hx hb dX2_nextOf_8 (by decide) (fun c1 => ?_) (fun c1 => ?_)
  · have hF := zit c1 hF
    refine lv_aload_n hx hb dX2_nextOf_14 rfl (lv_at hl 0 rfl) ?_
    refine z_get (ci := 2) (v := .ref (q (b + 1))) (C := RX2) (T := TX2) (N := 9) hx hb hts inX2 hown hK hP 0 rfl rfl 0 (by decide) (List.mem_of_getElem? (i := 2) rfl) rfl rfl dX2_nextOf_15 ?_
    refine lv_iload_n hx hb dX2_nextOf_18 rfl (lv_at hl 1 rfl) ?_
    refine z_rgo (va_runSN (As := [.ref (q (b + 1)), .int x1]) (rest := []) ⟨hx, hb, hml, hown, hts⟩ (c6_cell l g (q (b + 1)) 4 (by decide) (M.2 0) x1) ⟨va_cnB 2 hts gX2_nextOf_X6_cell_n29 rfl rfl rfl (hK.nest 16 rfl) (hts (.initialized RX6) (List.mem_of_getElem? (i := 7) rfl)) (by decide +kernel) ⟨Nat.le_of_ble_eq_true rfl, Nat.le_of_ble_eq_true rfl⟩, hts (.static yX6_cell) (List.mem_of_getElem? (i := 9) rfl), trivial⟩ (z_rpre (hP.sub (ws' := [((q (b + 1)), .inl (g.2.2.1, 4, .inl (M.2 0)))]) [1] rfl) hK) rfl rfl hl.1 rfl (lv_room (Nat.le_of_ble_eq_true rfl)) dX2_nextOf_19 ⟨Nat.zero_le _, Nat.zero_le _⟩) ?_
    refine lv_topi (fun v2 ev2 => ?_)
    have hF := bd_eq ev2 hF
    refine lv_istore (lv' := [(4, .int v2), (0, .ref (q b)), (1, .int x1), (2, .ref (r d)), (3, .int x3)]) hx hb dX2_nextOf_22 hl (by decide) rfl (fun ls hl => ?_)
    refine lv_aload_n hx hb dX2_nextOf_24 rfl (lv_at hl 3 rfl) ?_
    refine lv_iload hx hb dX2_nextOf_25 (lv_at hl 0 rfl) ?_
    refine lv_aload_n hx hb dX2_nextOf_27 rfl (lv_at hl 1 rfl) ?_
    refine z_get (ci := 2) (v := .int (M.1 6)) (C := RX2) (T := TX2) (N := 9) hx hb hts inX2 hown hK hP 0 rfl rfl 6 (by decide) (List.mem_of_getElem? (i := 3) rfl) rfl rfl dX2_nextOf_28 ?_
    obtain ⟨v3, hv3, hF⟩ := zob hF
    refine z_rgo (va_runV (As := [.int v2, .int (M.1 6)]) (rest := []) ⟨hx, hb, hml, hown, hts⟩ (c3_beside l g r d N v2 (M.1 6) v3 hv3) (cwV 2 hts gX2_nextOf_X3_beside rfl rfl rfl (by decide +kernel) ⟨Nat.le_of_ble_eq_true rfl, Nat.le_of_ble_eq_true rfl⟩) (z_rpreV (ci := 3) (q := (RX3, TX3, 13)) (q0 := 0) (hP.sub (ws' := NW g r d N) [5, 6, 7, 8, 9, 10, 11, 12] rfl) hK rfl rfl) rfl rfl hl.1 rfl (lv_room (Nat.le_of_ble_eq_true rfl)) dX2_nextOf_31 ⟨Nat.zero_le _, Nat.zero_le _⟩) ?_
    refine lv_aload_n hx hb dX2_nextOf_34 rfl (lv_at hl 3 rfl) ?_
    refine lv_iload_n hx hb dX2_nextOf_35 rfl (lv_at hl 4 rfl) ?_
    obtain ⟨v4, hv4, hF⟩ := zob hF
    refine z_rgo (va_runV (As := [.int x3]) (rest := [.int v3]) ⟨hx, hb, hml, hown, hts⟩ (c3_under l g r d N x3 v4 hv4) (cwV 1 hts gX2_nextOf_X3_under rfl rfl rfl (by decide +kernel) ⟨Nat.le_of_ble_eq_true rfl, Nat.le_of_ble_eq_true rfl⟩) (z_rpreV (ci := 3) (q := (RX3, TX3, 13)) (q0 := 0) (hP.sub (ws' := NW g r d N) [5, 6, 7, 8, 9, 10, 11, 12] rfl) hK rfl rfl) rfl rfl hl.1 rfl (lv_room (Nat.le_of_ble_eq_true rfl)) dX2_nextOf_36 ⟨Nat.zero_le _, Nat.zero_le _⟩) ?_
    refine lv_iconst (v := (-1)) hx hb dX2_nextOf_39 (by decide) ?_
    refine lv_ixor hx hb dX2_nextOf_40 ?_
    refine lv_iand hx hb dX2_nextOf_41 ?_
    refine lv_topi (fun v5 ev5 => ?_)
    have hF := bd_eq ev5 hF
    refine lv_istore (lv' := [(5, .int v5), (4, .int v2), (0, .ref (q b)), (1, .int x1), (2, .ref (r d)), (3, .int x3)]) hx hb dX2_nextOf_42 hl (by decide) rfl (fun ls hl => ?_)
    refine lv_iload hx hb dX2_nextOf_44 (lv_at hl 0 rfl) ?_
    refine lv_aload_n hx hb dX2_nextOf_46 rfl (lv_at hl 2 rfl) ?_
    refine z_get (ci := 2) (v := .ref (q (b + 2))) (C := RX2) (T := TX2) (N := 9) hx hb hts inX2 hown hK hP 0 rfl rfl 1 (by decide) (List.mem_of_getElem? (i := 4) rfl) rfl rfl dX2_nextOf_47 ?_
    refine lv_iload_n hx hb dX2_nextOf_50 rfl (lv_at hl 3 rfl) ?_
    refine z_rgo (va_runSN (As := [.ref (q (b + 2)), .int x1]) (rest := [.int v5]) ⟨hx, hb, hml, hown, hts⟩ (c6_cell l g (q (b + 2)) 4 (by decide) (M.2 1) x1) ⟨va_cnB 2 hts gX2_nextOf_X6_cell_n29 rfl rfl rfl (hK.nest 16 rfl) (hts (.initialized RX6) (List.mem_of_getElem? (i := 7) rfl)) (by decide +kernel) ⟨Nat.le_of_ble_eq_true rfl, Nat.le_of_ble_eq_true rfl⟩, hts (.static yX6_cell) (List.mem_of_getElem? (i := 9) rfl), trivial⟩ (z_rpre (hP.sub (ws' := [((q (b + 2)), .inl (g.2.2.1, 4, .inl (M.2 1)))]) [2] rfl) hK) rfl rfl hl.1 rfl (lv_room (Nat.le_of_ble_eq_true rfl)) dX2_nextOf_51 ⟨Nat.zero_le _, Nat.zero_le _⟩) ?_
    refine z_rgo (va_runSN (As := [.int (f6_cell 4 (M.2 1) x1)]) (rest := [.int v5]) ⟨hx, hb, hml, hown, hts⟩ (c6_bit l g   (f6_cell 4 (M.2 1) x1)) ⟨va_cnB 1 hts gX2_nextOf_X6_bit_n64 rfl rfl rfl (hK.nest 20 rfl) (hts (.initialized RX6) (List.mem_of_getElem? (i := 7) rfl)) (by decide +kernel) ⟨Nat.le_of_ble_eq_true rfl, Nat.le_of_ble_eq_true rfl⟩, hts (.static yX6_bit) (List.mem_of_getElem? (i := 19) rfl), trivial⟩ (z_rpre z_nil hK) rfl rfl hl.1 rfl (lv_room (Nat.le_of_ble_eq_true rfl)) dX2_nextOf_54 ⟨Nat.zero_le _, Nat.zero_le _⟩) ?_
    refine lv_iconst (v := (-1)) hx hb dX2_nextOf_57 (by decide) ?_
    refine lv_ixor hx hb dX2_nextOf_58 ?_
    refine lv_iand hx hb dX2_nextOf_59 ?_
    refine lv_topi (fun v6 ev6 => ?_)
    have hF := bd_eq ev6 hF
    refine lv_istore (lv' := [(6, .int v6), (5, .int v5), (4, .int v2), (0, .ref (q b)), (1, .int x1), (2, .ref (r d)), (3, .int x3)]) hx hb dX2_nextOf_60 hl (by decide) rfl (fun ls hl => ?_)
    refine lv_iload hx hb dX2_nextOf_62 (lv_at hl 0 rfl) ?_
    obtain ⟨v7, hVv7⟩ : ∃ y : Int32, (if v6 = 0 then v5 else v6 : Int32) = y := ⟨_, rfl⟩
    have hF := bd_eq hVv7.symm hF
    have Jv7 : W p l e (headSpec wsX2_nextOf rmX2_nextOf).room s m args below meth c s.heap [] 0 0 (MQ below (zRQ (some (.int ro))) args s 0 0 (fun _ => False)) (F0 m 74 ls [.int v7]) := by
      refine lv_istore (lv' := [(7, .int v7), (6, .int v6), (5, .int v5), (4, .int v2), (0, .ref (q b)), (1, .int x1), (2, .ref (r d)), (3, .int x3)]) hx hb dX2_nextOf_74 hl (by decide) rfl (fun ls hl => ?_)
      refine lv_aload_n hx hb dX2_nextOf_76 rfl (lv_at hl 4 rfl) ?_
      refine z_get (ci := 2) (v := .ref (q (b + 4))) (C := RX2) (T := TX2) (N := 9) hx hb hts inX2 hown hK hP 0 rfl rfl 3 (by decide) (List.mem_of_getElem? (i := 5) rfl) rfl rfl dX2_nextOf_77 ?_
      refine lv_iload_n hx hb dX2_nextOf_80 rfl (lv_at hl 5 rfl) ?_
      refine z_rgo (va_runSN (As := [.ref (q (b + 4)), .int x1]) (rest := []) ⟨hx, hb, hml, hown, hts⟩ (c6_cell l g (q (b + 4)) 4 (by decide) (M.2 3) x1) ⟨va_cnB 2 hts gX2_nextOf_X6_cell_n29 rfl rfl rfl (hK.nest 16 rfl) (hts (.initialized RX6) (List.mem_of_getElem? (i := 7) rfl)) (by decide +kernel) ⟨Nat.le_of_ble_eq_true rfl, Nat.le_of_ble_eq_true rfl⟩, hts (.static yX6_cell) (List.mem_of_getElem? (i := 9) rfl), trivial⟩ (z_rpre (hP.sub (ws' := [((q (b + 4)), .inl (g.2.2.1, 4, .inl (M.2 3)))]) [4] rfl) hK) rfl rfl hl.1 rfl (lv_room (Nat.le_of_ble_eq_true rfl)) dX2_nextOf_81 ⟨Nat.zero_le _, Nat.zero_le _⟩) ?_
      by_cases c9 : (f6_cell 4 (M.2 3) x1) = 0
      · have hF := zit c9 hF
        refine z_tin (k := 0) (tgt := 112) hx hb dX2_nextOf_84 c9 ⟨by decide, by decide, rfl, by decide⟩ ?_
        refine lv_aload_n hx hb dX2_nextOf_112 rfl (lv_at hl 6 rfl) ?_
        refine lv_iload hx hb dX2_nextOf_113 (lv_at hl 0 rfl) ?_
        refine lv_iconst (v := 1) hx hb dX2_nextOf_115 (by decide) ?_
        obtain ⟨v10, hv10, hF⟩ := zob hF
        refine z_rgo (va_runV (As := [.int v7, .int 1]) (rest := []) ⟨hx, hb, hml, hown, hts⟩ (c3_outermost l g r d N v7 1 v10 hv10) (cwV 2 hts gX2_nextOf_X3_outermost rfl rfl rfl (by decide +kernel) ⟨Nat.le_of_ble_eq_true rfl, Nat.le_of_ble_eq_true rfl⟩) (z_rpreV (ci := 3) (q := (RX3, TX3, 13)) (q0 := 0) (hP.sub (ws' := NW g r d N) [5, 6, 7, 8, 9, 10, 11, 12] rfl) hK rfl rfl) rfl rfl hl.1 rfl (lv_room (Nat.le_of_ble_eq_true rfl)) dX2_nextOf_116 ⟨Nat.zero_le _, Nat.zero_le _⟩) ?_
        have e9a := zin hF
        exact z_ri hx hb hr hlk (congrArg (fun z => some (Value.int z)) e9a) dX2_nextOf_119
      · have hF := zif c9 hF
        by_cases c11 : (f6_cell 4 (M.2 3) x1) = 1
        · have hF := zit c11 hF
          refine z_tin (k := 1) (tgt := 120) hx hb dX2_nextOf_84 c11 ⟨by decide, by decide, rfl, by decide⟩ ?_
          refine lv_aload_n hx hb dX2_nextOf_120 rfl (lv_at hl 6 rfl) ?_
          refine lv_iload hx hb dX2_nextOf_121 (lv_at hl 0 rfl) ?_
          refine lv_iconst (v := (-1)) hx hb dX2_nextOf_123 (by decide) ?_
          obtain ⟨v12, hv12, hF⟩ := zob hF
          refine z_rgo (va_runV (As := [.int v7, .int (-1)]) (rest := []) ⟨hx, hb, hml, hown, hts⟩ (c3_outermost l g r d N v7 (-1) v12 hv12) (cwV 2 hts gX2_nextOf_X3_outermost rfl rfl rfl (by decide +kernel) ⟨Nat.le_of_ble_eq_true rfl, Nat.le_of_ble_eq_true rfl⟩) (z_rpreV (ci := 3) (q := (RX3, TX3, 13)) (q0 := 0) (hP.sub (ws' := NW g r d N) [5, 6, 7, 8, 9, 10, 11, 12] rfl) hK rfl rfl) rfl rfl hl.1 rfl (lv_room (Nat.le_of_ble_eq_true rfl)) dX2_nextOf_124 ⟨Nat.zero_le _, Nat.zero_le _⟩) ?_
          have e9a := zin hF
          exact z_ri hx hb hr hlk (congrArg (fun z => some (Value.int z)) e9a) dX2_nextOf_127
        · have hF := zif c11 hF
          by_cases c13 : (f6_cell 4 (M.2 3) x1) = 2
          · have hF := zit c13 hF
            refine z_tin (k := 2) (tgt := 128) hx hb dX2_nextOf_84 c13 ⟨by decide, by decide, rfl, by decide⟩ ?_
            refine lv_aload_n hx hb dX2_nextOf_128 rfl (lv_at hl 6 rfl) ?_
            refine lv_iload hx hb dX2_nextOf_129 (lv_at hl 0 rfl) ?_
            refine lv_iload hx hb dX2_nextOf_131 (lv_at hl 3 rfl) ?_
            refine lv_iconst (v := 1) hx hb dX2_nextOf_133 (by decide) ?_
            obtain ⟨v14, hv14, hF⟩ := zob hF
            refine z_rgo (va_runV (As := [.int v7, .int v2, .int 1]) (rest := []) ⟨hx, hb, hml, hown, hts⟩ (c3_firstRound l g r d N v7 v2 1 v14 hv14) (cwV 3 hts gX2_nextOf_X3_firstRound rfl rfl rfl (by decide +kernel) ⟨Nat.le_of_ble_eq_true rfl, Nat.le_of_ble_eq_true rfl⟩) (z_rpreV (ci := 3) (q := (RX3, TX3, 13)) (q0 := 0) (hP.sub (ws' := NW g r d N) [5, 6, 7, 8, 9, 10, 11, 12] rfl) hK rfl rfl) rfl rfl hl.1 rfl (lv_room (Nat.le_of_ble_eq_true rfl)) dX2_nextOf_134 ⟨Nat.zero_le _, Nat.zero_le _⟩) ?_
            have e9a := zin hF
            exact z_ri hx hb hr hlk (congrArg (fun z => some (Value.int z)) e9a) dX2_nextOf_137
          · have hF := zif c13 hF
            refine z_tout hx hb dX2_nextOf_84 [0, 1, 2] (fun k hk => ?_) rfl (tgt := 138) (by decide) ?_
            · simp only [List.mem_cons, List.not_mem_nil, or_false] at hk
              rcases hk with rfl | rfl | rfl <;> assumption
            · refine lv_aload_n hx hb dX2_nextOf_138 rfl (lv_at hl 6 rfl) ?_
              refine lv_iload hx hb dX2_nextOf_139 (lv_at hl 0 rfl) ?_
              refine lv_iload hx hb dX2_nextOf_141 (lv_at hl 3 rfl) ?_
              refine lv_iconst (v := (-1)) hx hb dX2_nextOf_143 (by decide) ?_
              obtain ⟨v15, hv15, hF⟩ := zob hF
              refine z_rgo (va_runV (As := [.int v7, .int v2, .int (-1)]) (rest := []) ⟨hx, hb, hml, hown, hts⟩ (c3_firstRound l g r d N v7 v2 (-1) v15 hv15) (cwV 3 hts gX2_nextOf_X3_firstRound rfl rfl rfl (by decide +kernel) ⟨Nat.le_of_ble_eq_true rfl, Nat.le_of_ble_eq_true rfl⟩) (z_rpreV (ci := 3) (q := (RX3, TX3, 13)) (q0 := 0) (hP.sub (ws' := NW g r d N) [5, 6, 7, 8, 9, 10, 11, 12] rfl) hK rfl rfl) rfl rfl hl.1 rfl (lv_room (Nat.le_of_ble_eq_true rfl)) dX2_nextOf_144 ⟨Nat.zero_le _, Nat.zero_le _⟩) ?_
              have e9a := zin hF
              exact z_ri hx hb hr hlk (congrArg (fun z => some (Value.int z)) e9a) dX2_nextOf_147
    refine lv_if_eq (tgt := 72) hx hb dX2_nextOf_64 (by decide) (fun c8 => ?_) (fun c8 => ?_)
    · have hVv7 := zit c8 hVv7
      refine lv_iload hx hb dX2_nextOf_72 (lv_at hl 1 rfl) ?_
      subst hVv7
      exact Jv7
    · have hVv7 := zif c8 hVv7
      refine lv_iload hx hb dX2_nextOf_67 (lv_at hl 0 rfl) ?_
      refine lv_goto (tgt := 74) hx hb dX2_nextOf_69 (by decide) ?_
      subst hVv7
      exact Jv7
  · have hF := zif c1 hF
    refine lv_bipush (v := (-9)) hx hb dX2_nextOf_11 (by decide) ?_
    have e9a := zin hF
    exact z_ri hx hb hr hlk (congrArg (fun z => some (Value.int z)) e9a) dX2_nextOf_13
def f2_walkOn (M : Mo) (x1 : Int32) (x2 : Int32) : Option (Mo) := if x2 = (-9) then some M else bd (sA M 1 (f6_put 4 (M.2 1) x1 (f6_cell 4 (M.2 0) x1))) (fun (M2 : Mo) => bd (sA M2 0 (f6_put 4 (M2.2 0) x1 x2)) (fun (M3 : Mo) => bd (sA M3 2 (f6_put 4 (M3.2 2) x1 (if 9 < ((f6_cell 4 (M3.2 2) x1) + 1) then 9 else ((f6_cell 4 (M3.2 2) x1) + 1)))) (fun (M4 : Mo) => some M4)))
abbrev rmX2_walkOn : Room := { frames := 1, cells := 0, slots := 0, locals := 22 }
set_option maxHeartbeats 4000000 in
set_option maxRecDepth 100000 in
theorem c2_walkOn (l : Launch) (g : zG) (q : Nat → Nat) (b : Nat) (M : Mo) (x1 : Int32) (x2 : Int32) (M_o : Mo) (hF : f2_walkOn M x1 x2 = some M_o) : zRW l g yX2_walkOn wsX2_walkOn rmX2_walkOn [.ref (q b), .int x1, .int x2] (OW g q b M) none (OW g q b M_o) := by
  refine zRW_of (cc := cX2_walkOn) (maxL := 3) (ret := none) (by decide) rfl (Nat.le_of_ble_eq_true rfl) ?_
  intro p e s m args below meth c A H locs ls hx hb hr hml hts hown hlk hK hA hP hD hS hl
  have hown : s.vm.findClass RX2 = some m.cls := hown
  have hl : lv_has ls 3 [(0, .ref (q b)), (1, .int x1), (2, .int x2)] := hl
  have inX2 : ∀ w ∈ wsX20, w ∈ wsX2_walkOn := fun _ h => List.mem_cons_of_mem _ (List.mem_append_right _ h)
  unfold f2_walkOn at hF
  refine lv_iload_n hx hb dX2_walkOn_0 rfl (lv_at hl 2 rfl) ?_
  refine lv_bipush (v := (-9)) hx hb dX2_walkOn_1 (by decide) ?_
  refine lv_icmp_ne (tgt := 7) hx hb dX2_walkOn_3 (by decide) (fun c1 => ?_) (fun c1 => ?_)
  · have hF := zif c1 hF
    refine lv_aload_n hx hb dX2_walkOn_7 rfl (lv_at hl 0 rfl) ?_
    refine z_get (ci := 2) (v := .ref (q (b + 2))) (C := RX2) (T := TX2) (N := 9) hx hb hts inX2 hown hK hP 0 rfl rfl 1 (by decide) (List.mem_of_getElem? (i := 1) rfl) rfl rfl dX2_walkOn_8 ?_
    refine lv_iload_n hx hb dX2_walkOn_11 rfl (lv_at hl 1 rfl) ?_
    refine lv_aload_n hx hb dX2_walkOn_12 rfl (lv_at hl 0 rfl) ?_
    refine z_get (ci := 2) (v := .ref (q (b + 1))) (C := RX2) (T := TX2) (N := 9) hx hb hts inX2 hown hK hP 0 rfl rfl 0 (by decide) (List.mem_of_getElem? (i := 2) rfl) rfl rfl dX2_walkOn_13 ?_
    refine lv_iload_n hx hb dX2_walkOn_16 rfl (lv_at hl 1 rfl) ?_
    refine z_rgo (va_runSN (As := [.ref (q (b + 1)), .int x1]) (rest := [.int x1, .ref (q (b + 2))]) ⟨hx, hb, hml, hown, hts⟩ (c6_cell l g (q (b + 1)) 4 (by decide) (M.2 0) x1) ⟨va_cnB 2 hts gX2_walkOn_X6_cell_n29 rfl rfl rfl (hK.nest 16 rfl) (hts (.initialized RX6) (List.mem_of_getElem? (i := 9) rfl)) (by decide +kernel) ⟨Nat.le_of_ble_eq_true rfl, Nat.le_of_ble_eq_true rfl⟩, hts (.static yX6_cell) (List.mem_of_getElem? (i := 8) rfl), trivial⟩ (z_rpre (hP.sub (ws' := [((q (b + 1)), .inl (g.2.2.1, 4, .inl (M.2 0)))]) [1] rfl) hK) rfl rfl hl.1 rfl (lv_room (Nat.le_of_ble_eq_true rfl)) dX2_walkOn_17 ⟨Nat.zero_le _, Nat.zero_le _⟩) ?_
    refine z_wgo (wn := OW g q b (sA M 1 (f6_put 4 (M.2 1) x1 (f6_cell 4 (M.2 0) x1)))) (va_runSN (As := [.ref (q (b + 2)), .int x1, .int (f6_cell 4 (M.2 0) x1)]) (rest := []) ⟨hx, hb, hml, hown, hts⟩ ((c6_put l g (q (b + 2)) 4 (by decide) (M.2 1) x1 (f6_cell 4 (M.2 0) x1)) H.size) ⟨va_cnB 3 hts gX2_walkOn_X6_put_n33 rfl rfl rfl (hK.nest 17 rfl) (hts (.initialized RX6) (List.mem_of_getElem? (i := 9) rfl)) (by decide +kernel) ⟨Nat.le_of_ble_eq_true rfl, Nat.le_of_ble_eq_true rfl⟩, hts (.static yX6_put) (List.mem_of_getElem? (i := 11) rfl), trivial⟩ (z_wpre (hP.sub (ws' := [((q (b + 2)), .inl (g.2.2.1, 4, .inl (M.2 1)))]) [2] rfl) hK (z_any (hD.sub (ws' := [((q (b + 2)), .inl (g.2.2.1, 4, .inl (M.2 1)))]) [2] (by decide) rfl))) rfl rfl hl.1 rfl (lv_room (Nat.le_of_ble_eq_true rfl)) dX2_walkOn_20 ⟨Nat.zero_le _, Nat.zero_le _⟩) hP hD hS hA [2] rfl (by decide) rfl rfl (fun H locs hP hD hS => ?_)
    show W p l e (headSpec wsX2_walkOn rmX2_walkOn).room s m args below meth c H locs 0 0 (MQ below (zWQ g A (OW g q b M_o) none) args s 0 0 A) (F0 m 23 ls [])
    obtain ⟨M2, eM2⟩ : ∃ y : Mo, y = (sA M 1 (f6_put 4 (M.2 1) x1 (f6_cell 4 (M.2 0) x1))) := ⟨_, rfl⟩
    rw [← eM2] at hP hD
    have hF := bd_eq eM2 hF
    refine lv_aload_n hx hb dX2_walkOn_23 rfl (lv_at hl 0 rfl) ?_
    refine z_get (ci := 2) (v := .ref (q (b + 1))) (C := RX2) (T := TX2) (N := 9) hx hb hts inX2 hown hK hP 0 rfl rfl 0 (by decide) (List.mem_of_getElem? (i := 2) rfl) rfl rfl dX2_walkOn_24 ?_
    refine lv_iload_n hx hb dX2_walkOn_27 rfl (lv_at hl 1 rfl) ?_
    refine lv_iload_n hx hb dX2_walkOn_28 rfl (lv_at hl 2 rfl) ?_
    refine z_wgo (wn := OW g q b (sA M2 0 (f6_put 4 (M2.2 0) x1 x2))) (va_runSN (As := [.ref (q (b + 1)), .int x1, .int x2]) (rest := []) ⟨hx, hb, hml, hown, hts⟩ ((c6_put l g (q (b + 1)) 4 (by decide) (M2.2 0) x1 x2) H.size) ⟨va_cnB 3 hts gX2_walkOn_X6_put_n33 rfl rfl rfl (hK.nest 17 rfl) (hts (.initialized RX6) (List.mem_of_getElem? (i := 9) rfl)) (by decide +kernel) ⟨Nat.le_of_ble_eq_true rfl, Nat.le_of_ble_eq_true rfl⟩, hts (.static yX6_put) (List.mem_of_getElem? (i := 11) rfl), trivial⟩ (z_wpre (hP.sub (ws' := [((q (b + 1)), .inl (g.2.2.1, 4, .inl (M2.2 0)))]) [1] rfl) hK (z_any (hD.sub (ws' := [((q (b + 1)), .inl (g.2.2.1, 4, .inl (M2.2 0)))]) [1] (by decide) rfl))) rfl rfl hl.1 rfl (lv_room (Nat.le_of_ble_eq_true rfl)) dX2_walkOn_29 ⟨Nat.zero_le _, Nat.zero_le _⟩) hP hD hS hA [1] rfl (by decide) rfl rfl (fun H locs hP hD hS => ?_)
    show W p l e (headSpec wsX2_walkOn rmX2_walkOn).room s m args below meth c H locs 0 0 (MQ below (zWQ g A (OW g q b M_o) none) args s 0 0 A) (F0 m 32 ls [])
    obtain ⟨M3, eM3⟩ : ∃ y : Mo, y = (sA M2 0 (f6_put 4 (M2.2 0) x1 x2)) := ⟨_, rfl⟩
    rw [← eM3] at hP hD
    have hF := bd_eq eM3 hF
    refine lv_aload_n hx hb dX2_walkOn_32 rfl (lv_at hl 0 rfl) ?_
    refine z_get (ci := 2) (v := .ref (q (b + 3))) (C := RX2) (T := TX2) (N := 9) hx hb hts inX2 hown hK hP 0 rfl rfl 2 (by decide) (List.mem_of_getElem? (i := 3) rfl) rfl rfl dX2_walkOn_33 ?_
    refine lv_iload_n hx hb dX2_walkOn_36 rfl (lv_at hl 1 rfl) ?_
    refine lv_aload_n hx hb dX2_walkOn_37 rfl (lv_at hl 0 rfl) ?_
    refine z_get (ci := 2) (v := .ref (q (b + 3))) (C := RX2) (T := TX2) (N := 9) hx hb hts inX2 hown hK hP 0 rfl rfl 2 (by decide) (List.mem_of_getElem? (i := 3) rfl) rfl rfl dX2_walkOn_38 ?_
    refine lv_iload_n hx hb dX2_walkOn_41 rfl (lv_at hl 1 rfl) ?_
    refine z_rgo (va_runSN (As := [.ref (q (b + 3)), .int x1]) (rest := [.int x1, .ref (q (b + 3))]) ⟨hx, hb, hml, hown, hts⟩ (c6_cell l g (q (b + 3)) 4 (by decide) (M3.2 2) x1) ⟨va_cnB 2 hts gX2_walkOn_X6_cell_n29 rfl rfl rfl (hK.nest 16 rfl) (hts (.initialized RX6) (List.mem_of_getElem? (i := 9) rfl)) (by decide +kernel) ⟨Nat.le_of_ble_eq_true rfl, Nat.le_of_ble_eq_true rfl⟩, hts (.static yX6_cell) (List.mem_of_getElem? (i := 8) rfl), trivial⟩ (z_rpre (hP.sub (ws' := [((q (b + 3)), .inl (g.2.2.1, 4, .inl (M3.2 2)))]) [3] rfl) hK) rfl rfl hl.1 rfl (lv_room (Nat.le_of_ble_eq_true rfl)) dX2_walkOn_42 ⟨Nat.zero_le _, Nat.zero_le _⟩) ?_
    refine lv_iconst (v := 1) hx hb dX2_walkOn_45 (by decide) ?_
    refine lv_iadd hx hb dX2_walkOn_46 ?_
    refine lv_bipush (v := 9) hx hb dX2_walkOn_47 (by decide) ?_
    refine va_mmin hx hb (hml.trans hl.1.symm) hown (hts (.methodLink RX2 103 Lib.Math.min.name) (List.mem_of_getElem? (i := 4) rfl)) (hts (.static Lib.Math.min.name) (List.mem_of_getElem? (i := 5) rfl)) (hts (.initialized "java/lang/Math") (List.mem_of_getElem? (i := 6) rfl)) (hts (.code Lib.Math.min.name Lib.Math.min.code 2 (some .int)) (List.mem_of_getElem? (i := 7) rfl)) (Nat.le_of_ble_eq_true rfl) (Nat.le_of_ble_eq_true rfl) (Nat.zero_le _) (Nat.zero_le _) dX2_walkOn_49 ?_
    refine z_wgo (wn := OW g q b (sA M3 2 (f6_put 4 (M3.2 2) x1 (if 9 < ((f6_cell 4 (M3.2 2) x1) + 1) then 9 else ((f6_cell 4 (M3.2 2) x1) + 1))))) (va_runSN (As := [.ref (q (b + 3)), .int x1, .int (if 9 < ((f6_cell 4 (M3.2 2) x1) + 1) then 9 else ((f6_cell 4 (M3.2 2) x1) + 1))]) (rest := []) ⟨hx, hb, hml, hown, hts⟩ ((c6_put l g (q (b + 3)) 4 (by decide) (M3.2 2) x1 (if 9 < ((f6_cell 4 (M3.2 2) x1) + 1) then 9 else ((f6_cell 4 (M3.2 2) x1) + 1))) H.size) ⟨va_cnB 3 hts gX2_walkOn_X6_put_n33 rfl rfl rfl (hK.nest 17 rfl) (hts (.initialized RX6) (List.mem_of_getElem? (i := 9) rfl)) (by decide +kernel) ⟨Nat.le_of_ble_eq_true rfl, Nat.le_of_ble_eq_true rfl⟩, hts (.static yX6_put) (List.mem_of_getElem? (i := 11) rfl), trivial⟩ (z_wpre (hP.sub (ws' := [((q (b + 3)), .inl (g.2.2.1, 4, .inl (M3.2 2)))]) [3] rfl) hK (z_any (hD.sub (ws' := [((q (b + 3)), .inl (g.2.2.1, 4, .inl (M3.2 2)))]) [3] (by decide) rfl))) rfl rfl hl.1 rfl (lv_room (Nat.le_of_ble_eq_true rfl)) dX2_walkOn_52 ⟨Nat.zero_le _, Nat.zero_le _⟩) hP hD hS hA [3] rfl (by decide) rfl rfl (fun H locs hP hD hS => ?_)
    show W p l e (headSpec wsX2_walkOn rmX2_walkOn).room s m args below meth c H locs 0 0 (MQ below (zWQ g A (OW g q b M_o) none) args s 0 0 A) (F0 m 55 ls [])
    obtain ⟨M4, eM4⟩ : ∃ y : Mo, y = (sA M3 2 (f6_put 4 (M3.2 2) x1 (if 9 < ((f6_cell 4 (M3.2 2) x1) + 1) then 9 else ((f6_cell 4 (M3.2 2) x1) + 1)))) := ⟨_, rfl⟩
    rw [← eM4] at hP hD
    have hF := bd_eq eM4 hF
    have e9b := zin hF
    exact z_wv hx hb hr hlk hP hD hS (by rw [e9b]) dX2_walkOn_55
  · have hF := zit c1 hF
    have e9b := zin hF
    exact z_wv hx hb hr hlk hP hD hS (by rw [e9b]) dX2_walkOn_6
def f2_comeUp (M : Mo) (N : Mo) (x1 : Int32) : Option (Mo) := bd (α := Int32) (f6_cell 4 (M.2 0) x1) (fun (v1 : Int32) => if (f6_cell 4 (M.2 2) x1) < (f6_cell 4 (N.2 10) x1) then some M else if (f6_has ((N.1 5) &&& ((M.1 7) ^^^ (-1))) v1) = 0 then some M else bd (sI M 5 ((M.1 5) ||| (f6_bit x1))) (fun (M4 : Mo) => bd (sI M4 7 ((M4.1 7) ||| (f6_bit v1))) (fun (M5 : Mo) => some M5)))
abbrev rmX2_comeUp : Room := { frames := 1, cells := 0, slots := 0, locals := 21 }
set_option maxHeartbeats 4000000 in
set_option maxRecDepth 100000 in
theorem c2_comeUp (l : Launch) (g : zG) (q : Nat → Nat) (b : Nat) (r : Nat → Nat) (d : Nat) (M : Mo) (N : Mo) (x1 : Int32) (M_o : Mo) (hF : f2_comeUp M N x1 = some M_o) : zRW l g yX2_comeUp wsX2_comeUp rmX2_comeUp [.ref (q b), .int x1, .ref (r d)] (OW g q b M ++ NW g r d N) none (OW g q b M_o ++ NW g r d N) := by
  refine zRW_of (cc := cX2_comeUp) (maxL := 4) (ret := none) (by decide) rfl (Nat.le_of_ble_eq_true rfl) ?_
  intro p e s m args below meth c A H locs ls hx hb hr hml hts hown hlk hK hA hP hD hS hl
  have hown : s.vm.findClass RX2 = some m.cls := hown
  have hl : lv_has ls 4 [(0, .ref (q b)), (1, .int x1), (2, .ref (r d))] := hl
  have inX2 : ∀ w ∈ wsX20, w ∈ wsX2_comeUp := fun _ h => List.mem_cons_of_mem _ (List.mem_append_left _ (List.mem_append_right _ h))
  have inX3 : ∀ w ∈ wsX30, w ∈ wsX2_comeUp := fun _ h => List.mem_cons_of_mem _ (List.mem_append_right _ h)
  unfold f2_comeUp at hF
  refine lv_aload_n hx hb dX2_comeUp_0 rfl (lv_at hl 0 rfl) ?_
  refine z_get (ci := 2) (v := .ref (q (b + 1))) (C := RX2) (T := TX2) (N := 9) hx hb hts inX2 hown hK hP 0 rfl rfl 0 (by decide) (List.mem_of_getElem? (i := 1) rfl) rfl rfl dX2_comeUp_1 ?_
  refine lv_iload_n hx hb dX2_comeUp_4 rfl (lv_at hl 1 rfl) ?_
  refine z_rgo (va_runSN (As := [.ref (q (b + 1)), .int x1]) (rest := []) ⟨hx, hb, hml, hown, hts⟩ (c6_cell l g (q (b + 1)) 4 (by decide) (M.2 0) x1) ⟨va_cnB 2 hts gX2_comeUp_X6_cell_n29 rfl rfl rfl (hK.nest 16 rfl) (hts (.initialized RX6) (List.mem_of_getElem? (i := 8) rfl)) (by decide +kernel) ⟨Nat.le_of_ble_eq_true rfl, Nat.le_of_ble_eq_true rfl⟩, hts (.static yX6_cell) (List.mem_of_getElem? (i := 7) rfl), trivial⟩ (z_rpre (hP.sub (ws' := [((q (b + 1)), .inl (g.2.2.1, 4, .inl (M.2 0)))]) [1] rfl) hK) rfl rfl hl.1 rfl (lv_room (Nat.le_of_ble_eq_true rfl)) dX2_comeUp_5 ⟨Nat.zero_le _, Nat.zero_le _⟩) ?_
  refine lv_topi (fun v1 ev1 => ?_)
  have hF := bd_eq ev1 hF
  refine lv_istore_n (lv' := [(3, .int v1), (0, .ref (q b)), (1, .int x1), (2, .ref (r d))]) hx hb dX2_comeUp_8 rfl hl (by decide) rfl (fun ls hl => ?_)
  refine lv_aload_n hx hb dX2_comeUp_9 rfl (lv_at hl 1 rfl) ?_
  refine z_get (ci := 2) (v := .ref (q (b + 3))) (C := RX2) (T := TX2) (N := 9) hx hb hts inX2 hown hK hP 0 rfl rfl 2 (by decide) (List.mem_of_getElem? (i := 2) rfl) rfl rfl dX2_comeUp_10 ?_
  refine lv_iload_n hx hb dX2_comeUp_13 rfl (lv_at hl 2 rfl) ?_
  refine z_rgo (va_runSN (As := [.ref (q (b + 3)), .int x1]) (rest := []) ⟨hx, hb, hml, hown, hts⟩ (c6_cell l g (q (b + 3)) 4 (by decide) (M.2 2) x1) ⟨va_cnB 2 hts gX2_comeUp_X6_cell_n29 rfl rfl rfl (hK.nest 16 rfl) (hts (.initialized RX6) (List.mem_of_getElem? (i := 8) rfl)) (by decide +kernel) ⟨Nat.le_of_ble_eq_true rfl, Nat.le_of_ble_eq_true rfl⟩, hts (.static yX6_cell) (List.mem_of_getElem? (i := 7) rfl), trivial⟩ (z_rpre (hP.sub (ws' := [((q (b + 3)), .inl (g.2.2.1, 4, .inl (M.2 2)))]) [3] rfl) hK) rfl rfl hl.1 rfl (lv_room (Nat.le_of_ble_eq_true rfl)) dX2_comeUp_14 ⟨Nat.zero_le _, Nat.zero_le _⟩) ?_
  refine lv_aload_n hx hb dX2_comeUp_17 rfl (lv_at hl 3 rfl) ?_
  refine z_get (ci := 3) (v := .ref (r (d + 5))) (C := RX3) (T := TX3) (N := 13) hx hb hts inX3 hown hK hP 5 rfl rfl 10 (by decide) (List.mem_of_getElem? (i := 3) rfl) rfl rfl dX2_comeUp_18 ?_
  refine lv_iload_n hx hb dX2_comeUp_21 rfl (lv_at hl 2 rfl) ?_
  refine z_rgo (va_runSN (As := [.ref (r (d + 5)), .int x1]) (rest := [.int (f6_cell 4 (M.2 2) x1)]) ⟨hx, hb, hml, hown, hts⟩ (c6_cell l g (r (d + 5)) 4 (by decide) (N.2 10) x1) ⟨va_cnB 2 hts gX2_comeUp_X6_cell_n29 rfl rfl rfl (hK.nest 16 rfl) (hts (.initialized RX6) (List.mem_of_getElem? (i := 8) rfl)) (by decide +kernel) ⟨Nat.le_of_ble_eq_true rfl, Nat.le_of_ble_eq_true rfl⟩, hts (.static yX6_cell) (List.mem_of_getElem? (i := 7) rfl), trivial⟩ (z_rpre (hP.sub (ws' := [((r (d + 5)), .inl (g.2.2.1, 4, .inl (N.2 10)))]) [10] rfl) hK) rfl rfl hl.1 rfl (lv_room (Nat.le_of_ble_eq_true rfl)) dX2_comeUp_22 ⟨Nat.zero_le _, Nat.zero_le _⟩) ?_
  refine lv_icmp_lt (tgt := 46) hx hb dX2_comeUp_25 (by decide) (fun c2 => ?_) (fun c2 => ?_)
  · have hF := zit c2 hF
    have e9b := zin hF
    exact z_wv hx hb hr hlk hP hD hS (by rw [e9b]) dX2_comeUp_46
  · have hF := zif c2 hF
    refine lv_aload_n hx hb dX2_comeUp_28 rfl (lv_at hl 3 rfl) ?_
    refine z_get (ci := 3) (v := .int (N.1 5)) (C := RX3) (T := TX3) (N := 13) hx hb hts inX3 hown hK hP 5 rfl rfl 5 (by decide) (List.mem_of_getElem? (i := 4) rfl) rfl rfl dX2_comeUp_29 ?_
    refine lv_aload_n hx hb dX2_comeUp_32 rfl (lv_at hl 1 rfl) ?_
    refine z_get (ci := 2) (v := .int (M.1 7)) (C := RX2) (T := TX2) (N := 9) hx hb hts inX2 hown hK hP 0 rfl rfl 7 (by decide) (List.mem_of_getElem? (i := 5) rfl) rfl rfl dX2_comeUp_33 ?_
    refine lv_iconst (v := (-1)) hx hb dX2_comeUp_36 (by decide) ?_
    refine lv_ixor hx hb dX2_comeUp_37 ?_
    refine lv_iand hx hb dX2_comeUp_38 ?_
    refine lv_iload_n hx hb dX2_comeUp_39 rfl (lv_at hl 0 rfl) ?_
    refine z_rgo (va_runSN (As := [.int ((N.1 5) &&& ((M.1 7) ^^^ (-1))), .int v1]) (rest := []) ⟨hx, hb, hml, hown, hts⟩ (c6_has l g   ((N.1 5) &&& ((M.1 7) ^^^ (-1))) v1) ⟨va_cnB 2 hts gX2_comeUp_X6_has_n74 rfl rfl rfl (hK.nest 19 rfl) (hts (.initialized RX6) (List.mem_of_getElem? (i := 8) rfl)) (by decide +kernel) ⟨Nat.le_of_ble_eq_true rfl, Nat.le_of_ble_eq_true rfl⟩, hts (.static yX6_has) (List.mem_of_getElem? (i := 10) rfl), trivial⟩ (z_rpre z_nil hK) rfl rfl hl.1 rfl (lv_room (Nat.le_of_ble_eq_true rfl)) dX2_comeUp_40 ⟨Nat.zero_le _, Nat.zero_le _⟩) ?_
    refine lv_if_ne (tgt := 47) hx hb dX2_comeUp_43 (by decide) (fun c3 => ?_) (fun c3 => ?_)
    · have hF := zif c3 hF
      refine lv_aload_n hx hb dX2_comeUp_47 rfl (lv_at hl 1 rfl) ?_
      refine lv_dup hx hb dX2_comeUp_48 rfl ?_
      refine z_get (ci := 2) (v := .int (M.1 5)) (C := RX2) (T := TX2) (N := 9) hx hb hts inX2 hown hK hP 0 rfl rfl 5 (by decide) (List.mem_of_getElem? (i := 6) rfl) rfl rfl dX2_comeUp_49 ?_
      refine lv_iload_n hx hb dX2_comeUp_52 rfl (lv_at hl 2 rfl) ?_
      refine z_rgo (va_runSN (As := [.int x1]) (rest := [.int (M.1 5), .ref (q b)]) ⟨hx, hb, hml, hown, hts⟩ (c6_bit l g   x1) ⟨va_cnB 1 hts gX2_comeUp_X6_bit_n64 rfl rfl rfl (hK.nest 20 rfl) (hts (.initialized RX6) (List.mem_of_getElem? (i := 8) rfl)) (by decide +kernel) ⟨Nat.le_of_ble_eq_true rfl, Nat.le_of_ble_eq_true rfl⟩, hts (.static yX6_bit) (List.mem_of_getElem? (i := 12) rfl), trivial⟩ (z_rpre z_nil hK) rfl rfl hl.1 rfl (lv_room (Nat.le_of_ble_eq_true rfl)) dX2_comeUp_53 ⟨Nat.zero_le _, Nat.zero_le _⟩) ?_
      refine lv_ior hx hb dX2_comeUp_56 ?_
      refine z_put (ci := 2) (v := .int ((M.1 5) ||| (f6_bit x1))) (C := RX2) (T := TX2) (N := 9) (ws' := (OW g q b (sI M 5 ((M.1 5) ||| (f6_bit x1))) ++ NW g r d N)) hx hb hts inX2 tyX2 tyX2_ok nmX2 hown hK hP hD hS 0 rfl rfl 5 (by decide) (List.mem_of_getElem? (i := 6) rfl) rfl rfl rfl rfl (Nat.le_of_ble_eq_true rfl) rfl dX2_comeUp_57 (fun H locs hP hD hS => ?_)
      obtain ⟨M4, eM4⟩ : ∃ y : Mo, y = (sI M 5 ((M.1 5) ||| (f6_bit x1))) := ⟨_, rfl⟩
      rw [← eM4] at hP hD
      have hF := bd_eq eM4 hF
      refine lv_aload_n hx hb dX2_comeUp_60 rfl (lv_at hl 1 rfl) ?_
      refine lv_dup hx hb dX2_comeUp_61 rfl ?_
      refine z_get (ci := 2) (v := .int (M4.1 7)) (C := RX2) (T := TX2) (N := 9) hx hb hts inX2 hown hK hP 0 rfl rfl 7 (by decide) (List.mem_of_getElem? (i := 5) rfl) rfl rfl dX2_comeUp_62 ?_
      refine lv_iload_n hx hb dX2_comeUp_65 rfl (lv_at hl 0 rfl) ?_
      refine z_rgo (va_runSN (As := [.int v1]) (rest := [.int (M4.1 7), .ref (q b)]) ⟨hx, hb, hml, hown, hts⟩ (c6_bit l g   v1) ⟨va_cnB 1 hts gX2_comeUp_X6_bit_n64 rfl rfl rfl (hK.nest 20 rfl) (hts (.initialized RX6) (List.mem_of_getElem? (i := 8) rfl)) (by decide +kernel) ⟨Nat.le_of_ble_eq_true rfl, Nat.le_of_ble_eq_true rfl⟩, hts (.static yX6_bit) (List.mem_of_getElem? (i := 12) rfl), trivial⟩ (z_rpre z_nil hK) rfl rfl hl.1 rfl (lv_room (Nat.le_of_ble_eq_true rfl)) dX2_comeUp_66 ⟨Nat.zero_le _, Nat.zero_le _⟩) ?_
      refine lv_ior hx hb dX2_comeUp_69 ?_
      refine z_put (ci := 2) (v := .int ((M4.1 7) ||| (f6_bit v1))) (C := RX2) (T := TX2) (N := 9) (ws' := (OW g q b (sI M4 7 ((M4.1 7) ||| (f6_bit v1))) ++ NW g r d N)) hx hb hts inX2 tyX2 tyX2_ok nmX2 hown hK hP hD hS 0 rfl rfl 7 (by decide) (List.mem_of_getElem? (i := 5) rfl) rfl rfl rfl rfl (Nat.le_of_ble_eq_true rfl) rfl dX2_comeUp_70 (fun H locs hP hD hS => ?_)
      obtain ⟨M5, eM5⟩ : ∃ y : Mo, y = (sI M4 7 ((M4.1 7) ||| (f6_bit v1))) := ⟨_, rfl⟩
      rw [← eM5] at hP hD
      have hF := bd_eq eM5 hF
      have e9b := zin hF
      exact z_wv hx hb hr hlk hP hD hS (by rw [e9b]) dX2_comeUp_73
    · have hF := zit c3 hF
      have e9b := zin hF
      exact z_wv hx hb hr hlk hP hD hS (by rw [e9b]) dX2_comeUp_46
def f2_advanceBy_l2 (x1 : Int32) (N : Mo) : Nat → Int32 → Mo → Option (Mo)
  | 0, _, _ => none
  | n2 + 1, y1, M2 => if 4 ≤ y1 then bd (sI M2 8 ((M2.1 8) + 1)) (fun (M4 : Mo) => some M4) else if (f6_has ((M2.1 4) &&& ((M2.1 5) ^^^ (-1))) y1) = 0 then f2_advanceBy_l2 x1 N n2 (y1 + 1) M2 else (f2_nextOf M2 N y1 x1).bind fun v6 => (f2_walkOn M2 y1 v6).bind fun M7 => (f2_comeUp M7 N y1).bind fun M8 => f2_advanceBy_l2 x1 N n2 (y1 + 1) M8
def f2_advanceBy (M : Mo) (N : Mo) (x1 : Int32) : Option (Mo) := f2_advanceBy_l2 x1 N FU 0 M
abbrev rmX2_advanceBy : Room := { frames := 3, cells := 0, slots := 0, locals := 74 }
set_option maxHeartbeats 4000000 in
set_option maxRecDepth 100000 in
theorem c2_advanceBy (l : Launch) (g : zG) (q : Nat → Nat) (b : Nat) (r : Nat → Nat) (d : Nat) (M : Mo) (N : Mo) (x1 : Int32) (M_o : Mo) (hF : f2_advanceBy M N x1 = some M_o) : zRW l g yX2_advanceBy wsX2_advanceBy rmX2_advanceBy [.ref (q b), .int x1, .ref (r d)] (OW g q b M ++ NW g r d N) none (OW g q b M_o ++ NW g r d N) := by
  refine zRW_of (cc := cX2_advanceBy) (maxL := 4) (ret := none) (by decide) rfl (Nat.le_of_ble_eq_true rfl) ?_
  intro p e s m args below meth c A H locs ls hx hb hr hml hts hown hlk hK hA hP hD hS hl
  have hown : s.vm.findClass RX2 = some m.cls := hown
  have hl : lv_has ls 4 [(0, .ref (q b)), (1, .int x1), (2, .ref (r d))] := hl
  have inX2 : ∀ w ∈ wsX20, w ∈ wsX2_advanceBy := fun _ h => List.mem_cons_of_mem _ (List.mem_append_left _ (List.mem_append_right _ h))
  unfold f2_advanceBy at hF
  refine lv_iconst (v := 0) hx hb dX2_advanceBy_0 (by decide) ?_
  refine lv_istore_n (lv' := [(3, .int 0), (0, .ref (q b)), (1, .int x1), (2, .ref (r d))]) hx hb dX2_advanceBy_1 rfl hl (by decide) rfl (fun ls hl => ?_)
  have L2 : ∀ (n2 : Nat) (y1 : Int32) (M2 : Mo) (H : Heap) (locs : List Loc) (ls : Array Slot), f2_advanceBy_l2 x1 N n2 y1 M2 = some M_o → va_P (zD g) vwCl (OW g q b M2 ++ NW g r d N) H → va_D A (OW g q b M2 ++ NW g r d N) → va_S A s.heap H locs → lv_has ls 4 [(0, .ref (q b)), (1, .int x1), (2, .ref (r d)), (3, .int y1)] → W p l e (headSpec wsX2_advanceBy rmX2_advanceBy).room s m args below meth c H locs 0 0 (MQ below (zWQ g A (OW g q b M_o ++ NW g r d N) none) args s 0 0 A) (F0 m 2 ls []) := by
    intro n2
    induction n2 with
    | zero =>
      intro y1 M2 H locs ls hF hP hD hS hl
      exact absurd (show (none : Option (Mo)) = some _ from hF) (fun h9 => by cases h9)
    | succ n2 ih2 =>
      intro y1 M2 H locs ls hF hP hD hS hl
      rw [f2_advanceBy_l2] at hF
      refine lv_iload_n hx hb dX2_advanceBy_2 rfl (lv_at hl 3 rfl) ?_
      refine lv_iconst (v := 4) hx hb dX2_advanceBy_3 (by decide) ?_
      refine lv_icmp_ge (tgt := 49) hx hb dX2_advanceBy_4 (by decide) (fun c3 => ?_) (fun c3 => ?_)
      · have hF := zit c3 hF
        refine lv_aload_n hx hb dX2_advanceBy_49 rfl (lv_at hl 0 rfl) ?_
        refine lv_dup hx hb dX2_advanceBy_50 rfl ?_
        refine z_get (ci := 2) (v := .int (M2.1 8)) (C := RX2) (T := TX2) (N := 9) hx hb hts inX2 hown hK hP 0 rfl rfl 8 (by decide) (List.mem_of_getElem? (i := 3) rfl) rfl rfl dX2_advanceBy_51 ?_
        refine lv_iconst (v := 1) hx hb dX2_advanceBy_54 (by decide) ?_
        refine lv_iadd hx hb dX2_advanceBy_55 ?_
        refine z_put (ci := 2) (v := .int ((M2.1 8) + 1)) (C := RX2) (T := TX2) (N := 9) (ws' := (OW g q b (sI M2 8 ((M2.1 8) + 1)) ++ NW g r d N)) hx hb hts inX2 tyX2 tyX2_ok nmX2 hown hK hP hD hS 0 rfl rfl 8 (by decide) (List.mem_of_getElem? (i := 3) rfl) rfl rfl rfl rfl (Nat.le_of_ble_eq_true rfl) rfl dX2_advanceBy_56 (fun H locs hP hD hS => ?_)
        obtain ⟨M4, eM4⟩ : ∃ y : Mo, y = (sI M2 8 ((M2.1 8) + 1)) := ⟨_, rfl⟩
        rw [← eM4] at hP hD
        have hF := bd_eq eM4 hF
        have e9b := zin hF
        exact z_wv hx hb hr hlk hP hD hS (by rw [e9b]) dX2_advanceBy_59
      · have hF := zif c3 hF
        refine lv_aload_n hx hb dX2_advanceBy_7 rfl (lv_at hl 0 rfl) ?_
        refine z_get (ci := 2) (v := .int (M2.1 4)) (C := RX2) (T := TX2) (N := 9) hx hb hts inX2 hown hK hP 0 rfl rfl 4 (by decide) (List.mem_of_getElem? (i := 1) rfl) rfl rfl dX2_advanceBy_8 ?_
        refine lv_aload_n hx hb dX2_advanceBy_11 rfl (lv_at hl 0 rfl) ?_
        refine z_get (ci := 2) (v := .int (M2.1 5)) (C := RX2) (T := TX2) (N := 9) hx hb hts inX2 hown hK hP 0 rfl rfl 5 (by decide) (List.mem_of_getElem? (i := 2) rfl) rfl rfl dX2_advanceBy_12 ?_
        refine lv_iconst (v := (-1)) hx hb dX2_advanceBy_15 (by decide) ?_
        refine lv_ixor hx hb dX2_advanceBy_16 ?_
        refine lv_iand hx hb dX2_advanceBy_17 ?_
        refine lv_iload_n hx hb dX2_advanceBy_18 rfl (lv_at hl 3 rfl) ?_
        refine z_rgo (va_runSN (As := [.int ((M2.1 4) &&& ((M2.1 5) ^^^ (-1))), .int y1]) (rest := []) ⟨hx, hb, hml, hown, hts⟩ (c6_has l g   ((M2.1 4) &&& ((M2.1 5) ^^^ (-1))) y1) ⟨va_cnB 2 hts gX2_advanceBy_X6_has_n74 rfl rfl rfl (hK.nest 19 rfl) (hts (.initialized RX6) (List.mem_of_getElem? (i := 5) rfl)) (by decide +kernel) ⟨Nat.le_of_ble_eq_true rfl, Nat.le_of_ble_eq_true rfl⟩, hts (.static yX6_has) (List.mem_of_getElem? (i := 4) rfl), trivial⟩ (z_rpre z_nil hK) rfl rfl hl.1 rfl (lv_room (Nat.le_of_ble_eq_true rfl)) dX2_advanceBy_19 ⟨Nat.zero_le _, Nat.zero_le _⟩) ?_
        refine lv_if_eq (tgt := 43) hx hb dX2_advanceBy_22 (by decide) (fun c5 => ?_) (fun c5 => ?_)
        · have hF := zit c5 hF
          refine lv_iinc (v := (y1 + 1)) (lv' := [(3, .int (y1 + 1)), (0, .ref (q b)), (1, .int x1), (2, .ref (r d))]) hx hb dX2_advanceBy_43 hl (k := 3) rfl rfl (by decide) rfl (fun ls hl => ?_)
          refine lv_goto (tgt := 2) hx hb dX2_advanceBy_46 (by decide) ?_
          exact ih2 (y1 + 1) M2 H locs ls hF hP hD hS (lv_sub hl [1, 2, 3, 0] rfl)
        · have hF := zif c5 hF
          refine lv_aload_n hx hb dX2_advanceBy_25 rfl (lv_at hl 0 rfl) ?_
          refine lv_iload_n hx hb dX2_advanceBy_26 rfl (lv_at hl 3 rfl) ?_
          refine lv_aload_n hx hb dX2_advanceBy_27 rfl (lv_at hl 0 rfl) ?_
          refine lv_iload_n hx hb dX2_advanceBy_28 rfl (lv_at hl 3 rfl) ?_
          refine lv_aload_n hx hb dX2_advanceBy_29 rfl (lv_at hl 2 rfl) ?_
          refine lv_iload_n hx hb dX2_advanceBy_30 rfl (lv_at hl 1 rfl) ?_
          obtain ⟨v6, hv6, hF⟩ := zob hF
          refine z_rgo (va_runV (As := [.int y1, .ref (r d), .int x1]) (rest := [.int y1, .ref (q b)]) ⟨hx, hb, hml, hown, hts⟩ (c2_nextOf l g q b r d M2 N y1 x1 v6 hv6) (cwV 3 hts gX2_advanceBy_X2_nextOf rfl rfl rfl (by decide +kernel) ⟨Nat.le_of_ble_eq_true rfl, Nat.le_of_ble_eq_true rfl⟩) (z_rpreV (ci := 2) (q := (RX2, TX2, 9)) (q0 := 0) hP hK rfl rfl) rfl rfl hl.1 rfl (lv_room (Nat.le_of_ble_eq_true rfl)) dX2_advanceBy_31 ⟨Nat.zero_le _, Nat.zero_le _⟩) ?_
          obtain ⟨M7, hM7, hF⟩ := zob hF
          refine z_wgo (wn := (OW g q b M7 ++ NW g r d N)) (va_runV (As := [.int y1, .int v6]) (rest := []) ⟨hx, hb, hml, hown, hts⟩ ((c2_walkOn l g q b M2 y1 v6  M7 hM7) H.size) (cwV 2 hts gX2_advanceBy_X2_walkOn rfl rfl rfl (by decide +kernel) ⟨Nat.le_of_ble_eq_true rfl, Nat.le_of_ble_eq_true rfl⟩) (z_wpreV (ci := 2) (q := (RX2, TX2, 9)) (q0 := 0) (hP.sub (ws' := OW g q b M2) [0, 1, 2, 3, 4] rfl) hK (z_any (hD.sub (ws' := OW g q b M2) [0, 1, 2, 3, 4] (by decide) rfl)) rfl rfl) rfl rfl hl.1 rfl (lv_room (Nat.le_of_ble_eq_true rfl)) dX2_advanceBy_34 ⟨Nat.zero_le _, Nat.zero_le _⟩) hP hD hS hA [0, 1, 2, 3, 4] rfl (by decide) rfl rfl (fun H locs hP hD hS => ?_)
          show W p l e (headSpec wsX2_advanceBy rmX2_advanceBy).room s m args below meth c H locs 0 0 (MQ below (zWQ g A (OW g q b M_o ++ NW g r d N) none) args s 0 0 A) (F0 m 37 ls [])
          refine lv_aload_n hx hb dX2_advanceBy_37 rfl (lv_at hl 0 rfl) ?_
          refine lv_iload_n hx hb dX2_advanceBy_38 rfl (lv_at hl 3 rfl) ?_
          refine lv_aload_n hx hb dX2_advanceBy_39 rfl (lv_at hl 2 rfl) ?_
          obtain ⟨M8, hM8, hF⟩ := zob hF
          refine z_wgoW (va_runV (As := [.int y1, .ref (r d)]) (rest := []) ⟨hx, hb, hml, hown, hts⟩ ((c2_comeUp l g q b r d M7 N y1  M8 hM8) H.size) (cwV 2 hts gX2_advanceBy_X2_comeUp rfl rfl rfl (by decide +kernel) ⟨Nat.le_of_ble_eq_true rfl, Nat.le_of_ble_eq_true rfl⟩) (z_wpreV (ci := 2) (q := (RX2, TX2, 9)) (q0 := 0) hP hK (z_any hD) rfl rfl) rfl rfl hl.1 rfl (lv_room (Nat.le_of_ble_eq_true rfl)) dX2_advanceBy_40 ⟨Nat.zero_le _, Nat.zero_le _⟩) hP hD hS hA (fun H locs hP hD hS => ?_)
          show W p l e (headSpec wsX2_advanceBy rmX2_advanceBy).room s m args below meth c H locs 0 0 (MQ below (zWQ g A (OW g q b M_o ++ NW g r d N) none) args s 0 0 A) (F0 m 43 ls [])
          refine lv_iinc (v := (y1 + 1)) (lv' := [(3, .int (y1 + 1)), (0, .ref (q b)), (1, .int x1), (2, .ref (r d))]) hx hb dX2_advanceBy_43 hl (k := 3) rfl rfl (by decide) rfl (fun ls hl => ?_)
          refine lv_goto (tgt := 2) hx hb dX2_advanceBy_46 (by decide) ?_
          exact ih2 (y1 + 1) M8 H locs ls hF hP hD hS (lv_sub hl [1, 2, 3, 0] rfl)
  exact L2 FU 0 M H locs ls hF hP hD hS (lv_sub hl [1, 2, 3, 0] rfl)
def f2_advance (M : Mo) (N : Mo) : Option (Mo) := (f2_advanceBy M N (f3_tide N (M.1 8))).bind fun M1 => some M1
abbrev rmX2_advance : Room := { frames := 4, cells := 0, slots := 0, locals := 97 }
set_option maxHeartbeats 4000000 in
set_option maxRecDepth 100000 in
theorem c2_advance (l : Launch) (g : zG) (q : Nat → Nat) (b : Nat) (r : Nat → Nat) (d : Nat) (M : Mo) (N : Mo) (M_o : Mo) (hF : f2_advance M N = some M_o) : zRW l g yX2_advance wsX2_advance rmX2_advance [.ref (q b), .ref (r d)] (OW g q b M ++ NW g r d N) none (OW g q b M_o ++ NW g r d N) := by
  refine zRW_of (cc := cX2_advance) (maxL := 2) (ret := none) (by decide) rfl (Nat.le_of_ble_eq_true rfl) ?_
  intro p e s m args below meth c A H locs ls hx hb hr hml hts hown hlk hK hA hP hD hS hl
  have hown : s.vm.findClass RX2 = some m.cls := hown
  have hl : lv_has ls 2 [(0, .ref (q b)), (1, .ref (r d))] := hl
  have inX2 : ∀ w ∈ wsX20, w ∈ wsX2_advance := fun _ h => List.mem_cons_of_mem _ (List.mem_append_left _ (List.mem_append_right _ h))
  unfold f2_advance at hF
  refine lv_aload_n hx hb dX2_advance_0 rfl (lv_at hl 0 rfl) ?_
  refine lv_aload_n hx hb dX2_advance_1 rfl (lv_at hl 1 rfl) ?_
  refine lv_aload_n hx hb dX2_advance_2 rfl (lv_at hl 0 rfl) ?_
  refine z_get (ci := 2) (v := .int (M.1 8)) (C := RX2) (T := TX2) (N := 9) hx hb hts inX2 hown hK hP 0 rfl rfl 8 (by decide) (List.mem_of_getElem? (i := 1) rfl) rfl rfl dX2_advance_3 ?_
  refine z_rgo (va_runV (As := [.int (M.1 8)]) (rest := [.ref (q b)]) ⟨hx, hb, hml, hown, hts⟩ (c3_tide l g r d N (M.1 8)) (cwV 1 hts gX2_advance_X3_tide rfl rfl rfl (by decide +kernel) ⟨Nat.le_of_ble_eq_true rfl, Nat.le_of_ble_eq_true rfl⟩) (z_rpreV (ci := 3) (q := (RX3, TX3, 13)) (q0 := 0) (hP.sub (ws' := NW g r d N) [5, 6, 7, 8, 9, 10, 11, 12] rfl) hK rfl rfl) rfl rfl hl.1 rfl (lv_room (Nat.le_of_ble_eq_true rfl)) dX2_advance_6 ⟨Nat.zero_le _, Nat.zero_le _⟩) ?_
  refine lv_aload_n hx hb dX2_advance_9 rfl (lv_at hl 1 rfl) ?_
  obtain ⟨M1, hM1, hF⟩ := zob hF
  refine z_wgoW (va_runV (As := [.int (f3_tide N (M.1 8)), .ref (r d)]) (rest := []) ⟨hx, hb, hml, hown, hts⟩ ((c2_advanceBy l g q b r d M N (f3_tide N (M.1 8))  M1 hM1) H.size) (cwV 2 hts gX2_advance_X2_advanceBy rfl rfl rfl (by decide +kernel) ⟨Nat.le_of_ble_eq_true rfl, Nat.le_of_ble_eq_true rfl⟩) (z_wpreV (ci := 2) (q := (RX2, TX2, 9)) (q0 := 0) hP hK (z_any hD) rfl rfl) rfl rfl hl.1 rfl (lv_room (Nat.le_of_ble_eq_true rfl)) dX2_advance_10 ⟨Nat.zero_le _, Nat.zero_le _⟩) hP hD hS hA (fun H locs hP hD hS => ?_)
  show W p l e (headSpec wsX2_advance rmX2_advance).room s m args below meth c H locs 0 0 (MQ below (zWQ g A (OW g q b M_o ++ NW g r d N) none) args s 0 0 A) (F0 m 13 ls [])
  have e9b := zin hF
  exact z_wv hx hb hr hlk hP hD hS (by rw [e9b]) dX2_advance_13
def f2_advanceTimes_l2 (x1 : Int32) (N : Mo) : Nat → Int32 → Mo → Option (Mo)
  | 0, _, _ => none
  | n2 + 1, y1, M2 => if x1 ≤ y1 then some M2 else (f2_advanceBy M2 N (f3_tide N (M2.1 8))).bind fun M4 => f2_advanceTimes_l2 x1 N n2 (y1 + 1) M4
def f2_advanceTimes (M : Mo) (N : Mo) (x1 : Int32) : Option (Mo) := f2_advanceTimes_l2 x1 N FU 0 M
abbrev rmX2_advanceTimes : Room := { frames := 4, cells := 0, slots := 0, locals := 97 }
set_option maxHeartbeats 4000000 in
set_option maxRecDepth 100000 in
theorem c2_advanceTimes (l : Launch) (g : zG) (q : Nat → Nat) (b : Nat) (r : Nat → Nat) (d : Nat) (M : Mo) (N : Mo) (x1 : Int32) (M_o : Mo) (hF : f2_advanceTimes M N x1 = some M_o) : zRW l g yX2_advanceTimes wsX2_advanceTimes rmX2_advanceTimes [.ref (q b), .int x1, .ref (r d)] (OW g q b M ++ NW g r d N) none (OW g q b M_o ++ NW g r d N) := by
  refine zRW_of (cc := cX2_advanceTimes) (maxL := 4) (ret := none) (by decide) rfl (Nat.le_of_ble_eq_true rfl) ?_
  intro p e s m args below meth c A H locs ls hx hb hr hml hts hown hlk hK hA hP hD hS hl
  have hown : s.vm.findClass RX2 = some m.cls := hown
  have hl : lv_has ls 4 [(0, .ref (q b)), (1, .int x1), (2, .ref (r d))] := hl
  have inX2 : ∀ w ∈ wsX20, w ∈ wsX2_advanceTimes := fun _ h => List.mem_cons_of_mem _ (List.mem_append_left _ (List.mem_append_right _ h))
  unfold f2_advanceTimes at hF
  refine lv_iconst (v := 0) hx hb dX2_advanceTimes_0 (by decide) ?_
  refine lv_istore_n (lv' := [(3, .int 0), (0, .ref (q b)), (1, .int x1), (2, .ref (r d))]) hx hb dX2_advanceTimes_1 rfl hl (by decide) rfl (fun ls hl => ?_)
  have L2 : ∀ (n2 : Nat) (y1 : Int32) (M2 : Mo) (H : Heap) (locs : List Loc) (ls : Array Slot), f2_advanceTimes_l2 x1 N n2 y1 M2 = some M_o → va_P (zD g) vwCl (OW g q b M2 ++ NW g r d N) H → va_D A (OW g q b M2 ++ NW g r d N) → va_S A s.heap H locs → lv_has ls 4 [(0, .ref (q b)), (1, .int x1), (2, .ref (r d)), (3, .int y1)] → W p l e (headSpec wsX2_advanceTimes rmX2_advanceTimes).room s m args below meth c H locs 0 0 (MQ below (zWQ g A (OW g q b M_o ++ NW g r d N) none) args s 0 0 A) (F0 m 2 ls []) := by
    intro n2
    induction n2 with
    | zero =>
      intro y1 M2 H locs ls hF hP hD hS hl
      exact absurd (show (none : Option (Mo)) = some _ from hF) (fun h9 => by cases h9)
    | succ n2 ih2 =>
      intro y1 M2 H locs ls hF hP hD hS hl
      rw [f2_advanceTimes_l2] at hF
      refine lv_iload_n hx hb dX2_advanceTimes_2 rfl (lv_at hl 3 rfl) ?_
      refine lv_iload_n hx hb dX2_advanceTimes_3 rfl (lv_at hl 1 rfl) ?_
      refine lv_icmp_ge (tgt := 26) hx hb dX2_advanceTimes_4 (by decide) (fun c3 => ?_) (fun c3 => ?_)
      · have hF := zit c3 hF
        have e9b := zin hF
        exact z_wv hx hb hr hlk hP hD hS (by rw [e9b]) dX2_advanceTimes_26
      · have hF := zif c3 hF
        refine lv_aload_n hx hb dX2_advanceTimes_7 rfl (lv_at hl 0 rfl) ?_
        refine lv_aload_n hx hb dX2_advanceTimes_8 rfl (lv_at hl 2 rfl) ?_
        refine lv_aload_n hx hb dX2_advanceTimes_9 rfl (lv_at hl 0 rfl) ?_
        refine z_get (ci := 2) (v := .int (M2.1 8)) (C := RX2) (T := TX2) (N := 9) hx hb hts inX2 hown hK hP 0 rfl rfl 8 (by decide) (List.mem_of_getElem? (i := 1) rfl) rfl rfl dX2_advanceTimes_10 ?_
        refine z_rgo (va_runV (As := [.int (M2.1 8)]) (rest := [.ref (q b)]) ⟨hx, hb, hml, hown, hts⟩ (c3_tide l g r d N (M2.1 8)) (cwV 1 hts gX2_advanceTimes_X3_tide rfl rfl rfl (by decide +kernel) ⟨Nat.le_of_ble_eq_true rfl, Nat.le_of_ble_eq_true rfl⟩) (z_rpreV (ci := 3) (q := (RX3, TX3, 13)) (q0 := 0) (hP.sub (ws' := NW g r d N) [5, 6, 7, 8, 9, 10, 11, 12] rfl) hK rfl rfl) rfl rfl hl.1 rfl (lv_room (Nat.le_of_ble_eq_true rfl)) dX2_advanceTimes_13 ⟨Nat.zero_le _, Nat.zero_le _⟩) ?_
        refine lv_aload_n hx hb dX2_advanceTimes_16 rfl (lv_at hl 2 rfl) ?_
        obtain ⟨M4, hM4, hF⟩ := zob hF
        refine z_wgoW (va_runV (As := [.int (f3_tide N (M2.1 8)), .ref (r d)]) (rest := []) ⟨hx, hb, hml, hown, hts⟩ ((c2_advanceBy l g q b r d M2 N (f3_tide N (M2.1 8))  M4 hM4) H.size) (cwV 2 hts gX2_advanceTimes_X2_advanceBy rfl rfl rfl (by decide +kernel) ⟨Nat.le_of_ble_eq_true rfl, Nat.le_of_ble_eq_true rfl⟩) (z_wpreV (ci := 2) (q := (RX2, TX2, 9)) (q0 := 0) hP hK (z_any hD) rfl rfl) rfl rfl hl.1 rfl (lv_room (Nat.le_of_ble_eq_true rfl)) dX2_advanceTimes_17 ⟨Nat.zero_le _, Nat.zero_le _⟩) hP hD hS hA (fun H locs hP hD hS => ?_)
        show W p l e (headSpec wsX2_advanceTimes rmX2_advanceTimes).room s m args below meth c H locs 0 0 (MQ below (zWQ g A (OW g q b M_o ++ NW g r d N) none) args s 0 0 A) (F0 m 20 ls [])
        refine lv_iinc (v := (y1 + 1)) (lv' := [(3, .int (y1 + 1)), (0, .ref (q b)), (1, .int x1), (2, .ref (r d))]) hx hb dX2_advanceTimes_20 hl (k := 3) rfl rfl (by decide) rfl (fun ls hl => ?_)
        refine lv_goto (tgt := 2) hx hb dX2_advanceTimes_23 (by decide) ?_
        exact ih2 (y1 + 1) M4 H locs ls hF hP hD hS (lv_sub hl [1, 2, 3, 0] rfl)
  exact L2 FU 0 M H locs ls hF hP hD hS (lv_sub hl [1, 2, 3, 0] rfl)
def f6_all (x0 : Int32) : Int32 := ((f6_bit x0) - 1)
abbrev rmX6_all : Room := { frames := 1, cells := 0, slots := 0, locals := 20 }
set_option maxHeartbeats 4000000 in
set_option maxRecDepth 100000 in
theorem c6_all (l : Launch) (g : zG)  (x0 : Int32) : zRO l g yX6_all wsX6_all rmX6_all [.int x0] [] (some (.int (f6_all x0))) := by
  obtain ⟨ro, hF⟩ : ∃ y : Int32, f6_all x0 = y := ⟨_, rfl⟩
  rw [hF]
  refine zRO_of (cc := cX6_all) (maxL := 1) (ret := (some .int)) (by decide) rfl (Nat.le_of_ble_eq_true rfl) ?_
  intro p e s m args below meth c ls hx hb hr hml hts hown hlk hK hP hl
  have hown : s.vm.findClass RX6 = some m.cls := hown
  have hl : lv_has ls 1 [(0, .int x0)] := hl
  unfold f6_all at hF
  refine lv_iload_n hx hb dX6_all_0 rfl (lv_at hl 0 rfl) ?_
  refine z_rgo (va_runS (As := [.int x0]) (rest := []) ⟨hx, hb, hml, hown, hts⟩ (c6_bit l g   x0) (va_cwS 1 hts gX6_all_X6_bit rfl rfl rfl (by decide +kernel) ⟨Nat.le_of_ble_eq_true rfl, Nat.le_of_ble_eq_true rfl⟩) (z_rpre hP hK) rfl rfl hl.1 rfl (lv_room (Nat.le_of_ble_eq_true rfl)) dX6_all_1 ⟨Nat.zero_le _, Nat.zero_le _⟩) ?_
  refine lv_iconst (v := 1) hx hb dX6_all_4 (by decide) ?_
  refine lv_isub hx hb dX6_all_5 ?_
  exact z_ri hx hb hr hlk (congrArg (fun z => some (Value.int z)) hF) dX6_all_6
def f2_begin_l2 (N : Mo) : Nat → Int32 → Mo → Option (Mo)
  | 0, _, _ => none
  | n2 + 1, y1, M2 => if 4 ≤ y1 then bd (sI M2 4 (f6_all (N.1 4))) (fun (M4 : Mo) => bd (sI M4 5 0) (fun (M5 : Mo) => bd (sI M5 6 (f6_all (N.1 3))) (fun (M6 : Mo) => bd (sI M6 7 0) (fun (M7 : Mo) => bd (sI M7 8 0) (fun (M8 : Mo) => some M8))))) else bd (sA M2 0 (f6_put 4 (M2.2 0) y1 (f6_cell 4 (N.2 9) y1))) (fun (M9 : Mo) => bd (sA M9 1 (f6_put 4 (M9.2 1) y1 (-9))) (fun (M10 : Mo) => bd (sA M10 2 (f6_put 4 (M10.2 2) y1 0)) (fun (M11 : Mo) => bd (sA M11 3 (f6_put 4 (M11.2 3) y1 (f6_cell 4 (N.2 11) y1))) (fun (M12 : Mo) => f2_begin_l2 N n2 (y1 + 1) M12))))
def f2_begin (M : Mo) (N : Mo) : Option (Mo) := f2_begin_l2 N FU 0 M
abbrev rmX2_begin : Room := { frames := 2, cells := 0, slots := 0, locals := 40 }
set_option maxHeartbeats 4000000 in
set_option maxRecDepth 100000 in
theorem c2_begin (l : Launch) (g : zG) (q : Nat → Nat) (b : Nat) (r : Nat → Nat) (d : Nat) (M : Mo) (N : Mo) (M_o : Mo) (hF : f2_begin M N = some M_o) : zRW l g yX2_begin wsX2_begin rmX2_begin [.ref (q b), .ref (r d)] (OW g q b M ++ NW g r d N) none (OW g q b M_o ++ NW g r d N) := by
  refine zRW_of (cc := cX2_begin) (maxL := 3) (ret := none) (by decide) rfl (Nat.le_of_ble_eq_true rfl) ?_
  intro p e s m args below meth c A H locs ls hx hb hr hml hts hown hlk hK hA hP hD hS hl
  have hown : s.vm.findClass RX2 = some m.cls := hown
  have hl : lv_has ls 3 [(0, .ref (q b)), (1, .ref (r d))] := hl
  have inX2 : ∀ w ∈ wsX20, w ∈ wsX2_begin := fun _ h => List.mem_cons_of_mem _ (List.mem_append_left _ (List.mem_append_right _ h))
  have inX3 : ∀ w ∈ wsX30, w ∈ wsX2_begin := fun _ h => List.mem_cons_of_mem _ (List.mem_append_right _ h)
  unfold f2_begin at hF
  refine lv_iconst (v := 0) hx hb dX2_begin_0 (by decide) ?_
  refine lv_istore_n (lv' := [(2, .int 0), (0, .ref (q b)), (1, .ref (r d))]) hx hb dX2_begin_1 rfl hl (by decide) rfl (fun ls hl => ?_)
  have L2 : ∀ (n2 : Nat) (y1 : Int32) (M2 : Mo) (H : Heap) (locs : List Loc) (ls : Array Slot), f2_begin_l2 N n2 y1 M2 = some M_o → va_P (zD g) vwCl (OW g q b M2 ++ NW g r d N) H → va_D A (OW g q b M2 ++ NW g r d N) → va_S A s.heap H locs → lv_has ls 3 [(0, .ref (q b)), (1, .ref (r d)), (2, .int y1)] → W p l e (headSpec wsX2_begin rmX2_begin).room s m args below meth c H locs 0 0 (MQ below (zWQ g A (OW g q b M_o ++ NW g r d N) none) args s 0 0 A) (F0 m 2 ls []) := by
    intro n2
    induction n2 with
    | zero =>
      intro y1 M2 H locs ls hF hP hD hS hl
      exact absurd (show (none : Option (Mo)) = some _ from hF) (fun h9 => by cases h9)
    | succ n2 ih2 =>
      intro y1 M2 H locs ls hF hP hD hS hl
      rw [f2_begin_l2] at hF
      refine lv_iload_n hx hb dX2_begin_2 rfl (lv_at hl 2 rfl) ?_
      refine lv_iconst (v := 4) hx hb dX2_begin_3 (by decide) ?_
      refine lv_icmp_ge (tgt := 64) hx hb dX2_begin_4 (by decide) (fun c3 => ?_) (fun c3 => ?_)
      · have hF := zit c3 hF
        refine lv_aload_n hx hb dX2_begin_64 rfl (lv_at hl 0 rfl) ?_
        refine lv_aload_n hx hb dX2_begin_65 rfl (lv_at hl 1 rfl) ?_
        refine z_get (ci := 3) (v := .int (N.1 4)) (C := RX3) (T := TX3) (N := 13) hx hb hts inX3 hown hK hP 5 rfl rfl 4 (by decide) (List.mem_of_getElem? (i := 7) rfl) rfl rfl dX2_begin_66 ?_
        refine z_rgo (va_runSN (As := [.int (N.1 4)]) (rest := [.ref (q b)]) ⟨hx, hb, hml, hown, hts⟩ (c6_all l g   (N.1 4)) ⟨va_cnB 1 hts gX2_begin_X6_all_n42 rfl rfl rfl (hK.nest 18 rfl) (hts (.initialized RX6) (List.mem_of_getElem? (i := 15) rfl)) (by decide +kernel) ⟨Nat.le_of_ble_eq_true rfl, Nat.le_of_ble_eq_true rfl⟩, hts (.static yX6_all) (List.mem_of_getElem? (i := 19) rfl), trivial⟩ (z_rpre z_nil hK) rfl rfl hl.1 rfl (lv_room (Nat.le_of_ble_eq_true rfl)) dX2_begin_69 ⟨Nat.zero_le _, Nat.zero_le _⟩) ?_
        refine z_put (ci := 2) (v := .int (f6_all (N.1 4))) (C := RX2) (T := TX2) (N := 9) (ws' := (OW g q b (sI M2 4 (f6_all (N.1 4))) ++ NW g r d N)) hx hb hts inX2 tyX2 tyX2_ok nmX2 hown hK hP hD hS 0 rfl rfl 4 (by decide) (List.mem_of_getElem? (i := 8) rfl) rfl rfl rfl rfl (Nat.le_of_ble_eq_true rfl) rfl dX2_begin_72 (fun H locs hP hD hS => ?_)
        obtain ⟨M4, eM4⟩ : ∃ y : Mo, y = (sI M2 4 (f6_all (N.1 4))) := ⟨_, rfl⟩
        rw [← eM4] at hP hD
        have hF := bd_eq eM4 hF
        refine lv_aload_n hx hb dX2_begin_75 rfl (lv_at hl 0 rfl) ?_
        refine lv_iconst (v := 0) hx hb dX2_begin_76 (by decide) ?_
        refine z_put (ci := 2) (v := .int 0) (C := RX2) (T := TX2) (N := 9) (ws' := (OW g q b (sI M4 5 0) ++ NW g r d N)) hx hb hts inX2 tyX2 tyX2_ok nmX2 hown hK hP hD hS 0 rfl rfl 5 (by decide) (List.mem_of_getElem? (i := 9) rfl) rfl rfl rfl rfl (Nat.le_of_ble_eq_true rfl) rfl dX2_begin_77 (fun H locs hP hD hS => ?_)
        obtain ⟨M5, eM5⟩ : ∃ y : Mo, y = (sI M4 5 0) := ⟨_, rfl⟩
        rw [← eM5] at hP hD
        have hF := bd_eq eM5 hF
        refine lv_aload_n hx hb dX2_begin_80 rfl (lv_at hl 0 rfl) ?_
        refine lv_aload_n hx hb dX2_begin_81 rfl (lv_at hl 1 rfl) ?_
        refine z_get (ci := 3) (v := .int (N.1 3)) (C := RX3) (T := TX3) (N := 13) hx hb hts inX3 hown hK hP 5 rfl rfl 3 (by decide) (List.mem_of_getElem? (i := 10) rfl) rfl rfl dX2_begin_82 ?_
        refine z_rgo (va_runSN (As := [.int (N.1 3)]) (rest := [.ref (q b)]) ⟨hx, hb, hml, hown, hts⟩ (c6_all l g   (N.1 3)) ⟨va_cnB 1 hts gX2_begin_X6_all_n42 rfl rfl rfl (hK.nest 18 rfl) (hts (.initialized RX6) (List.mem_of_getElem? (i := 15) rfl)) (by decide +kernel) ⟨Nat.le_of_ble_eq_true rfl, Nat.le_of_ble_eq_true rfl⟩, hts (.static yX6_all) (List.mem_of_getElem? (i := 19) rfl), trivial⟩ (z_rpre z_nil hK) rfl rfl hl.1 rfl (lv_room (Nat.le_of_ble_eq_true rfl)) dX2_begin_85 ⟨Nat.zero_le _, Nat.zero_le _⟩) ?_
        refine z_put (ci := 2) (v := .int (f6_all (N.1 3))) (C := RX2) (T := TX2) (N := 9) (ws' := (OW g q b (sI M5 6 (f6_all (N.1 3))) ++ NW g r d N)) hx hb hts inX2 tyX2 tyX2_ok nmX2 hown hK hP hD hS 0 rfl rfl 6 (by decide) (List.mem_of_getElem? (i := 11) rfl) rfl rfl rfl rfl (Nat.le_of_ble_eq_true rfl) rfl dX2_begin_88 (fun H locs hP hD hS => ?_)
        obtain ⟨M6, eM6⟩ : ∃ y : Mo, y = (sI M5 6 (f6_all (N.1 3))) := ⟨_, rfl⟩
        rw [← eM6] at hP hD
        have hF := bd_eq eM6 hF
        refine lv_aload_n hx hb dX2_begin_91 rfl (lv_at hl 0 rfl) ?_
        refine lv_iconst (v := 0) hx hb dX2_begin_92 (by decide) ?_
        refine z_put (ci := 2) (v := .int 0) (C := RX2) (T := TX2) (N := 9) (ws' := (OW g q b (sI M6 7 0) ++ NW g r d N)) hx hb hts inX2 tyX2 tyX2_ok nmX2 hown hK hP hD hS 0 rfl rfl 7 (by decide) (List.mem_of_getElem? (i := 12) rfl) rfl rfl rfl rfl (Nat.le_of_ble_eq_true rfl) rfl dX2_begin_93 (fun H locs hP hD hS => ?_)
        obtain ⟨M7, eM7⟩ : ∃ y : Mo, y = (sI M6 7 0) := ⟨_, rfl⟩
        rw [← eM7] at hP hD
        have hF := bd_eq eM7 hF
        refine lv_aload_n hx hb dX2_begin_96 rfl (lv_at hl 0 rfl) ?_
        refine lv_iconst (v := 0) hx hb dX2_begin_97 (by decide) ?_
        refine z_put (ci := 2) (v := .int 0) (C := RX2) (T := TX2) (N := 9) (ws' := (OW g q b (sI M7 8 0) ++ NW g r d N)) hx hb hts inX2 tyX2 tyX2_ok nmX2 hown hK hP hD hS 0 rfl rfl 8 (by decide) (List.mem_of_getElem? (i := 13) rfl) rfl rfl rfl rfl (Nat.le_of_ble_eq_true rfl) rfl dX2_begin_98 (fun H locs hP hD hS => ?_)
        obtain ⟨M8, eM8⟩ : ∃ y : Mo, y = (sI M7 8 0) := ⟨_, rfl⟩
        rw [← eM8] at hP hD
        have hF := bd_eq eM8 hF
        have e9b := zin hF
        exact z_wv hx hb hr hlk hP hD hS (by rw [e9b]) dX2_begin_101
      · have hF := zif c3 hF
        refine lv_aload_n hx hb dX2_begin_7 rfl (lv_at hl 0 rfl) ?_
        refine z_get (ci := 2) (v := .ref (q (b + 1))) (C := RX2) (T := TX2) (N := 9) hx hb hts inX2 hown hK hP 0 rfl rfl 0 (by decide) (List.mem_of_getElem? (i := 1) rfl) rfl rfl dX2_begin_8 ?_
        refine lv_iload_n hx hb dX2_begin_11 rfl (lv_at hl 2 rfl) ?_
        refine lv_aload_n hx hb dX2_begin_12 rfl (lv_at hl 1 rfl) ?_
        refine z_get (ci := 3) (v := .ref (r (d + 4))) (C := RX3) (T := TX3) (N := 13) hx hb hts inX3 hown hK hP 5 rfl rfl 9 (by decide) (List.mem_of_getElem? (i := 2) rfl) rfl rfl dX2_begin_13 ?_
        refine lv_iload_n hx hb dX2_begin_16 rfl (lv_at hl 2 rfl) ?_
        refine z_rgo (va_runSN (As := [.ref (r (d + 4)), .int y1]) (rest := [.int y1, .ref (q (b + 1))]) ⟨hx, hb, hml, hown, hts⟩ (c6_cell l g (r (d + 4)) 4 (by decide) (N.2 9) y1) ⟨va_cnB 2 hts gX2_begin_X6_cell_n29 rfl rfl rfl (hK.nest 16 rfl) (hts (.initialized RX6) (List.mem_of_getElem? (i := 15) rfl)) (by decide +kernel) ⟨Nat.le_of_ble_eq_true rfl, Nat.le_of_ble_eq_true rfl⟩, hts (.static yX6_cell) (List.mem_of_getElem? (i := 14) rfl), trivial⟩ (z_rpre (hP.sub (ws' := [((r (d + 4)), .inl (g.2.2.1, 4, .inl (N.2 9)))]) [9] rfl) hK) rfl rfl hl.1 rfl (lv_room (Nat.le_of_ble_eq_true rfl)) dX2_begin_17 ⟨Nat.zero_le _, Nat.zero_le _⟩) ?_
        refine z_wgo (wn := (OW g q b (sA M2 0 (f6_put 4 (M2.2 0) y1 (f6_cell 4 (N.2 9) y1))) ++ NW g r d N)) (va_runSN (As := [.ref (q (b + 1)), .int y1, .int (f6_cell 4 (N.2 9) y1)]) (rest := []) ⟨hx, hb, hml, hown, hts⟩ ((c6_put l g (q (b + 1)) 4 (by decide) (M2.2 0) y1 (f6_cell 4 (N.2 9) y1)) H.size) ⟨va_cnB 3 hts gX2_begin_X6_put_n33 rfl rfl rfl (hK.nest 17 rfl) (hts (.initialized RX6) (List.mem_of_getElem? (i := 15) rfl)) (by decide +kernel) ⟨Nat.le_of_ble_eq_true rfl, Nat.le_of_ble_eq_true rfl⟩, hts (.static yX6_put) (List.mem_of_getElem? (i := 17) rfl), trivial⟩ (z_wpre (hP.sub (ws' := [((q (b + 1)), .inl (g.2.2.1, 4, .inl (M2.2 0)))]) [1] rfl) hK (z_any (hD.sub (ws' := [((q (b + 1)), .inl (g.2.2.1, 4, .inl (M2.2 0)))]) [1] (by decide) rfl))) rfl rfl hl.1 rfl (lv_room (Nat.le_of_ble_eq_true rfl)) dX2_begin_20 ⟨Nat.zero_le _, Nat.zero_le _⟩) hP hD hS hA [1] rfl (by decide) rfl rfl (fun H locs hP hD hS => ?_)
        show W p l e (headSpec wsX2_begin rmX2_begin).room s m args below meth c H locs 0 0 (MQ below (zWQ g A (OW g q b M_o ++ NW g r d N) none) args s 0 0 A) (F0 m 23 ls [])
        obtain ⟨M9, eM9⟩ : ∃ y : Mo, y = (sA M2 0 (f6_put 4 (M2.2 0) y1 (f6_cell 4 (N.2 9) y1))) := ⟨_, rfl⟩
        rw [← eM9] at hP hD
        have hF := bd_eq eM9 hF
        refine lv_aload_n hx hb dX2_begin_23 rfl (lv_at hl 0 rfl) ?_
        refine z_get (ci := 2) (v := .ref (q (b + 2))) (C := RX2) (T := TX2) (N := 9) hx hb hts inX2 hown hK hP 0 rfl rfl 1 (by decide) (List.mem_of_getElem? (i := 3) rfl) rfl rfl dX2_begin_24 ?_
        refine lv_iload_n hx hb dX2_begin_27 rfl (lv_at hl 2 rfl) ?_
        refine lv_bipush (v := (-9)) hx hb dX2_begin_28 (by decide) ?_
        refine z_wgo (wn := (OW g q b (sA M9 1 (f6_put 4 (M9.2 1) y1 (-9))) ++ NW g r d N)) (va_runSN (As := [.ref (q (b + 2)), .int y1, .int (-9)]) (rest := []) ⟨hx, hb, hml, hown, hts⟩ ((c6_put l g (q (b + 2)) 4 (by decide) (M9.2 1) y1 (-9)) H.size) ⟨va_cnB 3 hts gX2_begin_X6_put_n33 rfl rfl rfl (hK.nest 17 rfl) (hts (.initialized RX6) (List.mem_of_getElem? (i := 15) rfl)) (by decide +kernel) ⟨Nat.le_of_ble_eq_true rfl, Nat.le_of_ble_eq_true rfl⟩, hts (.static yX6_put) (List.mem_of_getElem? (i := 17) rfl), trivial⟩ (z_wpre (hP.sub (ws' := [((q (b + 2)), .inl (g.2.2.1, 4, .inl (M9.2 1)))]) [2] rfl) hK (z_any (hD.sub (ws' := [((q (b + 2)), .inl (g.2.2.1, 4, .inl (M9.2 1)))]) [2] (by decide) rfl))) rfl rfl hl.1 rfl (lv_room (Nat.le_of_ble_eq_true rfl)) dX2_begin_30 ⟨Nat.zero_le _, Nat.zero_le _⟩) hP hD hS hA [2] rfl (by decide) rfl rfl (fun H locs hP hD hS => ?_)
        show W p l e (headSpec wsX2_begin rmX2_begin).room s m args below meth c H locs 0 0 (MQ below (zWQ g A (OW g q b M_o ++ NW g r d N) none) args s 0 0 A) (F0 m 33 ls [])
        obtain ⟨M10, eM10⟩ : ∃ y : Mo, y = (sA M9 1 (f6_put 4 (M9.2 1) y1 (-9))) := ⟨_, rfl⟩
        rw [← eM10] at hP hD
        have hF := bd_eq eM10 hF
        refine lv_aload_n hx hb dX2_begin_33 rfl (lv_at hl 0 rfl) ?_
        refine z_get (ci := 2) (v := .ref (q (b + 3))) (C := RX2) (T := TX2) (N := 9) hx hb hts inX2 hown hK hP 0 rfl rfl 2 (by decide) (List.mem_of_getElem? (i := 4) rfl) rfl rfl dX2_begin_34 ?_
        refine lv_iload_n hx hb dX2_begin_37 rfl (lv_at hl 2 rfl) ?_
        refine lv_iconst (v := 0) hx hb dX2_begin_38 (by decide) ?_
        refine z_wgo (wn := (OW g q b (sA M10 2 (f6_put 4 (M10.2 2) y1 0)) ++ NW g r d N)) (va_runSN (As := [.ref (q (b + 3)), .int y1, .int 0]) (rest := []) ⟨hx, hb, hml, hown, hts⟩ ((c6_put l g (q (b + 3)) 4 (by decide) (M10.2 2) y1 0) H.size) ⟨va_cnB 3 hts gX2_begin_X6_put_n33 rfl rfl rfl (hK.nest 17 rfl) (hts (.initialized RX6) (List.mem_of_getElem? (i := 15) rfl)) (by decide +kernel) ⟨Nat.le_of_ble_eq_true rfl, Nat.le_of_ble_eq_true rfl⟩, hts (.static yX6_put) (List.mem_of_getElem? (i := 17) rfl), trivial⟩ (z_wpre (hP.sub (ws' := [((q (b + 3)), .inl (g.2.2.1, 4, .inl (M10.2 2)))]) [3] rfl) hK (z_any (hD.sub (ws' := [((q (b + 3)), .inl (g.2.2.1, 4, .inl (M10.2 2)))]) [3] (by decide) rfl))) rfl rfl hl.1 rfl (lv_room (Nat.le_of_ble_eq_true rfl)) dX2_begin_39 ⟨Nat.zero_le _, Nat.zero_le _⟩) hP hD hS hA [3] rfl (by decide) rfl rfl (fun H locs hP hD hS => ?_)
        show W p l e (headSpec wsX2_begin rmX2_begin).room s m args below meth c H locs 0 0 (MQ below (zWQ g A (OW g q b M_o ++ NW g r d N) none) args s 0 0 A) (F0 m 42 ls [])
        obtain ⟨M11, eM11⟩ : ∃ y : Mo, y = (sA M10 2 (f6_put 4 (M10.2 2) y1 0)) := ⟨_, rfl⟩
        rw [← eM11] at hP hD
        have hF := bd_eq eM11 hF
        refine lv_aload_n hx hb dX2_begin_42 rfl (lv_at hl 0 rfl) ?_
        refine z_get (ci := 2) (v := .ref (q (b + 4))) (C := RX2) (T := TX2) (N := 9) hx hb hts inX2 hown hK hP 0 rfl rfl 3 (by decide) (List.mem_of_getElem? (i := 5) rfl) rfl rfl dX2_begin_43 ?_
        refine lv_iload_n hx hb dX2_begin_46 rfl (lv_at hl 2 rfl) ?_
        refine lv_aload_n hx hb dX2_begin_47 rfl (lv_at hl 1 rfl) ?_
        refine z_get (ci := 3) (v := .ref (r (d + 6))) (C := RX3) (T := TX3) (N := 13) hx hb hts inX3 hown hK hP 5 rfl rfl 11 (by decide) (List.mem_of_getElem? (i := 6) rfl) rfl rfl dX2_begin_48 ?_
        refine lv_iload_n hx hb dX2_begin_51 rfl (lv_at hl 2 rfl) ?_
        refine z_rgo (va_runSN (As := [.ref (r (d + 6)), .int y1]) (rest := [.int y1, .ref (q (b + 4))]) ⟨hx, hb, hml, hown, hts⟩ (c6_cell l g (r (d + 6)) 4 (by decide) (N.2 11) y1) ⟨va_cnB 2 hts gX2_begin_X6_cell_n29 rfl rfl rfl (hK.nest 16 rfl) (hts (.initialized RX6) (List.mem_of_getElem? (i := 15) rfl)) (by decide +kernel) ⟨Nat.le_of_ble_eq_true rfl, Nat.le_of_ble_eq_true rfl⟩, hts (.static yX6_cell) (List.mem_of_getElem? (i := 14) rfl), trivial⟩ (z_rpre (hP.sub (ws' := [((r (d + 6)), .inl (g.2.2.1, 4, .inl (N.2 11)))]) [11] rfl) hK) rfl rfl hl.1 rfl (lv_room (Nat.le_of_ble_eq_true rfl)) dX2_begin_52 ⟨Nat.zero_le _, Nat.zero_le _⟩) ?_
        refine z_wgo (wn := (OW g q b (sA M11 3 (f6_put 4 (M11.2 3) y1 (f6_cell 4 (N.2 11) y1))) ++ NW g r d N)) (va_runSN (As := [.ref (q (b + 4)), .int y1, .int (f6_cell 4 (N.2 11) y1)]) (rest := []) ⟨hx, hb, hml, hown, hts⟩ ((c6_put l g (q (b + 4)) 4 (by decide) (M11.2 3) y1 (f6_cell 4 (N.2 11) y1)) H.size) ⟨va_cnB 3 hts gX2_begin_X6_put_n33 rfl rfl rfl (hK.nest 17 rfl) (hts (.initialized RX6) (List.mem_of_getElem? (i := 15) rfl)) (by decide +kernel) ⟨Nat.le_of_ble_eq_true rfl, Nat.le_of_ble_eq_true rfl⟩, hts (.static yX6_put) (List.mem_of_getElem? (i := 17) rfl), trivial⟩ (z_wpre (hP.sub (ws' := [((q (b + 4)), .inl (g.2.2.1, 4, .inl (M11.2 3)))]) [4] rfl) hK (z_any (hD.sub (ws' := [((q (b + 4)), .inl (g.2.2.1, 4, .inl (M11.2 3)))]) [4] (by decide) rfl))) rfl rfl hl.1 rfl (lv_room (Nat.le_of_ble_eq_true rfl)) dX2_begin_55 ⟨Nat.zero_le _, Nat.zero_le _⟩) hP hD hS hA [4] rfl (by decide) rfl rfl (fun H locs hP hD hS => ?_)
        show W p l e (headSpec wsX2_begin rmX2_begin).room s m args below meth c H locs 0 0 (MQ below (zWQ g A (OW g q b M_o ++ NW g r d N) none) args s 0 0 A) (F0 m 58 ls [])
        obtain ⟨M12, eM12⟩ : ∃ y : Mo, y = (sA M11 3 (f6_put 4 (M11.2 3) y1 (f6_cell 4 (N.2 11) y1))) := ⟨_, rfl⟩
        rw [← eM12] at hP hD
        have hF := bd_eq eM12 hF
        refine lv_iinc (v := (y1 + 1)) (lv' := [(2, .int (y1 + 1)), (0, .ref (q b)), (1, .ref (r d))]) hx hb dX2_begin_58 hl (k := 2) rfl rfl (by decide) rfl (fun ls hl => ?_)
        refine lv_goto (tgt := 2) hx hb dX2_begin_61 (by decide) ?_
        exact ih2 (y1 + 1) M12 H locs ls hF hP hD hS (lv_sub hl [1, 2, 0] rfl)
  exact L2 FU 0 M H locs ls hF hP hD hS (lv_sub hl [1, 2, 0] rfl)
def f2_callBack (M : Mo) (x1 : Int32) : Option (Mo) := bd (sA M 1 (f6_put 4 (M.2 1) x1 (-9))) (fun (M1 : Mo) => bd (sA M1 2 (f6_put 4 (M1.2 2) x1 0)) (fun (M2 : Mo) => some M2))
abbrev rmX2_callBack : Room := { frames := 1, cells := 0, slots := 0, locals := 22 }
set_option maxHeartbeats 4000000 in
set_option maxRecDepth 100000 in
theorem c2_callBack (l : Launch) (g : zG) (q : Nat → Nat) (b : Nat) (M : Mo) (x1 : Int32) (M_o : Mo) (hF : f2_callBack M x1 = some M_o) : zRW l g yX2_callBack wsX2_callBack rmX2_callBack [.ref (q b), .int x1] (OW g q b M) none (OW g q b M_o) := by
  refine zRW_of (cc := cX2_callBack) (maxL := 2) (ret := none) (by decide) rfl (Nat.le_of_ble_eq_true rfl) ?_
  intro p e s m args below meth c A H locs ls hx hb hr hml hts hown hlk hK hA hP hD hS hl
  have hown : s.vm.findClass RX2 = some m.cls := hown
  have hl : lv_has ls 2 [(0, .ref (q b)), (1, .int x1)] := hl
  have inX2 : ∀ w ∈ wsX20, w ∈ wsX2_callBack := fun _ h => List.mem_cons_of_mem _ (List.mem_append_right _ h)
  unfold f2_callBack at hF
  refine lv_aload_n hx hb dX2_callBack_0 rfl (lv_at hl 0 rfl) ?_
  refine z_get (ci := 2) (v := .ref (q (b + 2))) (C := RX2) (T := TX2) (N := 9) hx hb hts inX2 hown hK hP 0 rfl rfl 1 (by decide) (List.mem_of_getElem? (i := 1) rfl) rfl rfl dX2_callBack_1 ?_
  refine lv_iload_n hx hb dX2_callBack_4 rfl (lv_at hl 1 rfl) ?_
  refine lv_bipush (v := (-9)) hx hb dX2_callBack_5 (by decide) ?_
  refine z_wgo (wn := OW g q b (sA M 1 (f6_put 4 (M.2 1) x1 (-9)))) (va_runSN (As := [.ref (q (b + 2)), .int x1, .int (-9)]) (rest := []) ⟨hx, hb, hml, hown, hts⟩ ((c6_put l g (q (b + 2)) 4 (by decide) (M.2 1) x1 (-9)) H.size) ⟨va_cnB 3 hts gX2_callBack_X6_put_n33 rfl rfl rfl (hK.nest 17 rfl) (hts (.initialized RX6) (List.mem_of_getElem? (i := 4) rfl)) (by decide +kernel) ⟨Nat.le_of_ble_eq_true rfl, Nat.le_of_ble_eq_true rfl⟩, hts (.static yX6_put) (List.mem_of_getElem? (i := 3) rfl), trivial⟩ (z_wpre (hP.sub (ws' := [((q (b + 2)), .inl (g.2.2.1, 4, .inl (M.2 1)))]) [2] rfl) hK (z_any (hD.sub (ws' := [((q (b + 2)), .inl (g.2.2.1, 4, .inl (M.2 1)))]) [2] (by decide) rfl))) rfl rfl hl.1 rfl (lv_room (Nat.le_of_ble_eq_true rfl)) dX2_callBack_7 ⟨Nat.zero_le _, Nat.zero_le _⟩) hP hD hS hA [2] rfl (by decide) rfl rfl (fun H locs hP hD hS => ?_)
  show W p l e (headSpec wsX2_callBack rmX2_callBack).room s m args below meth c H locs 0 0 (MQ below (zWQ g A (OW g q b M_o) none) args s 0 0 A) (F0 m 10 ls [])
  obtain ⟨M1, eM1⟩ : ∃ y : Mo, y = (sA M 1 (f6_put 4 (M.2 1) x1 (-9))) := ⟨_, rfl⟩
  rw [← eM1] at hP hD
  have hF := bd_eq eM1 hF
  refine lv_aload_n hx hb dX2_callBack_10 rfl (lv_at hl 0 rfl) ?_
  refine z_get (ci := 2) (v := .ref (q (b + 3))) (C := RX2) (T := TX2) (N := 9) hx hb hts inX2 hown hK hP 0 rfl rfl 2 (by decide) (List.mem_of_getElem? (i := 2) rfl) rfl rfl dX2_callBack_11 ?_
  refine lv_iload_n hx hb dX2_callBack_14 rfl (lv_at hl 1 rfl) ?_
  refine lv_iconst (v := 0) hx hb dX2_callBack_15 (by decide) ?_
  refine z_wgo (wn := OW g q b (sA M1 2 (f6_put 4 (M1.2 2) x1 0))) (va_runSN (As := [.ref (q (b + 3)), .int x1, .int 0]) (rest := []) ⟨hx, hb, hml, hown, hts⟩ ((c6_put l g (q (b + 3)) 4 (by decide) (M1.2 2) x1 0) H.size) ⟨va_cnB 3 hts gX2_callBack_X6_put_n33 rfl rfl rfl (hK.nest 17 rfl) (hts (.initialized RX6) (List.mem_of_getElem? (i := 4) rfl)) (by decide +kernel) ⟨Nat.le_of_ble_eq_true rfl, Nat.le_of_ble_eq_true rfl⟩, hts (.static yX6_put) (List.mem_of_getElem? (i := 3) rfl), trivial⟩ (z_wpre (hP.sub (ws' := [((q (b + 3)), .inl (g.2.2.1, 4, .inl (M1.2 2)))]) [3] rfl) hK (z_any (hD.sub (ws' := [((q (b + 3)), .inl (g.2.2.1, 4, .inl (M1.2 2)))]) [3] (by decide) rfl))) rfl rfl hl.1 rfl (lv_room (Nat.le_of_ble_eq_true rfl)) dX2_callBack_16 ⟨Nat.zero_le _, Nat.zero_le _⟩) hP hD hS hA [3] rfl (by decide) rfl rfl (fun H locs hP hD hS => ?_)
  show W p l e (headSpec wsX2_callBack rmX2_callBack).room s m args below meth c H locs 0 0 (MQ below (zWQ g A (OW g q b M_o) none) args s 0 0 A) (F0 m 19 ls [])
  obtain ⟨M2, eM2⟩ : ∃ y : Mo, y = (sA M1 2 (f6_put 4 (M1.2 2) x1 0)) := ⟨_, rfl⟩
  rw [← eM2] at hP hD
  have hF := bd_eq eM2 hF
  have e9b := zin hF
  exact z_wv hx hb hr hlk hP hD hS (by rw [e9b]) dX2_callBack_19
def f2_copy_l2 (Mb : Mo) : Nat → Int32 → Mo → Option (Mo)
  | 0, _, _ => none
  | n2 + 1, y1, M2 => if 4 ≤ y1 then bd (sI M2 4 (Mb.1 4)) (fun (M4 : Mo) => bd (sI M4 5 (Mb.1 5)) (fun (M5 : Mo) => bd (sI M5 6 (Mb.1 6)) (fun (M6 : Mo) => bd (sI M6 7 (Mb.1 7)) (fun (M7 : Mo) => bd (sI M7 8 (Mb.1 8)) (fun (M8 : Mo) => some M8))))) else bd (sA M2 0 (f6_put 4 (M2.2 0) y1 (f6_cell 4 (Mb.2 0) y1))) (fun (M9 : Mo) => bd (sA M9 1 (f6_put 4 (M9.2 1) y1 (f6_cell 4 (Mb.2 1) y1))) (fun (M10 : Mo) => bd (sA M10 2 (f6_put 4 (M10.2 2) y1 (f6_cell 4 (Mb.2 2) y1))) (fun (M11 : Mo) => bd (sA M11 3 (f6_put 4 (M11.2 3) y1 (f6_cell 4 (Mb.2 3) y1))) (fun (M12 : Mo) => f2_copy_l2 Mb n2 (y1 + 1) M12))))
def f2_copy (M : Mo) (Mb : Mo) : Option (Mo) := f2_copy_l2 Mb FU 0 M
abbrev rmX2_copy : Room := { frames := 1, cells := 0, slots := 0, locals := 22 }
set_option maxHeartbeats 4000000 in
set_option maxRecDepth 100000 in
theorem c2_copy (l : Launch) (g : zG) (q : Nat → Nat) (b : Nat) (r : Nat → Nat) (d : Nat) (M : Mo) (Mb : Mo) (M_o : Mo) (hF : f2_copy M Mb = some M_o) : zRW l g yX2_copy wsX2_copy rmX2_copy [.ref (q b), .ref (r d)] (OW g q b M ++ OW g r d Mb) none (OW g q b M_o ++ OW g r d Mb) := by
  refine zRW_of (cc := cX2_copy) (maxL := 3) (ret := none) (by decide) rfl (Nat.le_of_ble_eq_true rfl) ?_
  intro p e s m args below meth c A H locs ls hx hb hr hml hts hown hlk hK hA hP hD hS hl
  have hown : s.vm.findClass RX2 = some m.cls := hown
  have hl : lv_has ls 3 [(0, .ref (q b)), (1, .ref (r d))] := hl
  have inX2 : ∀ w ∈ wsX20, w ∈ wsX2_copy := fun _ h => List.mem_cons_of_mem _ (List.mem_append_right _ h)
  unfold f2_copy at hF
  refine lv_iconst (v := 0) hx hb dX2_copy_0 (by decide) ?_
  refine lv_istore_n (lv' := [(2, .int 0), (0, .ref (q b)), (1, .ref (r d))]) hx hb dX2_copy_1 rfl hl (by decide) rfl (fun ls hl => ?_)
  have L2 : ∀ (n2 : Nat) (y1 : Int32) (M2 : Mo) (H : Heap) (locs : List Loc) (ls : Array Slot), f2_copy_l2 Mb n2 y1 M2 = some M_o → va_P (zD g) vwCl (OW g q b M2 ++ OW g r d Mb) H → va_D A (OW g q b M2 ++ OW g r d Mb) → va_S A s.heap H locs → lv_has ls 3 [(0, .ref (q b)), (1, .ref (r d)), (2, .int y1)] → W p l e (headSpec wsX2_copy rmX2_copy).room s m args below meth c H locs 0 0 (MQ below (zWQ g A (OW g q b M_o ++ OW g r d Mb) none) args s 0 0 A) (F0 m 2 ls []) := by
    intro n2
    induction n2 with
    | zero =>
      intro y1 M2 H locs ls hF hP hD hS hl
      exact absurd (show (none : Option (Mo)) = some _ from hF) (fun h9 => by cases h9)
    | succ n2 ih2 =>
      intro y1 M2 H locs ls hF hP hD hS hl
      rw [f2_copy_l2] at hF
      refine lv_iload_n hx hb dX2_copy_2 rfl (lv_at hl 2 rfl) ?_
      refine lv_iconst (v := 4) hx hb dX2_copy_3 (by decide) ?_
      refine lv_icmp_ge (tgt := 77) hx hb dX2_copy_4 (by decide) (fun c3 => ?_) (fun c3 => ?_)
      · have hF := zit c3 hF
        refine lv_aload_n hx hb dX2_copy_77 rfl (lv_at hl 0 rfl) ?_
        refine lv_aload_n hx hb dX2_copy_78 rfl (lv_at hl 1 rfl) ?_
        refine z_get (ci := 2) (v := .int (Mb.1 4)) (C := RX2) (T := TX2) (N := 9) hx hb hts inX2 hown hK hP 5 rfl rfl 4 (by decide) (List.mem_of_getElem? (i := 5) rfl) rfl rfl dX2_copy_79 ?_
        refine z_put (ci := 2) (v := .int (Mb.1 4)) (C := RX2) (T := TX2) (N := 9) (ws' := (OW g q b (sI M2 4 (Mb.1 4)) ++ OW g r d Mb)) hx hb hts inX2 tyX2 tyX2_ok nmX2 hown hK hP hD hS 0 rfl rfl 4 (by decide) (List.mem_of_getElem? (i := 5) rfl) rfl rfl rfl rfl (Nat.le_of_ble_eq_true rfl) rfl dX2_copy_82 (fun H locs hP hD hS => ?_)
        obtain ⟨M4, eM4⟩ : ∃ y : Mo, y = (sI M2 4 (Mb.1 4)) := ⟨_, rfl⟩
        rw [← eM4] at hP hD
        have hF := bd_eq eM4 hF
        refine lv_aload_n hx hb dX2_copy_85 rfl (lv_at hl 0 rfl) ?_
        refine lv_aload_n hx hb dX2_copy_86 rfl (lv_at hl 1 rfl) ?_
        refine z_get (ci := 2) (v := .int (Mb.1 5)) (C := RX2) (T := TX2) (N := 9) hx hb hts inX2 hown hK hP 5 rfl rfl 5 (by decide) (List.mem_of_getElem? (i := 6) rfl) rfl rfl dX2_copy_87 ?_
        refine z_put (ci := 2) (v := .int (Mb.1 5)) (C := RX2) (T := TX2) (N := 9) (ws' := (OW g q b (sI M4 5 (Mb.1 5)) ++ OW g r d Mb)) hx hb hts inX2 tyX2 tyX2_ok nmX2 hown hK hP hD hS 0 rfl rfl 5 (by decide) (List.mem_of_getElem? (i := 6) rfl) rfl rfl rfl rfl (Nat.le_of_ble_eq_true rfl) rfl dX2_copy_90 (fun H locs hP hD hS => ?_)
        obtain ⟨M5, eM5⟩ : ∃ y : Mo, y = (sI M4 5 (Mb.1 5)) := ⟨_, rfl⟩
        rw [← eM5] at hP hD
        have hF := bd_eq eM5 hF
        refine lv_aload_n hx hb dX2_copy_93 rfl (lv_at hl 0 rfl) ?_
        refine lv_aload_n hx hb dX2_copy_94 rfl (lv_at hl 1 rfl) ?_
        refine z_get (ci := 2) (v := .int (Mb.1 6)) (C := RX2) (T := TX2) (N := 9) hx hb hts inX2 hown hK hP 5 rfl rfl 6 (by decide) (List.mem_of_getElem? (i := 7) rfl) rfl rfl dX2_copy_95 ?_
        refine z_put (ci := 2) (v := .int (Mb.1 6)) (C := RX2) (T := TX2) (N := 9) (ws' := (OW g q b (sI M5 6 (Mb.1 6)) ++ OW g r d Mb)) hx hb hts inX2 tyX2 tyX2_ok nmX2 hown hK hP hD hS 0 rfl rfl 6 (by decide) (List.mem_of_getElem? (i := 7) rfl) rfl rfl rfl rfl (Nat.le_of_ble_eq_true rfl) rfl dX2_copy_98 (fun H locs hP hD hS => ?_)
        obtain ⟨M6, eM6⟩ : ∃ y : Mo, y = (sI M5 6 (Mb.1 6)) := ⟨_, rfl⟩
        rw [← eM6] at hP hD
        have hF := bd_eq eM6 hF
        refine lv_aload_n hx hb dX2_copy_101 rfl (lv_at hl 0 rfl) ?_
        refine lv_aload_n hx hb dX2_copy_102 rfl (lv_at hl 1 rfl) ?_
        refine z_get (ci := 2) (v := .int (Mb.1 7)) (C := RX2) (T := TX2) (N := 9) hx hb hts inX2 hown hK hP 5 rfl rfl 7 (by decide) (List.mem_of_getElem? (i := 8) rfl) rfl rfl dX2_copy_103 ?_
        refine z_put (ci := 2) (v := .int (Mb.1 7)) (C := RX2) (T := TX2) (N := 9) (ws' := (OW g q b (sI M6 7 (Mb.1 7)) ++ OW g r d Mb)) hx hb hts inX2 tyX2 tyX2_ok nmX2 hown hK hP hD hS 0 rfl rfl 7 (by decide) (List.mem_of_getElem? (i := 8) rfl) rfl rfl rfl rfl (Nat.le_of_ble_eq_true rfl) rfl dX2_copy_106 (fun H locs hP hD hS => ?_)
        obtain ⟨M7, eM7⟩ : ∃ y : Mo, y = (sI M6 7 (Mb.1 7)) := ⟨_, rfl⟩
        rw [← eM7] at hP hD
        have hF := bd_eq eM7 hF
        refine lv_aload_n hx hb dX2_copy_109 rfl (lv_at hl 0 rfl) ?_
        refine lv_aload_n hx hb dX2_copy_110 rfl (lv_at hl 1 rfl) ?_
        refine z_get (ci := 2) (v := .int (Mb.1 8)) (C := RX2) (T := TX2) (N := 9) hx hb hts inX2 hown hK hP 5 rfl rfl 8 (by decide) (List.mem_of_getElem? (i := 9) rfl) rfl rfl dX2_copy_111 ?_
        refine z_put (ci := 2) (v := .int (Mb.1 8)) (C := RX2) (T := TX2) (N := 9) (ws' := (OW g q b (sI M7 8 (Mb.1 8)) ++ OW g r d Mb)) hx hb hts inX2 tyX2 tyX2_ok nmX2 hown hK hP hD hS 0 rfl rfl 8 (by decide) (List.mem_of_getElem? (i := 9) rfl) rfl rfl rfl rfl (Nat.le_of_ble_eq_true rfl) rfl dX2_copy_114 (fun H locs hP hD hS => ?_)
        obtain ⟨M8, eM8⟩ : ∃ y : Mo, y = (sI M7 8 (Mb.1 8)) := ⟨_, rfl⟩
        rw [← eM8] at hP hD
        have hF := bd_eq eM8 hF
        have e9b := zin hF
        exact z_wv hx hb hr hlk hP hD hS (by rw [e9b]) dX2_copy_117
      · have hF := zif c3 hF
        refine lv_aload_n hx hb dX2_copy_7 rfl (lv_at hl 0 rfl) ?_
        refine z_get (ci := 2) (v := .ref (q (b + 1))) (C := RX2) (T := TX2) (N := 9) hx hb hts inX2 hown hK hP 0 rfl rfl 0 (by decide) (List.mem_of_getElem? (i := 1) rfl) rfl rfl dX2_copy_8 ?_
        refine lv_iload_n hx hb dX2_copy_11 rfl (lv_at hl 2 rfl) ?_
        refine lv_aload_n hx hb dX2_copy_12 rfl (lv_at hl 1 rfl) ?_
        refine z_get (ci := 2) (v := .ref (r (d + 1))) (C := RX2) (T := TX2) (N := 9) hx hb hts inX2 hown hK hP 5 rfl rfl 0 (by decide) (List.mem_of_getElem? (i := 1) rfl) rfl rfl dX2_copy_13 ?_
        refine lv_iload_n hx hb dX2_copy_16 rfl (lv_at hl 2 rfl) ?_
        refine z_rgo (va_runSN (As := [.ref (r (d + 1)), .int y1]) (rest := [.int y1, .ref (q (b + 1))]) ⟨hx, hb, hml, hown, hts⟩ (c6_cell l g (r (d + 1)) 4 (by decide) (Mb.2 0) y1) ⟨va_cnB 2 hts gX2_copy_X6_cell_n29 rfl rfl rfl (hK.nest 16 rfl) (hts (.initialized RX6) (List.mem_of_getElem? (i := 11) rfl)) (by decide +kernel) ⟨Nat.le_of_ble_eq_true rfl, Nat.le_of_ble_eq_true rfl⟩, hts (.static yX6_cell) (List.mem_of_getElem? (i := 10) rfl), trivial⟩ (z_rpre (hP.sub (ws' := [((r (d + 1)), .inl (g.2.2.1, 4, .inl (Mb.2 0)))]) [6] rfl) hK) rfl rfl hl.1 rfl (lv_room (Nat.le_of_ble_eq_true rfl)) dX2_copy_17 ⟨Nat.zero_le _, Nat.zero_le _⟩) ?_
        refine z_wgo (wn := (OW g q b (sA M2 0 (f6_put 4 (M2.2 0) y1 (f6_cell 4 (Mb.2 0) y1))) ++ OW g r d Mb)) (va_runSN (As := [.ref (q (b + 1)), .int y1, .int (f6_cell 4 (Mb.2 0) y1)]) (rest := []) ⟨hx, hb, hml, hown, hts⟩ ((c6_put l g (q (b + 1)) 4 (by decide) (M2.2 0) y1 (f6_cell 4 (Mb.2 0) y1)) H.size) ⟨va_cnB 3 hts gX2_copy_X6_put_n33 rfl rfl rfl (hK.nest 17 rfl) (hts (.initialized RX6) (List.mem_of_getElem? (i := 11) rfl)) (by decide +kernel) ⟨Nat.le_of_ble_eq_true rfl, Nat.le_of_ble_eq_true rfl⟩, hts (.static yX6_put) (List.mem_of_getElem? (i := 13) rfl), trivial⟩ (z_wpre (hP.sub (ws' := [((q (b + 1)), .inl (g.2.2.1, 4, .inl (M2.2 0)))]) [1] rfl) hK (z_any (hD.sub (ws' := [((q (b + 1)), .inl (g.2.2.1, 4, .inl (M2.2 0)))]) [1] (by decide) rfl))) rfl rfl hl.1 rfl (lv_room (Nat.le_of_ble_eq_true rfl)) dX2_copy_20 ⟨Nat.zero_le _, Nat.zero_le _⟩) hP hD hS hA [1] rfl (by decide) rfl rfl (fun H locs hP hD hS => ?_)
        show W p l e (headSpec wsX2_copy rmX2_copy).room s m args below meth c H locs 0 0 (MQ below (zWQ g A (OW g q b M_o ++ OW g r d Mb) none) args s 0 0 A) (F0 m 23 ls [])
        obtain ⟨M9, eM9⟩ : ∃ y : Mo, y = (sA M2 0 (f6_put 4 (M2.2 0) y1 (f6_cell 4 (Mb.2 0) y1))) := ⟨_, rfl⟩
        rw [← eM9] at hP hD
        have hF := bd_eq eM9 hF
        refine lv_aload_n hx hb dX2_copy_23 rfl (lv_at hl 0 rfl) ?_
        refine z_get (ci := 2) (v := .ref (q (b + 2))) (C := RX2) (T := TX2) (N := 9) hx hb hts inX2 hown hK hP 0 rfl rfl 1 (by decide) (List.mem_of_getElem? (i := 2) rfl) rfl rfl dX2_copy_24 ?_
        refine lv_iload_n hx hb dX2_copy_27 rfl (lv_at hl 2 rfl) ?_
        refine lv_aload_n hx hb dX2_copy_28 rfl (lv_at hl 1 rfl) ?_
        refine z_get (ci := 2) (v := .ref (r (d + 2))) (C := RX2) (T := TX2) (N := 9) hx hb hts inX2 hown hK hP 5 rfl rfl 1 (by decide) (List.mem_of_getElem? (i := 2) rfl) rfl rfl dX2_copy_29 ?_
        refine lv_iload_n hx hb dX2_copy_32 rfl (lv_at hl 2 rfl) ?_
        refine z_rgo (va_runSN (As := [.ref (r (d + 2)), .int y1]) (rest := [.int y1, .ref (q (b + 2))]) ⟨hx, hb, hml, hown, hts⟩ (c6_cell l g (r (d + 2)) 4 (by decide) (Mb.2 1) y1) ⟨va_cnB 2 hts gX2_copy_X6_cell_n29 rfl rfl rfl (hK.nest 16 rfl) (hts (.initialized RX6) (List.mem_of_getElem? (i := 11) rfl)) (by decide +kernel) ⟨Nat.le_of_ble_eq_true rfl, Nat.le_of_ble_eq_true rfl⟩, hts (.static yX6_cell) (List.mem_of_getElem? (i := 10) rfl), trivial⟩ (z_rpre (hP.sub (ws' := [((r (d + 2)), .inl (g.2.2.1, 4, .inl (Mb.2 1)))]) [7] rfl) hK) rfl rfl hl.1 rfl (lv_room (Nat.le_of_ble_eq_true rfl)) dX2_copy_33 ⟨Nat.zero_le _, Nat.zero_le _⟩) ?_
        refine z_wgo (wn := (OW g q b (sA M9 1 (f6_put 4 (M9.2 1) y1 (f6_cell 4 (Mb.2 1) y1))) ++ OW g r d Mb)) (va_runSN (As := [.ref (q (b + 2)), .int y1, .int (f6_cell 4 (Mb.2 1) y1)]) (rest := []) ⟨hx, hb, hml, hown, hts⟩ ((c6_put l g (q (b + 2)) 4 (by decide) (M9.2 1) y1 (f6_cell 4 (Mb.2 1) y1)) H.size) ⟨va_cnB 3 hts gX2_copy_X6_put_n33 rfl rfl rfl (hK.nest 17 rfl) (hts (.initialized RX6) (List.mem_of_getElem? (i := 11) rfl)) (by decide +kernel) ⟨Nat.le_of_ble_eq_true rfl, Nat.le_of_ble_eq_true rfl⟩, hts (.static yX6_put) (List.mem_of_getElem? (i := 13) rfl), trivial⟩ (z_wpre (hP.sub (ws' := [((q (b + 2)), .inl (g.2.2.1, 4, .inl (M9.2 1)))]) [2] rfl) hK (z_any (hD.sub (ws' := [((q (b + 2)), .inl (g.2.2.1, 4, .inl (M9.2 1)))]) [2] (by decide) rfl))) rfl rfl hl.1 rfl (lv_room (Nat.le_of_ble_eq_true rfl)) dX2_copy_36 ⟨Nat.zero_le _, Nat.zero_le _⟩) hP hD hS hA [2] rfl (by decide) rfl rfl (fun H locs hP hD hS => ?_)
        show W p l e (headSpec wsX2_copy rmX2_copy).room s m args below meth c H locs 0 0 (MQ below (zWQ g A (OW g q b M_o ++ OW g r d Mb) none) args s 0 0 A) (F0 m 39 ls [])
        obtain ⟨M10, eM10⟩ : ∃ y : Mo, y = (sA M9 1 (f6_put 4 (M9.2 1) y1 (f6_cell 4 (Mb.2 1) y1))) := ⟨_, rfl⟩
        rw [← eM10] at hP hD
        have hF := bd_eq eM10 hF
        refine lv_aload_n hx hb dX2_copy_39 rfl (lv_at hl 0 rfl) ?_
        refine z_get (ci := 2) (v := .ref (q (b + 3))) (C := RX2) (T := TX2) (N := 9) hx hb hts inX2 hown hK hP 0 rfl rfl 2 (by decide) (List.mem_of_getElem? (i := 3) rfl) rfl rfl dX2_copy_40 ?_
        refine lv_iload_n hx hb dX2_copy_43 rfl (lv_at hl 2 rfl) ?_
        refine lv_aload_n hx hb dX2_copy_44 rfl (lv_at hl 1 rfl) ?_
        refine z_get (ci := 2) (v := .ref (r (d + 3))) (C := RX2) (T := TX2) (N := 9) hx hb hts inX2 hown hK hP 5 rfl rfl 2 (by decide) (List.mem_of_getElem? (i := 3) rfl) rfl rfl dX2_copy_45 ?_
        refine lv_iload_n hx hb dX2_copy_48 rfl (lv_at hl 2 rfl) ?_
        refine z_rgo (va_runSN (As := [.ref (r (d + 3)), .int y1]) (rest := [.int y1, .ref (q (b + 3))]) ⟨hx, hb, hml, hown, hts⟩ (c6_cell l g (r (d + 3)) 4 (by decide) (Mb.2 2) y1) ⟨va_cnB 2 hts gX2_copy_X6_cell_n29 rfl rfl rfl (hK.nest 16 rfl) (hts (.initialized RX6) (List.mem_of_getElem? (i := 11) rfl)) (by decide +kernel) ⟨Nat.le_of_ble_eq_true rfl, Nat.le_of_ble_eq_true rfl⟩, hts (.static yX6_cell) (List.mem_of_getElem? (i := 10) rfl), trivial⟩ (z_rpre (hP.sub (ws' := [((r (d + 3)), .inl (g.2.2.1, 4, .inl (Mb.2 2)))]) [8] rfl) hK) rfl rfl hl.1 rfl (lv_room (Nat.le_of_ble_eq_true rfl)) dX2_copy_49 ⟨Nat.zero_le _, Nat.zero_le _⟩) ?_
        refine z_wgo (wn := (OW g q b (sA M10 2 (f6_put 4 (M10.2 2) y1 (f6_cell 4 (Mb.2 2) y1))) ++ OW g r d Mb)) (va_runSN (As := [.ref (q (b + 3)), .int y1, .int (f6_cell 4 (Mb.2 2) y1)]) (rest := []) ⟨hx, hb, hml, hown, hts⟩ ((c6_put l g (q (b + 3)) 4 (by decide) (M10.2 2) y1 (f6_cell 4 (Mb.2 2) y1)) H.size) ⟨va_cnB 3 hts gX2_copy_X6_put_n33 rfl rfl rfl (hK.nest 17 rfl) (hts (.initialized RX6) (List.mem_of_getElem? (i := 11) rfl)) (by decide +kernel) ⟨Nat.le_of_ble_eq_true rfl, Nat.le_of_ble_eq_true rfl⟩, hts (.static yX6_put) (List.mem_of_getElem? (i := 13) rfl), trivial⟩ (z_wpre (hP.sub (ws' := [((q (b + 3)), .inl (g.2.2.1, 4, .inl (M10.2 2)))]) [3] rfl) hK (z_any (hD.sub (ws' := [((q (b + 3)), .inl (g.2.2.1, 4, .inl (M10.2 2)))]) [3] (by decide) rfl))) rfl rfl hl.1 rfl (lv_room (Nat.le_of_ble_eq_true rfl)) dX2_copy_52 ⟨Nat.zero_le _, Nat.zero_le _⟩) hP hD hS hA [3] rfl (by decide) rfl rfl (fun H locs hP hD hS => ?_)
        show W p l e (headSpec wsX2_copy rmX2_copy).room s m args below meth c H locs 0 0 (MQ below (zWQ g A (OW g q b M_o ++ OW g r d Mb) none) args s 0 0 A) (F0 m 55 ls [])
        obtain ⟨M11, eM11⟩ : ∃ y : Mo, y = (sA M10 2 (f6_put 4 (M10.2 2) y1 (f6_cell 4 (Mb.2 2) y1))) := ⟨_, rfl⟩
        rw [← eM11] at hP hD
        have hF := bd_eq eM11 hF
        refine lv_aload_n hx hb dX2_copy_55 rfl (lv_at hl 0 rfl) ?_
        refine z_get (ci := 2) (v := .ref (q (b + 4))) (C := RX2) (T := TX2) (N := 9) hx hb hts inX2 hown hK hP 0 rfl rfl 3 (by decide) (List.mem_of_getElem? (i := 4) rfl) rfl rfl dX2_copy_56 ?_
        refine lv_iload_n hx hb dX2_copy_59 rfl (lv_at hl 2 rfl) ?_
        refine lv_aload_n hx hb dX2_copy_60 rfl (lv_at hl 1 rfl) ?_
        refine z_get (ci := 2) (v := .ref (r (d + 4))) (C := RX2) (T := TX2) (N := 9) hx hb hts inX2 hown hK hP 5 rfl rfl 3 (by decide) (List.mem_of_getElem? (i := 4) rfl) rfl rfl dX2_copy_61 ?_
        refine lv_iload_n hx hb dX2_copy_64 rfl (lv_at hl 2 rfl) ?_
        refine z_rgo (va_runSN (As := [.ref (r (d + 4)), .int y1]) (rest := [.int y1, .ref (q (b + 4))]) ⟨hx, hb, hml, hown, hts⟩ (c6_cell l g (r (d + 4)) 4 (by decide) (Mb.2 3) y1) ⟨va_cnB 2 hts gX2_copy_X6_cell_n29 rfl rfl rfl (hK.nest 16 rfl) (hts (.initialized RX6) (List.mem_of_getElem? (i := 11) rfl)) (by decide +kernel) ⟨Nat.le_of_ble_eq_true rfl, Nat.le_of_ble_eq_true rfl⟩, hts (.static yX6_cell) (List.mem_of_getElem? (i := 10) rfl), trivial⟩ (z_rpre (hP.sub (ws' := [((r (d + 4)), .inl (g.2.2.1, 4, .inl (Mb.2 3)))]) [9] rfl) hK) rfl rfl hl.1 rfl (lv_room (Nat.le_of_ble_eq_true rfl)) dX2_copy_65 ⟨Nat.zero_le _, Nat.zero_le _⟩) ?_
        refine z_wgo (wn := (OW g q b (sA M11 3 (f6_put 4 (M11.2 3) y1 (f6_cell 4 (Mb.2 3) y1))) ++ OW g r d Mb)) (va_runSN (As := [.ref (q (b + 4)), .int y1, .int (f6_cell 4 (Mb.2 3) y1)]) (rest := []) ⟨hx, hb, hml, hown, hts⟩ ((c6_put l g (q (b + 4)) 4 (by decide) (M11.2 3) y1 (f6_cell 4 (Mb.2 3) y1)) H.size) ⟨va_cnB 3 hts gX2_copy_X6_put_n33 rfl rfl rfl (hK.nest 17 rfl) (hts (.initialized RX6) (List.mem_of_getElem? (i := 11) rfl)) (by decide +kernel) ⟨Nat.le_of_ble_eq_true rfl, Nat.le_of_ble_eq_true rfl⟩, hts (.static yX6_put) (List.mem_of_getElem? (i := 13) rfl), trivial⟩ (z_wpre (hP.sub (ws' := [((q (b + 4)), .inl (g.2.2.1, 4, .inl (M11.2 3)))]) [4] rfl) hK (z_any (hD.sub (ws' := [((q (b + 4)), .inl (g.2.2.1, 4, .inl (M11.2 3)))]) [4] (by decide) rfl))) rfl rfl hl.1 rfl (lv_room (Nat.le_of_ble_eq_true rfl)) dX2_copy_68 ⟨Nat.zero_le _, Nat.zero_le _⟩) hP hD hS hA [4] rfl (by decide) rfl rfl (fun H locs hP hD hS => ?_)
        show W p l e (headSpec wsX2_copy rmX2_copy).room s m args below meth c H locs 0 0 (MQ below (zWQ g A (OW g q b M_o ++ OW g r d Mb) none) args s 0 0 A) (F0 m 71 ls [])
        obtain ⟨M12, eM12⟩ : ∃ y : Mo, y = (sA M11 3 (f6_put 4 (M11.2 3) y1 (f6_cell 4 (Mb.2 3) y1))) := ⟨_, rfl⟩
        rw [← eM12] at hP hD
        have hF := bd_eq eM12 hF
        refine lv_iinc (v := (y1 + 1)) (lv' := [(2, .int (y1 + 1)), (0, .ref (q b)), (1, .ref (r d))]) hx hb dX2_copy_71 hl (k := 2) rfl rfl (by decide) rfl (fun ls hl => ?_)
        refine lv_goto (tgt := 2) hx hb dX2_copy_74 (by decide) ?_
        exact ih2 (y1 + 1) M12 H locs ls hF hP hD hS (lv_sub hl [1, 2, 0] rfl)
  exact L2 FU 0 M H locs ls hF hP hD hS (lv_sub hl [1, 2, 0] rfl)
def f2_goUntilOut_l2 (x1 : Int32) (N : Mo) : Nat → Int32 → Mo → Option (Int32 × Mo)
  | 0, _, _ => none
  | n2 + 1, y1, M2 => if 40 ≤ y1 then if (f6_has (M2.1 5) x1) = 0 then some ((-9), M2) else some (40, M2) else if (f6_has (M2.1 5) x1) = 0 then (f2_advanceBy M2 N (f3_tide N (M2.1 8))).bind fun M6 => f2_goUntilOut_l2 x1 N n2 (y1 + 1) M6 else some (y1, M2)
def f2_goUntilOut (M : Mo) (N : Mo) (x1 : Int32) : Option (Int32 × Mo) := f2_goUntilOut_l2 x1 N FU 0 M
abbrev rmX2_goUntilOut : Room := { frames := 4, cells := 0, slots := 0, locals := 97 }
set_option maxHeartbeats 4000000 in
set_option maxRecDepth 100000 in
theorem c2_goUntilOut (l : Launch) (g : zG) (q : Nat → Nat) (b : Nat) (r : Nat → Nat) (d : Nat) (M : Mo) (N : Mo) (x1 : Int32) (ro : Int32) (M_o : Mo) (hF : f2_goUntilOut M N x1 = some (ro, M_o)) : zRW l g yX2_goUntilOut wsX2_goUntilOut rmX2_goUntilOut [.ref (q b), .int x1, .ref (r d)] (OW g q b M ++ NW g r d N) (some (.int ro)) (OW g q b M_o ++ NW g r d N) := by
  refine zRW_of (cc := cX2_goUntilOut) (maxL := 4) (ret := (some .int)) (by decide) rfl (Nat.le_of_ble_eq_true rfl) ?_
  intro p e s m args below meth c A H locs ls hx hb hr hml hts hown hlk hK hA hP hD hS hl
  have hown : s.vm.findClass RX2 = some m.cls := hown
  have hl : lv_has ls 4 [(0, .ref (q b)), (1, .int x1), (2, .ref (r d))] := hl
  have inX2 : ∀ w ∈ wsX20, w ∈ wsX2_goUntilOut := fun _ h => List.mem_cons_of_mem _ (List.mem_append_left _ (List.mem_append_right _ h))
  unfold f2_goUntilOut at hF
  refine lv_iconst (v := 0) hx hb dX2_goUntilOut_0 (by decide) ?_
  refine lv_istore_n (lv' := [(3, .int 0), (0, .ref (q b)), (1, .int x1), (2, .ref (r d))]) hx hb dX2_goUntilOut_1 rfl hl (by decide) rfl (fun ls hl => ?_)
  have L2 : ∀ (n2 : Nat) (y1 : Int32) (M2 : Mo) (H : Heap) (locs : List Loc) (ls : Array Slot), f2_goUntilOut_l2 x1 N n2 y1 M2 = some (ro, M_o) → va_P (zD g) vwCl (OW g q b M2 ++ NW g r d N) H → va_D A (OW g q b M2 ++ NW g r d N) → va_S A s.heap H locs → lv_has ls 4 [(0, .ref (q b)), (1, .int x1), (2, .ref (r d)), (3, .int y1)] → W p l e (headSpec wsX2_goUntilOut rmX2_goUntilOut).room s m args below meth c H locs 0 0 (MQ below (zWQ g A (OW g q b M_o ++ NW g r d N) (some (.int ro))) args s 0 0 A) (F0 m 2 ls []) := by
    intro n2
    induction n2 with
    | zero =>
      intro y1 M2 H locs ls hF hP hD hS hl
      exact absurd (show (none : Option (Int32 × Mo)) = some _ from hF) (fun h9 => by cases h9)
    | succ n2 ih2 =>
      intro y1 M2 H locs ls hF hP hD hS hl
      rw [f2_goUntilOut_l2] at hF
      refine lv_iload_n hx hb dX2_goUntilOut_2 rfl (lv_at hl 3 rfl) ?_
      refine lv_bipush (v := 40) hx hb dX2_goUntilOut_3 (by decide) ?_
      refine lv_icmp_ge (tgt := 40) hx hb dX2_goUntilOut_5 (by decide) (fun c3 => ?_) (fun c3 => ?_)
      · have hF := zit c3 hF
        refine lv_aload_n hx hb dX2_goUntilOut_40 rfl (lv_at hl 0 rfl) ?_
        refine z_get (ci := 2) (v := .int (M2.1 5)) (C := RX2) (T := TX2) (N := 9) hx hb hts inX2 hown hK hP 0 rfl rfl 5 (by decide) (List.mem_of_getElem? (i := 1) rfl) rfl rfl dX2_goUntilOut_41 ?_
        refine lv_iload_n hx hb dX2_goUntilOut_44 rfl (lv_at hl 1 rfl) ?_
        refine z_rgo (va_runSN (As := [.int (M2.1 5), .int x1]) (rest := []) ⟨hx, hb, hml, hown, hts⟩ (c6_has l g   (M2.1 5) x1) ⟨va_cnB 2 hts gX2_goUntilOut_X6_has_n74 rfl rfl rfl (hK.nest 19 rfl) (hts (.initialized RX6) (List.mem_of_getElem? (i := 4) rfl)) (by decide +kernel) ⟨Nat.le_of_ble_eq_true rfl, Nat.le_of_ble_eq_true rfl⟩, hts (.static yX6_has) (List.mem_of_getElem? (i := 3) rfl), trivial⟩ (z_rpre z_nil hK) rfl rfl hl.1 rfl (lv_room (Nat.le_of_ble_eq_true rfl)) dX2_goUntilOut_45 ⟨Nat.zero_le _, Nat.zero_le _⟩) ?_
        refine lv_if_eq (tgt := 56) hx hb dX2_goUntilOut_48 (by decide) (fun c4 => ?_) (fun c4 => ?_)
        · have hF := zit c4 hF
          refine lv_bipush (v := (-9)) hx hb dX2_goUntilOut_56 (by decide) ?_
          obtain ⟨e9a, e9b⟩ := Prod.mk.inj (zin hF)
          exact z_wi hx hb hr hlk hP hD hS (congrArg (fun z => some (Value.int z)) e9a) (by rw [e9b]) dX2_goUntilOut_58
        · have hF := zif c4 hF
          refine lv_bipush (v := 40) hx hb dX2_goUntilOut_51 (by decide) ?_
          refine lv_goto (tgt := 58) hx hb dX2_goUntilOut_53 (by decide) ?_
          obtain ⟨e9a, e9b⟩ := Prod.mk.inj (zin hF)
          exact z_wi hx hb hr hlk hP hD hS (congrArg (fun z => some (Value.int z)) e9a) (by rw [e9b]) dX2_goUntilOut_58
      · have hF := zif c3 hF
        refine lv_aload_n hx hb dX2_goUntilOut_8 rfl (lv_at hl 0 rfl) ?_
        refine z_get (ci := 2) (v := .int (M2.1 5)) (C := RX2) (T := TX2) (N := 9) hx hb hts inX2 hown hK hP 0 rfl rfl 5 (by decide) (List.mem_of_getElem? (i := 1) rfl) rfl rfl dX2_goUntilOut_9 ?_
        refine lv_iload_n hx hb dX2_goUntilOut_12 rfl (lv_at hl 1 rfl) ?_
        refine z_rgo (va_runSN (As := [.int (M2.1 5), .int x1]) (rest := []) ⟨hx, hb, hml, hown, hts⟩ (c6_has l g   (M2.1 5) x1) ⟨va_cnB 2 hts gX2_goUntilOut_X6_has_n74 rfl rfl rfl (hK.nest 19 rfl) (hts (.initialized RX6) (List.mem_of_getElem? (i := 4) rfl)) (by decide +kernel) ⟨Nat.le_of_ble_eq_true rfl, Nat.le_of_ble_eq_true rfl⟩, hts (.static yX6_has) (List.mem_of_getElem? (i := 3) rfl), trivial⟩ (z_rpre z_nil hK) rfl rfl hl.1 rfl (lv_room (Nat.le_of_ble_eq_true rfl)) dX2_goUntilOut_13 ⟨Nat.zero_le _, Nat.zero_le _⟩) ?_
        refine lv_if_eq (tgt := 21) hx hb dX2_goUntilOut_16 (by decide) (fun c5 => ?_) (fun c5 => ?_)
        · have hF := zit c5 hF
          refine lv_aload_n hx hb dX2_goUntilOut_21 rfl (lv_at hl 0 rfl) ?_
          refine lv_aload_n hx hb dX2_goUntilOut_22 rfl (lv_at hl 2 rfl) ?_
          refine lv_aload_n hx hb dX2_goUntilOut_23 rfl (lv_at hl 0 rfl) ?_
          refine z_get (ci := 2) (v := .int (M2.1 8)) (C := RX2) (T := TX2) (N := 9) hx hb hts inX2 hown hK hP 0 rfl rfl 8 (by decide) (List.mem_of_getElem? (i := 2) rfl) rfl rfl dX2_goUntilOut_24 ?_
          refine z_rgo (va_runV (As := [.int (M2.1 8)]) (rest := [.ref (q b)]) ⟨hx, hb, hml, hown, hts⟩ (c3_tide l g r d N (M2.1 8)) (cwV 1 hts gX2_goUntilOut_X3_tide rfl rfl rfl (by decide +kernel) ⟨Nat.le_of_ble_eq_true rfl, Nat.le_of_ble_eq_true rfl⟩) (z_rpreV (ci := 3) (q := (RX3, TX3, 13)) (q0 := 0) (hP.sub (ws' := NW g r d N) [5, 6, 7, 8, 9, 10, 11, 12] rfl) hK rfl rfl) rfl rfl hl.1 rfl (lv_room (Nat.le_of_ble_eq_true rfl)) dX2_goUntilOut_27 ⟨Nat.zero_le _, Nat.zero_le _⟩) ?_
          refine lv_aload_n hx hb dX2_goUntilOut_30 rfl (lv_at hl 2 rfl) ?_
          obtain ⟨M6, hM6, hF⟩ := zob hF
          refine z_wgoW (va_runV (As := [.int (f3_tide N (M2.1 8)), .ref (r d)]) (rest := []) ⟨hx, hb, hml, hown, hts⟩ ((c2_advanceBy l g q b r d M2 N (f3_tide N (M2.1 8))  M6 hM6) H.size) (cwV 2 hts gX2_goUntilOut_X2_advanceBy rfl rfl rfl (by decide +kernel) ⟨Nat.le_of_ble_eq_true rfl, Nat.le_of_ble_eq_true rfl⟩) (z_wpreV (ci := 2) (q := (RX2, TX2, 9)) (q0 := 0) hP hK (z_any hD) rfl rfl) rfl rfl hl.1 rfl (lv_room (Nat.le_of_ble_eq_true rfl)) dX2_goUntilOut_31 ⟨Nat.zero_le _, Nat.zero_le _⟩) hP hD hS hA (fun H locs hP hD hS => ?_)
          show W p l e (headSpec wsX2_goUntilOut rmX2_goUntilOut).room s m args below meth c H locs 0 0 (MQ below (zWQ g A (OW g q b M_o ++ NW g r d N) (some (.int ro))) args s 0 0 A) (F0 m 34 ls [])
          refine lv_iinc (v := (y1 + 1)) (lv' := [(3, .int (y1 + 1)), (0, .ref (q b)), (1, .int x1), (2, .ref (r d))]) hx hb dX2_goUntilOut_34 hl (k := 3) rfl rfl (by decide) rfl (fun ls hl => ?_)
          refine lv_goto (tgt := 2) hx hb dX2_goUntilOut_37 (by decide) ?_
          exact ih2 (y1 + 1) M6 H locs ls hF hP hD hS (lv_sub hl [1, 2, 3, 0] rfl)
        · have hF := zif c5 hF
          refine lv_iload_n hx hb dX2_goUntilOut_19 rfl (lv_at hl 3 rfl) ?_
          obtain ⟨e9a, e9b⟩ := Prod.mk.inj (zin hF)
          exact z_wi hx hb hr hlk hP hD hS (congrArg (fun z => some (Value.int z)) e9a) (by rw [e9b]) dX2_goUntilOut_20
  exact L2 FU 0 M H locs ls hF hP hD hS (lv_sub hl [1, 2, 3, 0] rfl)
def f2_isRight (M : Mo) (N : Mo) (x1 : Int32) : Int32 := if (f6_has ((M.1 5) &&& (M.1 4)) x1) = 0 then 0 else if (f6_cell 4 (M.2 0) x1) = (f6_cell 4 (N.2 12) x1) then 1 else 0
abbrev rmX2_isRight : Room := { frames := 1, cells := 0, slots := 0, locals := 21 }
set_option maxHeartbeats 4000000 in
set_option maxRecDepth 100000 in
theorem c2_isRight (l : Launch) (g : zG) (q : Nat → Nat) (b : Nat) (r : Nat → Nat) (d : Nat) (M : Mo) (N : Mo) (x1 : Int32) : zRO l g yX2_isRight wsX2_isRight rmX2_isRight [.ref (q b), .int x1, .ref (r d)] (OW g q b M ++ NW g r d N) (some (.int (f2_isRight M N x1))) := by
  obtain ⟨ro, hF⟩ : ∃ y : Int32, f2_isRight M N x1 = y := ⟨_, rfl⟩
  rw [hF]
  refine zRO_of (cc := cX2_isRight) (maxL := 3) (ret := (some .boolean)) (by decide) rfl (Nat.le_of_ble_eq_true rfl) ?_
  intro p e s m args below meth c ls hx hb hr hml hts hown hlk hK hP hl
  have hown : s.vm.findClass RX2 = some m.cls := hown
  have hl : lv_has ls 3 [(0, .ref (q b)), (1, .int x1), (2, .ref (r d))] := hl
  have inX2 : ∀ w ∈ wsX20, w ∈ wsX2_isRight := fun _ h => List.mem_cons_of_mem _ (List.mem_append_left _ (List.mem_append_right _ h))
  have inX3 : ∀ w ∈ wsX30, w ∈ wsX2_isRight := fun _ h => List.mem_cons_of_mem _ (List.mem_append_right _ h)
  unfold f2_isRight at hF
  refine lv_aload_n hx hb dX2_isRight_0 rfl (lv_at hl 0 rfl) ?_
  refine z_get (ci := 2) (v := .int (M.1 5)) (C := RX2) (T := TX2) (N := 9) hx hb hts inX2 hown hK hP 0 rfl rfl 5 (by decide) (List.mem_of_getElem? (i := 1) rfl) rfl rfl dX2_isRight_1 ?_
  refine lv_aload_n hx hb dX2_isRight_4 rfl (lv_at hl 0 rfl) ?_
  refine z_get (ci := 2) (v := .int (M.1 4)) (C := RX2) (T := TX2) (N := 9) hx hb hts inX2 hown hK hP 0 rfl rfl 4 (by decide) (List.mem_of_getElem? (i := 2) rfl) rfl rfl dX2_isRight_5 ?_
  refine lv_iand hx hb dX2_isRight_8 ?_
  refine lv_iload_n hx hb dX2_isRight_9 rfl (lv_at hl 1 rfl) ?_
  refine z_rgo (va_runSN (As := [.int ((M.1 5) &&& (M.1 4)), .int x1]) (rest := []) ⟨hx, hb, hml, hown, hts⟩ (c6_has l g   ((M.1 5) &&& (M.1 4)) x1) ⟨va_cnB 2 hts gX2_isRight_X6_has_n74 rfl rfl rfl (hK.nest 19 rfl) (hts (.initialized RX6) (List.mem_of_getElem? (i := 6) rfl)) (by decide +kernel) ⟨Nat.le_of_ble_eq_true rfl, Nat.le_of_ble_eq_true rfl⟩, hts (.static yX6_has) (List.mem_of_getElem? (i := 5) rfl), trivial⟩ (z_rpre z_nil hK) rfl rfl hl.1 rfl (lv_room (Nat.le_of_ble_eq_true rfl)) dX2_isRight_10 ⟨Nat.zero_le _, Nat.zero_le _⟩) ?_
  refine lv_if_eq (tgt := 39) hx hb dX2_isRight_13 (by decide) (fun c1 => ?_) (fun c1 => ?_)
  · have hF := zit c1 hF
    refine lv_iconst (v := 0) hx hb dX2_isRight_39 (by decide) ?_
    exact z_rz hx hb hr hlk rfl (congrArg (fun z => some (Value.int z)) hF) dX2_isRight_40
  · have hF := zif c1 hF
    refine lv_aload_n hx hb dX2_isRight_16 rfl (lv_at hl 0 rfl) ?_
    refine z_get (ci := 2) (v := .ref (q (b + 1))) (C := RX2) (T := TX2) (N := 9) hx hb hts inX2 hown hK hP 0 rfl rfl 0 (by decide) (List.mem_of_getElem? (i := 3) rfl) rfl rfl dX2_isRight_17 ?_
    refine lv_iload_n hx hb dX2_isRight_20 rfl (lv_at hl 1 rfl) ?_
    refine z_rgo (va_runSN (As := [.ref (q (b + 1)), .int x1]) (rest := []) ⟨hx, hb, hml, hown, hts⟩ (c6_cell l g (q (b + 1)) 4 (by decide) (M.2 0) x1) ⟨va_cnB 2 hts gX2_isRight_X6_cell_n29 rfl rfl rfl (hK.nest 16 rfl) (hts (.initialized RX6) (List.mem_of_getElem? (i := 6) rfl)) (by decide +kernel) ⟨Nat.le_of_ble_eq_true rfl, Nat.le_of_ble_eq_true rfl⟩, hts (.static yX6_cell) (List.mem_of_getElem? (i := 8) rfl), trivial⟩ (z_rpre (hP.sub (ws' := [((q (b + 1)), .inl (g.2.2.1, 4, .inl (M.2 0)))]) [1] rfl) hK) rfl rfl hl.1 rfl (lv_room (Nat.le_of_ble_eq_true rfl)) dX2_isRight_21 ⟨Nat.zero_le _, Nat.zero_le _⟩) ?_
    refine lv_aload_n hx hb dX2_isRight_24 rfl (lv_at hl 2 rfl) ?_
    refine z_get (ci := 3) (v := .ref (r (d + 7))) (C := RX3) (T := TX3) (N := 13) hx hb hts inX3 hown hK hP 5 rfl rfl 12 (by decide) (List.mem_of_getElem? (i := 4) rfl) rfl rfl dX2_isRight_25 ?_
    refine lv_iload_n hx hb dX2_isRight_28 rfl (lv_at hl 1 rfl) ?_
    refine z_rgo (va_runSN (As := [.ref (r (d + 7)), .int x1]) (rest := [.int (f6_cell 4 (M.2 0) x1)]) ⟨hx, hb, hml, hown, hts⟩ (c6_cell l g (r (d + 7)) 4 (by decide) (N.2 12) x1) ⟨va_cnB 2 hts gX2_isRight_X6_cell_n29 rfl rfl rfl (hK.nest 16 rfl) (hts (.initialized RX6) (List.mem_of_getElem? (i := 6) rfl)) (by decide +kernel) ⟨Nat.le_of_ble_eq_true rfl, Nat.le_of_ble_eq_true rfl⟩, hts (.static yX6_cell) (List.mem_of_getElem? (i := 8) rfl), trivial⟩ (z_rpre (hP.sub (ws' := [((r (d + 7)), .inl (g.2.2.1, 4, .inl (N.2 12)))]) [12] rfl) hK) rfl rfl hl.1 rfl (lv_room (Nat.le_of_ble_eq_true rfl)) dX2_isRight_29 ⟨Nat.zero_le _, Nat.zero_le _⟩) ?_
    refine lv_icmp_ne (tgt := 39) hx hb dX2_isRight_32 (by decide) (fun c2 => ?_) (fun c2 => ?_)
    · have hF := zif c2 hF
      refine lv_iconst (v := 0) hx hb dX2_isRight_39 (by decide) ?_
      exact z_rz hx hb hr hlk rfl (congrArg (fun z => some (Value.int z)) hF) dX2_isRight_40
    · have hF := zit c2 hF
      refine lv_iconst (v := 1) hx hb dX2_isRight_35 (by decide) ?_
      refine lv_goto (tgt := 40) hx hb dX2_isRight_36 (by decide) ?_
      exact z_rz hx hb hr hlk rfl (congrArg (fun z => some (Value.int z)) hF) dX2_isRight_40
theorem b2_isRight (M : Mo) (N : Mo) (x1 : Int32) : narrow .boolean (.int (f2_isRight M N x1)) = .int (f2_isRight M N x1) := by
  unfold f2_isRight
  repeat' split
  all_goals first | rfl | exact b6_has _ _
def f2_outAt (M : Mo) (x1 : Int32) : Int32 := if (f6_has (M.1 5) x1) = 0 then (-9) else (f6_cell 4 (M.2 0) x1)
abbrev rmX2_outAt : Room := { frames := 1, cells := 0, slots := 0, locals := 21 }
set_option maxHeartbeats 4000000 in
set_option maxRecDepth 100000 in
theorem c2_outAt (l : Launch) (g : zG) (q : Nat → Nat) (b : Nat) (M : Mo) (x1 : Int32) : zRO l g yX2_outAt wsX2_outAt rmX2_outAt [.ref (q b), .int x1] (OW g q b M) (some (.int (f2_outAt M x1))) := by
  obtain ⟨ro, hF⟩ : ∃ y : Int32, f2_outAt M x1 = y := ⟨_, rfl⟩
  rw [hF]
  refine zRO_of (cc := cX2_outAt) (maxL := 2) (ret := (some .int)) (by decide) rfl (Nat.le_of_ble_eq_true rfl) ?_
  intro p e s m args below meth c ls hx hb hr hml hts hown hlk hK hP hl
  have hown : s.vm.findClass RX2 = some m.cls := hown
  have hl : lv_has ls 2 [(0, .ref (q b)), (1, .int x1)] := hl
  have inX2 : ∀ w ∈ wsX20, w ∈ wsX2_outAt := fun _ h => List.mem_cons_of_mem _ (List.mem_append_right _ h)
  unfold f2_outAt at hF
  refine lv_aload_n hx hb dX2_outAt_0 rfl (lv_at hl 0 rfl) ?_
  refine z_get (ci := 2) (v := .int (M.1 5)) (C := RX2) (T := TX2) (N := 9) hx hb hts inX2 hown hK hP 0 rfl rfl 5 (by decide) (List.mem_of_getElem? (i := 1) rfl) rfl rfl dX2_outAt_1 ?_
  refine lv_iload_n hx hb dX2_outAt_4 rfl (lv_at hl 1 rfl) ?_
  refine z_rgo (va_runSN (As := [.int (M.1 5), .int x1]) (rest := []) ⟨hx, hb, hml, hown, hts⟩ (c6_has l g   (M.1 5) x1) ⟨va_cnB 2 hts gX2_outAt_X6_has_n74 rfl rfl rfl (hK.nest 19 rfl) (hts (.initialized RX6) (List.mem_of_getElem? (i := 4) rfl)) (by decide +kernel) ⟨Nat.le_of_ble_eq_true rfl, Nat.le_of_ble_eq_true rfl⟩, hts (.static yX6_has) (List.mem_of_getElem? (i := 3) rfl), trivial⟩ (z_rpre z_nil hK) rfl rfl hl.1 rfl (lv_room (Nat.le_of_ble_eq_true rfl)) dX2_outAt_5 ⟨Nat.zero_le _, Nat.zero_le _⟩) ?_
  refine lv_if_eq (tgt := 22) hx hb dX2_outAt_8 (by decide) (fun c1 => ?_) (fun c1 => ?_)
  · have hF := zit c1 hF
    refine lv_bipush (v := (-9)) hx hb dX2_outAt_22 (by decide) ?_
    exact z_ri hx hb hr hlk (congrArg (fun z => some (Value.int z)) hF) dX2_outAt_24
  · have hF := zif c1 hF
    refine lv_aload_n hx hb dX2_outAt_11 rfl (lv_at hl 0 rfl) ?_
    refine z_get (ci := 2) (v := .ref (q (b + 1))) (C := RX2) (T := TX2) (N := 9) hx hb hts inX2 hown hK hP 0 rfl rfl 0 (by decide) (List.mem_of_getElem? (i := 2) rfl) rfl rfl dX2_outAt_12 ?_
    refine lv_iload_n hx hb dX2_outAt_15 rfl (lv_at hl 1 rfl) ?_
    refine z_rgo (va_runSN (As := [.ref (q (b + 1)), .int x1]) (rest := []) ⟨hx, hb, hml, hown, hts⟩ (c6_cell l g (q (b + 1)) 4 (by decide) (M.2 0) x1) ⟨va_cnB 2 hts gX2_outAt_X6_cell_n29 rfl rfl rfl (hK.nest 16 rfl) (hts (.initialized RX6) (List.mem_of_getElem? (i := 4) rfl)) (by decide +kernel) ⟨Nat.le_of_ble_eq_true rfl, Nat.le_of_ble_eq_true rfl⟩, hts (.static yX6_cell) (List.mem_of_getElem? (i := 6) rfl), trivial⟩ (z_rpre (hP.sub (ws' := [((q (b + 1)), .inl (g.2.2.1, 4, .inl (M.2 0)))]) [1] rfl) hK) rfl rfl hl.1 rfl (lv_room (Nat.le_of_ble_eq_true rfl)) dX2_outAt_16 ⟨Nat.zero_le _, Nat.zero_le _⟩) ?_
    refine lv_goto (tgt := 24) hx hb dX2_outAt_19 (by decide) ?_
    exact z_ri hx hb hr hlk (congrArg (fun z => some (Value.int z)) hF) dX2_outAt_24
def f2_right_l4 (M : Mo) (N : Mo) : Nat → Int32 → Int32 → Option (Int32)
  | 0, _, _ => none
  | n4 + 1, y1, y2 => if 4 ≤ y2 then some y1 else if (f2_isRight M N y2) = 0 then f2_right_l4 M N n4 y1 (y2 + 1) else bd (α := Int32) (y1 ||| (f6_bit y2)) (fun (v5 : Int32) => f2_right_l4 M N n4 v5 (y2 + 1))
def f2_right (M : Mo) (N : Mo) : Option (Int32) := f2_right_l4 M N FU 0 0
abbrev rmX2_right : Room := { frames := 2, cells := 0, slots := 0, locals := 43 }
set_option maxHeartbeats 4000000 in
set_option maxRecDepth 100000 in
theorem c2_right (l : Launch) (g : zG) (q : Nat → Nat) (b : Nat) (r : Nat → Nat) (d : Nat) (M : Mo) (N : Mo) (ro : Int32) (hF : f2_right M N = some ro) : zRO l g yX2_right wsX2_right rmX2_right [.ref (q b), .ref (r d)] (OW g q b M ++ NW g r d N) (some (.int ro)) := by
  refine zRO_of (cc := cX2_right) (maxL := 4) (ret := (some .int)) (by decide) rfl (Nat.le_of_ble_eq_true rfl) ?_
  intro p e s m args below meth c ls hx hb hr hml hts hown hlk hK hP hl
  have hown : s.vm.findClass RX2 = some m.cls := hown
  have hl : lv_has ls 4 [(0, .ref (q b)), (1, .ref (r d))] := hl
  unfold f2_right at hF
  refine lv_iconst (v := 0) hx hb dX2_right_0 (by decide) ?_
  refine lv_istore_n (lv' := [(2, .int 0), (0, .ref (q b)), (1, .ref (r d))]) hx hb dX2_right_1 rfl hl (by decide) rfl (fun ls hl => ?_)
  refine lv_iconst (v := 0) hx hb dX2_right_2 (by decide) ?_
  refine lv_istore_n (lv' := [(3, .int 0), (2, .int 0), (0, .ref (q b)), (1, .ref (r d))]) hx hb dX2_right_3 rfl hl (by decide) rfl (fun ls hl => ?_)
  have L4 : ∀ (n4 : Nat) (y1 : Int32) (y2 : Int32) (ls : Array Slot), f2_right_l4 M N n4 y1 y2 = some ro → lv_has ls 4 [(0, .ref (q b)), (1, .ref (r d)), (2, .int y1), (3, .int y2)] → W p l e (headSpec wsX2_right rmX2_right).room s m args below meth c s.heap [] 0 0 (MQ below (zRQ (some (.int ro))) args s 0 0 (fun _ => False)) (F0 m 4 ls []) := by
    intro n4
    induction n4 with
    | zero =>
      intro y1 y2 ls hF hl
      exact absurd (show (none : Option (Int32)) = some _ from hF) (fun h9 => by cases h9)
    | succ n4 ih4 =>
      intro y1 y2 ls hF hl
      rw [f2_right_l4] at hF
      refine lv_iload_n hx hb dX2_right_4 rfl (lv_at hl 3 rfl) ?_
      refine lv_iconst (v := 4) hx hb dX2_right_5 (by decide) ?_
      refine lv_icmp_ge (tgt := 31) hx hb dX2_right_6 (by decide) (fun c3 => ?_) (fun c3 => ?_)
      · have hF := zit c3 hF
        refine lv_iload_n hx hb dX2_right_31 rfl (lv_at hl 2 rfl) ?_
        have e9a := zin hF
        exact z_ri hx hb hr hlk (congrArg (fun z => some (Value.int z)) e9a) dX2_right_32
      · have hF := zif c3 hF
        refine lv_aload_n hx hb dX2_right_9 rfl (lv_at hl 0 rfl) ?_
        refine lv_iload_n hx hb dX2_right_10 rfl (lv_at hl 3 rfl) ?_
        refine lv_aload_n hx hb dX2_right_11 rfl (lv_at hl 1 rfl) ?_
        refine z_rgo (va_runV (As := [.int y2, .ref (r d)]) (rest := []) ⟨hx, hb, hml, hown, hts⟩ (c2_isRight l g q b r d M N y2) (cwV 2 hts gX2_right_X2_isRight rfl rfl rfl (by decide +kernel) ⟨Nat.le_of_ble_eq_true rfl, Nat.le_of_ble_eq_true rfl⟩) (z_rpreV (ci := 2) (q := (RX2, TX2, 9)) (q0 := 0) hP hK rfl rfl) rfl rfl hl.1 rfl (lv_room (Nat.le_of_ble_eq_true rfl)) dX2_right_12 ⟨Nat.zero_le _, Nat.zero_le _⟩) ?_
        refine lv_if_eq (tgt := 25) hx hb dX2_right_15 (by decide) (fun c4 => ?_) (fun c4 => ?_)
        · have hF := zit c4 hF
          refine lv_iinc (v := (y2 + 1)) (lv' := [(3, .int (y2 + 1)), (0, .ref (q b)), (1, .ref (r d)), (2, .int y1)]) hx hb dX2_right_25 hl (k := 3) rfl rfl (by decide) rfl (fun ls hl => ?_)
          refine lv_goto (tgt := 4) hx hb dX2_right_28 (by decide) ?_
          exact ih4 y1 (y2 + 1) ls hF (lv_sub hl [1, 2, 3, 0] rfl)
        · have hF := zif c4 hF
          refine lv_iload_n hx hb dX2_right_18 rfl (lv_at hl 2 rfl) ?_
          refine lv_iload_n hx hb dX2_right_19 rfl (lv_at hl 3 rfl) ?_
          refine z_rgo (va_runSN (As := [.int y2]) (rest := [.int y1]) ⟨hx, hb, hml, hown, hts⟩ (c6_bit l g   y2) ⟨va_cnB 1 hts gX2_right_X6_bit_n64 rfl rfl rfl (hK.nest 20 rfl) (hts (.initialized RX6) (List.mem_of_getElem? (i := 11) rfl)) (by decide +kernel) ⟨Nat.le_of_ble_eq_true rfl, Nat.le_of_ble_eq_true rfl⟩, hts (.static yX6_bit) (List.mem_of_getElem? (i := 15) rfl), trivial⟩ (z_rpre z_nil hK) rfl rfl hl.1 rfl (lv_room (Nat.le_of_ble_eq_true rfl)) dX2_right_20 ⟨Nat.zero_le _, Nat.zero_le _⟩) ?_
          refine lv_ior hx hb dX2_right_23 ?_
          refine lv_topi (fun v5 ev5 => ?_)
          have hF := bd_eq ev5 hF
          refine lv_istore_n (lv' := [(2, .int v5), (0, .ref (q b)), (1, .ref (r d)), (3, .int y2)]) hx hb dX2_right_24 rfl hl (by decide) rfl (fun ls hl => ?_)
          refine lv_iinc (v := (y2 + 1)) (lv' := [(3, .int (y2 + 1)), (2, .int v5), (0, .ref (q b)), (1, .ref (r d))]) hx hb dX2_right_25 hl (k := 3) rfl rfl (by decide) rfl (fun ls hl => ?_)
          refine lv_goto (tgt := 4) hx hb dX2_right_28 (by decide) ?_
          exact ih4 v5 (y2 + 1) ls hF (lv_sub hl [2, 3, 1, 0] rfl)
  exact L4 FU 0 0 ls hF (lv_sub hl [2, 3, 1, 0] rfl)
def f2_turnLid (M : Mo) (x1 : Int32) : Option (Mo) := bd (sI M 7 ((M.1 7) ^^^ (f6_bit x1))) (fun (M1 : Mo) => some M1)
abbrev rmX2_turnLid : Room := { frames := 1, cells := 0, slots := 0, locals := 20 }
set_option maxHeartbeats 4000000 in
set_option maxRecDepth 100000 in
theorem c2_turnLid (l : Launch) (g : zG) (q : Nat → Nat) (b : Nat) (M : Mo) (x1 : Int32) (M_o : Mo) (hF : f2_turnLid M x1 = some M_o) : zRW l g yX2_turnLid wsX2_turnLid rmX2_turnLid [.ref (q b), .int x1] (OW g q b M) none (OW g q b M_o) := by
  refine zRW_of (cc := cX2_turnLid) (maxL := 2) (ret := none) (by decide) rfl (Nat.le_of_ble_eq_true rfl) ?_
  intro p e s m args below meth c A H locs ls hx hb hr hml hts hown hlk hK hA hP hD hS hl
  have hown : s.vm.findClass RX2 = some m.cls := hown
  have hl : lv_has ls 2 [(0, .ref (q b)), (1, .int x1)] := hl
  have inX2 : ∀ w ∈ wsX20, w ∈ wsX2_turnLid := fun _ h => List.mem_cons_of_mem _ (List.mem_append_right _ h)
  unfold f2_turnLid at hF
  refine lv_aload_n hx hb dX2_turnLid_0 rfl (lv_at hl 0 rfl) ?_
  refine lv_dup hx hb dX2_turnLid_1 rfl ?_
  refine z_get (ci := 2) (v := .int (M.1 7)) (C := RX2) (T := TX2) (N := 9) hx hb hts inX2 hown hK hP 0 rfl rfl 7 (by decide) (List.mem_of_getElem? (i := 1) rfl) rfl rfl dX2_turnLid_2 ?_
  refine lv_iload_n hx hb dX2_turnLid_5 rfl (lv_at hl 1 rfl) ?_
  refine z_rgo (va_runSN (As := [.int x1]) (rest := [.int (M.1 7), .ref (q b)]) ⟨hx, hb, hml, hown, hts⟩ (c6_bit l g   x1) ⟨va_cnB 1 hts gX2_turnLid_X6_bit_n64 rfl rfl rfl (hK.nest 20 rfl) (hts (.initialized RX6) (List.mem_of_getElem? (i := 3) rfl)) (by decide +kernel) ⟨Nat.le_of_ble_eq_true rfl, Nat.le_of_ble_eq_true rfl⟩, hts (.static yX6_bit) (List.mem_of_getElem? (i := 2) rfl), trivial⟩ (z_rpre z_nil hK) rfl rfl hl.1 rfl (lv_room (Nat.le_of_ble_eq_true rfl)) dX2_turnLid_6 ⟨Nat.zero_le _, Nat.zero_le _⟩) ?_
  refine lv_ixor hx hb dX2_turnLid_9 ?_
  refine z_put (ci := 2) (v := .int ((M.1 7) ^^^ (f6_bit x1))) (C := RX2) (T := TX2) (N := 9) (ws' := OW g q b (sI M 7 ((M.1 7) ^^^ (f6_bit x1)))) hx hb hts inX2 tyX2 tyX2_ok nmX2 hown hK hP hD hS 0 rfl rfl 7 (by decide) (List.mem_of_getElem? (i := 1) rfl) rfl rfl rfl rfl (Nat.le_of_ble_eq_true rfl) rfl dX2_turnLid_10 (fun H locs hP hD hS => ?_)
  obtain ⟨M1, eM1⟩ : ∃ y : Mo, y = (sI M 7 ((M.1 7) ^^^ (f6_bit x1))) := ⟨_, rfl⟩
  rw [← eM1] at hP hD
  have hF := bd_eq eM1 hF
  have e9b := zin hF
  exact z_wv hx hb hr hlk hP hD hS (by rw [e9b]) dX2_turnLid_13
def f2_turnPipe (M : Mo) (x1 : Int32) : Option (Mo) := bd (sI M 6 ((M.1 6) ^^^ (f6_bit x1))) (fun (M1 : Mo) => some M1)
abbrev rmX2_turnPipe : Room := { frames := 1, cells := 0, slots := 0, locals := 20 }
set_option maxHeartbeats 4000000 in
set_option maxRecDepth 100000 in
theorem c2_turnPipe (l : Launch) (g : zG) (q : Nat → Nat) (b : Nat) (M : Mo) (x1 : Int32) (M_o : Mo) (hF : f2_turnPipe M x1 = some M_o) : zRW l g yX2_turnPipe wsX2_turnPipe rmX2_turnPipe [.ref (q b), .int x1] (OW g q b M) none (OW g q b M_o) := by
  refine zRW_of (cc := cX2_turnPipe) (maxL := 2) (ret := none) (by decide) rfl (Nat.le_of_ble_eq_true rfl) ?_
  intro p e s m args below meth c A H locs ls hx hb hr hml hts hown hlk hK hA hP hD hS hl
  have hown : s.vm.findClass RX2 = some m.cls := hown
  have hl : lv_has ls 2 [(0, .ref (q b)), (1, .int x1)] := hl
  have inX2 : ∀ w ∈ wsX20, w ∈ wsX2_turnPipe := fun _ h => List.mem_cons_of_mem _ (List.mem_append_right _ h)
  unfold f2_turnPipe at hF
  refine lv_aload_n hx hb dX2_turnPipe_0 rfl (lv_at hl 0 rfl) ?_
  refine lv_dup hx hb dX2_turnPipe_1 rfl ?_
  refine z_get (ci := 2) (v := .int (M.1 6)) (C := RX2) (T := TX2) (N := 9) hx hb hts inX2 hown hK hP 0 rfl rfl 6 (by decide) (List.mem_of_getElem? (i := 1) rfl) rfl rfl dX2_turnPipe_2 ?_
  refine lv_iload_n hx hb dX2_turnPipe_5 rfl (lv_at hl 1 rfl) ?_
  refine z_rgo (va_runSN (As := [.int x1]) (rest := [.int (M.1 6), .ref (q b)]) ⟨hx, hb, hml, hown, hts⟩ (c6_bit l g   x1) ⟨va_cnB 1 hts gX2_turnPipe_X6_bit_n64 rfl rfl rfl (hK.nest 20 rfl) (hts (.initialized RX6) (List.mem_of_getElem? (i := 3) rfl)) (by decide +kernel) ⟨Nat.le_of_ble_eq_true rfl, Nat.le_of_ble_eq_true rfl⟩, hts (.static yX6_bit) (List.mem_of_getElem? (i := 2) rfl), trivial⟩ (z_rpre z_nil hK) rfl rfl hl.1 rfl (lv_room (Nat.le_of_ble_eq_true rfl)) dX2_turnPipe_6 ⟨Nat.zero_le _, Nat.zero_le _⟩) ?_
  refine lv_ixor hx hb dX2_turnPipe_9 ?_
  refine z_put (ci := 2) (v := .int ((M.1 6) ^^^ (f6_bit x1))) (C := RX2) (T := TX2) (N := 9) (ws' := OW g q b (sI M 6 ((M.1 6) ^^^ (f6_bit x1)))) hx hb hts inX2 tyX2 tyX2_ok nmX2 hown hK hP hD hS 0 rfl rfl 6 (by decide) (List.mem_of_getElem? (i := 1) rfl) rfl rfl rfl rfl (Nat.le_of_ble_eq_true rfl) rfl dX2_turnPipe_10 (fun H locs hP hD hS => ?_)
  obtain ⟨M1, eM1⟩ : ∃ y : Mo, y = (sI M 6 ((M.1 6) ^^^ (f6_bit x1))) := ⟨_, rfl⟩
  rw [← eM1] at hP hD
  have hF := bd_eq eM1 hF
  have e9b := zin hF
  exact z_wv hx hb hr hlk hP hD hS (by rw [e9b]) dX2_turnPipe_13
def f3_addJoint (N : Mo) (x1 : Int32) (x2 : Int32) : Option (Mo) := bd (sA N 6 (f6_put 6 (N.2 6) (N.1 2) x1)) (fun (N1 : Mo) => if x2 = 1 then bd (sI N1 5 ((N1.1 5) ||| (f6_bit (N1.1 2)))) (fun (N4 : Mo) => bd (sI N4 2 ((N4.1 2) + 1)) (fun (N5 : Mo) => some N5)) else bd (sI N1 2 ((N1.1 2) + 1)) (fun (N3 : Mo) => some N3))
abbrev rmX3_addJoint : Room := { frames := 1, cells := 0, slots := 0, locals := 22 }
set_option maxHeartbeats 4000000 in
set_option maxRecDepth 100000 in
theorem c3_addJoint (l : Launch) (g : zG) (q : Nat → Nat) (b : Nat) (N : Mo) (x1 : Int32) (x2 : Int32) (N_o : Mo) (hF : f3_addJoint N x1 x2 = some N_o) : zRW l g yX3_addJoint wsX3_addJoint rmX3_addJoint [.ref (q b), .int x1, .int x2] (NW g q b N) none (NW g q b N_o) := by
  refine zRW_of (cc := cX3_addJoint) (maxL := 3) (ret := none) (by decide) rfl (Nat.le_of_ble_eq_true rfl) ?_
  intro p e s m args below meth c A H locs ls hx hb hr hml hts hown hlk hK hA hP hD hS hl
  have hown : s.vm.findClass RX3 = some m.cls := hown
  have hl : lv_has ls 3 [(0, .ref (q b)), (1, .int x1), (2, .int x2)] := hl
  have inX3 : ∀ w ∈ wsX30, w ∈ wsX3_addJoint := fun _ h => List.mem_cons_of_mem _ (List.mem_append_right _ h)
  unfold f3_addJoint at hF
  refine lv_aload_n hx hb dX3_addJoint_0 rfl (lv_at hl 0 rfl) ?_
  refine z_get (ci := 3) (v := .ref (q (b + 1))) (C := RX3) (T := TX3) (N := 13) hx hb hts inX3 hown hK hP 0 rfl rfl 6 (by decide) (List.mem_of_getElem? (i := 1) rfl) rfl rfl dX3_addJoint_1 ?_
  refine lv_aload_n hx hb dX3_addJoint_4 rfl (lv_at hl 0 rfl) ?_
  refine z_get (ci := 3) (v := .int (N.1 2)) (C := RX3) (T := TX3) (N := 13) hx hb hts inX3 hown hK hP 0 rfl rfl 2 (by decide) (List.mem_of_getElem? (i := 2) rfl) rfl rfl dX3_addJoint_5 ?_
  refine lv_iload_n hx hb dX3_addJoint_8 rfl (lv_at hl 1 rfl) ?_
  refine z_wgo (wn := NW g q b (sA N 6 (f6_put 6 (N.2 6) (N.1 2) x1))) (va_runSN (As := [.ref (q (b + 1)), .int (N.1 2), .int x1]) (rest := []) ⟨hx, hb, hml, hown, hts⟩ ((c6_put l g (q (b + 1)) 6 (by decide) (N.2 6) (N.1 2) x1) H.size) ⟨va_cnB 3 hts gX3_addJoint_X6_put_n56 rfl rfl rfl (hK.nest 15 rfl) (hts (.initialized RX6) (List.mem_of_getElem? (i := 5) rfl)) (by decide +kernel) ⟨Nat.le_of_ble_eq_true rfl, Nat.le_of_ble_eq_true rfl⟩, hts (.static yX6_put) (List.mem_of_getElem? (i := 4) rfl), trivial⟩ (z_wpre (hP.sub (ws' := [((q (b + 1)), .inl (g.2.2.1, 6, .inl (N.2 6)))]) [1] rfl) hK (z_any (hD.sub (ws' := [((q (b + 1)), .inl (g.2.2.1, 6, .inl (N.2 6)))]) [1] (by decide) rfl))) rfl rfl hl.1 rfl (lv_room (Nat.le_of_ble_eq_true rfl)) dX3_addJoint_9 ⟨Nat.zero_le _, Nat.zero_le _⟩) hP hD hS hA [1] rfl (by decide) rfl rfl (fun H locs hP hD hS => ?_)
  show W p l e (headSpec wsX3_addJoint rmX3_addJoint).room s m args below meth c H locs 0 0 (MQ below (zWQ g A (NW g q b N_o) none) args s 0 0 A) (F0 m 12 ls [])
  obtain ⟨N1, eN1⟩ : ∃ y : Mo, y = (sA N 6 (f6_put 6 (N.2 6) (N.1 2) x1)) := ⟨_, rfl⟩
  rw [← eN1] at hP hD
  have hF := bd_eq eN1 hF
  refine lv_iload_n hx hb dX3_addJoint_12 rfl (lv_at hl 2 rfl) ?_
  refine lv_iconst (v := 1) hx hb dX3_addJoint_13 (by decide) ?_
  refine lv_icmp_ne (tgt := 33) hx hb dX3_addJoint_14 (by decide) (fun c2 => ?_) (fun c2 => ?_)
  · have hF := zif c2 hF
    refine lv_aload_n hx hb dX3_addJoint_33 rfl (lv_at hl 0 rfl) ?_
    refine lv_dup hx hb dX3_addJoint_34 rfl ?_
    refine z_get (ci := 3) (v := .int (N1.1 2)) (C := RX3) (T := TX3) (N := 13) hx hb hts inX3 hown hK hP 0 rfl rfl 2 (by decide) (List.mem_of_getElem? (i := 2) rfl) rfl rfl dX3_addJoint_35 ?_
    refine lv_iconst (v := 1) hx hb dX3_addJoint_38 (by decide) ?_
    refine lv_iadd hx hb dX3_addJoint_39 ?_
    refine z_put (ci := 3) (v := .int ((N1.1 2) + 1)) (C := RX3) (T := TX3) (N := 13) (ws' := NW g q b (sI N1 2 ((N1.1 2) + 1))) hx hb hts inX3 tyX3 tyX3_ok nmX3 hown hK hP hD hS 0 rfl rfl 2 (by decide) (List.mem_of_getElem? (i := 2) rfl) rfl rfl rfl rfl (Nat.le_of_ble_eq_true rfl) rfl dX3_addJoint_40 (fun H locs hP hD hS => ?_)
    obtain ⟨N3, eN3⟩ : ∃ y : Mo, y = (sI N1 2 ((N1.1 2) + 1)) := ⟨_, rfl⟩
    rw [← eN3] at hP hD
    have hF := bd_eq eN3 hF
    have e9b := zin hF
    exact z_wv hx hb hr hlk hP hD hS (by rw [e9b]) dX3_addJoint_43
  · have hF := zit c2 hF
    refine lv_aload_n hx hb dX3_addJoint_17 rfl (lv_at hl 0 rfl) ?_
    refine lv_dup hx hb dX3_addJoint_18 rfl ?_
    refine z_get (ci := 3) (v := .int (N1.1 5)) (C := RX3) (T := TX3) (N := 13) hx hb hts inX3 hown hK hP 0 rfl rfl 5 (by decide) (List.mem_of_getElem? (i := 3) rfl) rfl rfl dX3_addJoint_19 ?_
    refine lv_aload_n hx hb dX3_addJoint_22 rfl (lv_at hl 0 rfl) ?_
    refine z_get (ci := 3) (v := .int (N1.1 2)) (C := RX3) (T := TX3) (N := 13) hx hb hts inX3 hown hK hP 0 rfl rfl 2 (by decide) (List.mem_of_getElem? (i := 2) rfl) rfl rfl dX3_addJoint_23 ?_
    refine z_rgo (va_runSN (As := [.int (N1.1 2)]) (rest := [.int (N1.1 5), .ref (q b)]) ⟨hx, hb, hml, hown, hts⟩ (c6_bit l g   (N1.1 2)) ⟨va_cnB 1 hts gX3_addJoint_X6_bit_n60 rfl rfl rfl (hK.nest 9 rfl) (hts (.initialized RX6) (List.mem_of_getElem? (i := 5) rfl)) (by decide +kernel) ⟨Nat.le_of_ble_eq_true rfl, Nat.le_of_ble_eq_true rfl⟩, hts (.static yX6_bit) (List.mem_of_getElem? (i := 7) rfl), trivial⟩ (z_rpre z_nil hK) rfl rfl hl.1 rfl (lv_room (Nat.le_of_ble_eq_true rfl)) dX3_addJoint_26 ⟨Nat.zero_le _, Nat.zero_le _⟩) ?_
    refine lv_ior hx hb dX3_addJoint_29 ?_
    refine z_put (ci := 3) (v := .int ((N1.1 5) ||| (f6_bit (N1.1 2)))) (C := RX3) (T := TX3) (N := 13) (ws' := NW g q b (sI N1 5 ((N1.1 5) ||| (f6_bit (N1.1 2))))) hx hb hts inX3 tyX3 tyX3_ok nmX3 hown hK hP hD hS 0 rfl rfl 5 (by decide) (List.mem_of_getElem? (i := 3) rfl) rfl rfl rfl rfl (Nat.le_of_ble_eq_true rfl) rfl dX3_addJoint_30 (fun H locs hP hD hS => ?_)
    obtain ⟨N4, eN4⟩ : ∃ y : Mo, y = (sI N1 5 ((N1.1 5) ||| (f6_bit (N1.1 2)))) := ⟨_, rfl⟩
    rw [← eN4] at hP hD
    have hF := bd_eq eN4 hF
    refine lv_aload_n hx hb dX3_addJoint_33 rfl (lv_at hl 0 rfl) ?_
    refine lv_dup hx hb dX3_addJoint_34 rfl ?_
    refine z_get (ci := 3) (v := .int (N4.1 2)) (C := RX3) (T := TX3) (N := 13) hx hb hts inX3 hown hK hP 0 rfl rfl 2 (by decide) (List.mem_of_getElem? (i := 2) rfl) rfl rfl dX3_addJoint_35 ?_
    refine lv_iconst (v := 1) hx hb dX3_addJoint_38 (by decide) ?_
    refine lv_iadd hx hb dX3_addJoint_39 ?_
    refine z_put (ci := 3) (v := .int ((N4.1 2) + 1)) (C := RX3) (T := TX3) (N := 13) (ws' := NW g q b (sI N4 2 ((N4.1 2) + 1))) hx hb hts inX3 tyX3 tyX3_ok nmX3 hown hK hP hD hS 0 rfl rfl 2 (by decide) (List.mem_of_getElem? (i := 2) rfl) rfl rfl rfl rfl (Nat.le_of_ble_eq_true rfl) rfl dX3_addJoint_40 (fun H locs hP hD hS => ?_)
    obtain ⟨N5, eN5⟩ : ∃ y : Mo, y = (sI N4 2 ((N4.1 2) + 1)) := ⟨_, rfl⟩
    rw [← eN5] at hP hD
    have hF := bd_eq eN5 hF
    have e9b := zin hF
    exact z_wv hx hb hr hlk hP hD hS (by rw [e9b]) dX3_addJoint_43
def f3_addPipe (N : Mo) (x1 : Int32) (x2 : Int32) : Option (Mo) := bd (sA N 7 (f6_put 8 (N.2 7) (N.1 3) x1)) (fun (N1 : Mo) => bd (sA N1 8 (f6_put 8 (N1.2 8) (N1.1 3) x2)) (fun (N2 : Mo) => bd (sI N2 3 ((N2.1 3) + 1)) (fun (N3 : Mo) => some N3)))
abbrev rmX3_addPipe : Room := { frames := 1, cells := 0, slots := 0, locals := 22 }
set_option maxHeartbeats 4000000 in
set_option maxRecDepth 100000 in
theorem c3_addPipe (l : Launch) (g : zG) (q : Nat → Nat) (b : Nat) (N : Mo) (x1 : Int32) (x2 : Int32) (N_o : Mo) (hF : f3_addPipe N x1 x2 = some N_o) : zRW l g yX3_addPipe wsX3_addPipe rmX3_addPipe [.ref (q b), .int x1, .int x2] (NW g q b N) none (NW g q b N_o) := by
  refine zRW_of (cc := cX3_addPipe) (maxL := 3) (ret := none) (by decide) rfl (Nat.le_of_ble_eq_true rfl) ?_
  intro p e s m args below meth c A H locs ls hx hb hr hml hts hown hlk hK hA hP hD hS hl
  have hown : s.vm.findClass RX3 = some m.cls := hown
  have hl : lv_has ls 3 [(0, .ref (q b)), (1, .int x1), (2, .int x2)] := hl
  have inX3 : ∀ w ∈ wsX30, w ∈ wsX3_addPipe := fun _ h => List.mem_cons_of_mem _ (List.mem_append_right _ h)
  unfold f3_addPipe at hF
  refine lv_aload_n hx hb dX3_addPipe_0 rfl (lv_at hl 0 rfl) ?_
  refine z_get (ci := 3) (v := .ref (q (b + 2))) (C := RX3) (T := TX3) (N := 13) hx hb hts inX3 hown hK hP 0 rfl rfl 7 (by decide) (List.mem_of_getElem? (i := 1) rfl) rfl rfl dX3_addPipe_1 ?_
  refine lv_aload_n hx hb dX3_addPipe_4 rfl (lv_at hl 0 rfl) ?_
  refine z_get (ci := 3) (v := .int (N.1 3)) (C := RX3) (T := TX3) (N := 13) hx hb hts inX3 hown hK hP 0 rfl rfl 3 (by decide) (List.mem_of_getElem? (i := 2) rfl) rfl rfl dX3_addPipe_5 ?_
  refine lv_iload_n hx hb dX3_addPipe_8 rfl (lv_at hl 1 rfl) ?_
  refine z_wgo (wn := NW g q b (sA N 7 (f6_put 8 (N.2 7) (N.1 3) x1))) (va_runSN (As := [.ref (q (b + 2)), .int (N.1 3), .int x1]) (rest := []) ⟨hx, hb, hml, hown, hts⟩ ((c6_put l g (q (b + 2)) 8 (by decide) (N.2 7) (N.1 3) x1) H.size) ⟨va_cnB 3 hts gX3_addPipe_X6_put_n56 rfl rfl rfl (hK.nest 15 rfl) (hts (.initialized RX6) (List.mem_of_getElem? (i := 5) rfl)) (by decide +kernel) ⟨Nat.le_of_ble_eq_true rfl, Nat.le_of_ble_eq_true rfl⟩, hts (.static yX6_put) (List.mem_of_getElem? (i := 4) rfl), trivial⟩ (z_wpre (hP.sub (ws' := [((q (b + 2)), .inl (g.2.2.1, 8, .inl (N.2 7)))]) [2] rfl) hK (z_any (hD.sub (ws' := [((q (b + 2)), .inl (g.2.2.1, 8, .inl (N.2 7)))]) [2] (by decide) rfl))) rfl rfl hl.1 rfl (lv_room (Nat.le_of_ble_eq_true rfl)) dX3_addPipe_9 ⟨Nat.zero_le _, Nat.zero_le _⟩) hP hD hS hA [2] rfl (by decide) rfl rfl (fun H locs hP hD hS => ?_)
  show W p l e (headSpec wsX3_addPipe rmX3_addPipe).room s m args below meth c H locs 0 0 (MQ below (zWQ g A (NW g q b N_o) none) args s 0 0 A) (F0 m 12 ls [])
  obtain ⟨N1, eN1⟩ : ∃ y : Mo, y = (sA N 7 (f6_put 8 (N.2 7) (N.1 3) x1)) := ⟨_, rfl⟩
  rw [← eN1] at hP hD
  have hF := bd_eq eN1 hF
  refine lv_aload_n hx hb dX3_addPipe_12 rfl (lv_at hl 0 rfl) ?_
  refine z_get (ci := 3) (v := .ref (q (b + 3))) (C := RX3) (T := TX3) (N := 13) hx hb hts inX3 hown hK hP 0 rfl rfl 8 (by decide) (List.mem_of_getElem? (i := 3) rfl) rfl rfl dX3_addPipe_13 ?_
  refine lv_aload_n hx hb dX3_addPipe_16 rfl (lv_at hl 0 rfl) ?_
  refine z_get (ci := 3) (v := .int (N1.1 3)) (C := RX3) (T := TX3) (N := 13) hx hb hts inX3 hown hK hP 0 rfl rfl 3 (by decide) (List.mem_of_getElem? (i := 2) rfl) rfl rfl dX3_addPipe_17 ?_
  refine lv_iload_n hx hb dX3_addPipe_20 rfl (lv_at hl 2 rfl) ?_
  refine z_wgo (wn := NW g q b (sA N1 8 (f6_put 8 (N1.2 8) (N1.1 3) x2))) (va_runSN (As := [.ref (q (b + 3)), .int (N1.1 3), .int x2]) (rest := []) ⟨hx, hb, hml, hown, hts⟩ ((c6_put l g (q (b + 3)) 8 (by decide) (N1.2 8) (N1.1 3) x2) H.size) ⟨va_cnB 3 hts gX3_addPipe_X6_put_n56 rfl rfl rfl (hK.nest 15 rfl) (hts (.initialized RX6) (List.mem_of_getElem? (i := 5) rfl)) (by decide +kernel) ⟨Nat.le_of_ble_eq_true rfl, Nat.le_of_ble_eq_true rfl⟩, hts (.static yX6_put) (List.mem_of_getElem? (i := 4) rfl), trivial⟩ (z_wpre (hP.sub (ws' := [((q (b + 3)), .inl (g.2.2.1, 8, .inl (N1.2 8)))]) [3] rfl) hK (z_any (hD.sub (ws' := [((q (b + 3)), .inl (g.2.2.1, 8, .inl (N1.2 8)))]) [3] (by decide) rfl))) rfl rfl hl.1 rfl (lv_room (Nat.le_of_ble_eq_true rfl)) dX3_addPipe_21 ⟨Nat.zero_le _, Nat.zero_le _⟩) hP hD hS hA [3] rfl (by decide) rfl rfl (fun H locs hP hD hS => ?_)
  show W p l e (headSpec wsX3_addPipe rmX3_addPipe).room s m args below meth c H locs 0 0 (MQ below (zWQ g A (NW g q b N_o) none) args s 0 0 A) (F0 m 24 ls [])
  obtain ⟨N2, eN2⟩ : ∃ y : Mo, y = (sA N1 8 (f6_put 8 (N1.2 8) (N1.1 3) x2)) := ⟨_, rfl⟩
  rw [← eN2] at hP hD
  have hF := bd_eq eN2 hF
  refine lv_aload_n hx hb dX3_addPipe_24 rfl (lv_at hl 0 rfl) ?_
  refine lv_dup hx hb dX3_addPipe_25 rfl ?_
  refine z_get (ci := 3) (v := .int (N2.1 3)) (C := RX3) (T := TX3) (N := 13) hx hb hts inX3 hown hK hP 0 rfl rfl 3 (by decide) (List.mem_of_getElem? (i := 2) rfl) rfl rfl dX3_addPipe_26 ?_
  refine lv_iconst (v := 1) hx hb dX3_addPipe_29 (by decide) ?_
  refine lv_iadd hx hb dX3_addPipe_30 ?_
  refine z_put (ci := 3) (v := .int ((N2.1 3) + 1)) (C := RX3) (T := TX3) (N := 13) (ws' := NW g q b (sI N2 3 ((N2.1 3) + 1))) hx hb hts inX3 tyX3 tyX3_ok nmX3 hown hK hP hD hS 0 rfl rfl 3 (by decide) (List.mem_of_getElem? (i := 2) rfl) rfl rfl rfl rfl (Nat.le_of_ble_eq_true rfl) rfl dX3_addPipe_31 (fun H locs hP hD hS => ?_)
  obtain ⟨N3, eN3⟩ : ∃ y : Mo, y = (sI N2 3 ((N2.1 3) + 1)) := ⟨_, rfl⟩
  rw [← eN3] at hP hD
  have hF := bd_eq eN3 hF
  have e9b := zin hF
  exact z_wv hx hb hr hlk hP hD hS (by rw [e9b]) dX3_addPipe_34
def f3_addWalker (N : Mo) (f : (Nat → Int32)) : Option (Mo) := bd (sA N 9 (f6_put 4 (N.2 9) (N.1 4) (f6_cell 4 f 0))) (fun (N1 : Mo) => bd (sA N1 10 (f6_put 4 (N1.2 10) (N1.1 4) (f6_cell 4 f 1))) (fun (N2 : Mo) => bd (sA N2 11 (f6_put 4 (N2.2 11) (N2.1 4) (f6_cell 4 f 2))) (fun (N3 : Mo) => bd (sA N3 12 (f6_put 4 (N3.2 12) (N3.1 4) (f6_cell 4 f 3))) (fun (N4 : Mo) => bd (sI N4 4 ((N4.1 4) + 1)) (fun (N5 : Mo) => some N5)))))
abbrev rmX3_addWalker : Room := { frames := 1, cells := 0, slots := 0, locals := 22 }
set_option maxHeartbeats 4000000 in
set_option maxRecDepth 100000 in
theorem c3_addWalker (l : Launch) (g : zG) (q : Nat → Nat) (b : Nat) (r : Nat → Nat) (d : Nat) (N : Mo) (f : (Nat → Int32)) (N_o : Mo) (hF : f3_addWalker N f = some N_o) : zRW l g yX3_addWalker wsX3_addWalker rmX3_addWalker [.ref (q b), .ref (r d)] (NW g q b N ++ AW4 g r d f) none (NW g q b N_o ++ AW4 g r d f) := by
  refine zRW_of (cc := cX3_addWalker) (maxL := 2) (ret := none) (by decide) rfl (Nat.le_of_ble_eq_true rfl) ?_
  intro p e s m args below meth c A H locs ls hx hb hr hml hts hown hlk hK hA hP hD hS hl
  have hown : s.vm.findClass RX3 = some m.cls := hown
  have hl : lv_has ls 2 [(0, .ref (q b)), (1, .ref (r d))] := hl
  have inX3 : ∀ w ∈ wsX30, w ∈ wsX3_addWalker := fun _ h => List.mem_cons_of_mem _ (List.mem_append_right _ h)
  unfold f3_addWalker at hF
  refine lv_aload_n hx hb dX3_addWalker_0 rfl (lv_at hl 0 rfl) ?_
  refine z_get (ci := 3) (v := .ref (q (b + 4))) (C := RX3) (T := TX3) (N := 13) hx hb hts inX3 hown hK hP 0 rfl rfl 9 (by decide) (List.mem_of_getElem? (i := 1) rfl) rfl rfl dX3_addWalker_1 ?_
  refine lv_aload_n hx hb dX3_addWalker_4 rfl (lv_at hl 0 rfl) ?_
  refine z_get (ci := 3) (v := .int (N.1 4)) (C := RX3) (T := TX3) (N := 13) hx hb hts inX3 hown hK hP 0 rfl rfl 4 (by decide) (List.mem_of_getElem? (i := 2) rfl) rfl rfl dX3_addWalker_5 ?_
  refine lv_aload_n hx hb dX3_addWalker_8 rfl (lv_at hl 1 rfl) ?_
  refine lv_iconst (v := 0) hx hb dX3_addWalker_9 (by decide) ?_
  refine z_rgo (va_runSN (As := [.ref (r d), .int 0]) (rest := [.int (N.1 4), .ref (q (b + 4))]) ⟨hx, hb, hml, hown, hts⟩ (c6_cell l g (r d) 4 (by decide) f 0) ⟨va_cnB 2 hts gX3_addWalker_X6_cell_n64 rfl rfl rfl (hK.nest 11 rfl) (hts (.initialized RX6) (List.mem_of_getElem? (i := 7) rfl)) (by decide +kernel) ⟨Nat.le_of_ble_eq_true rfl, Nat.le_of_ble_eq_true rfl⟩, hts (.static yX6_cell) (List.mem_of_getElem? (i := 6) rfl), trivial⟩ (z_rpre (hP.sub (ws' := [((r d), .inl (g.2.2.1, 4, .inl f))]) [8] rfl) hK) rfl rfl hl.1 rfl (lv_room (Nat.le_of_ble_eq_true rfl)) dX3_addWalker_10 ⟨Nat.zero_le _, Nat.zero_le _⟩) ?_
  refine z_wgo (wn := (NW g q b (sA N 9 (f6_put 4 (N.2 9) (N.1 4) (f6_cell 4 f 0))) ++ AW4 g r d f)) (va_runSN (As := [.ref (q (b + 4)), .int (N.1 4), .int (f6_cell 4 f 0)]) (rest := []) ⟨hx, hb, hml, hown, hts⟩ ((c6_put l g (q (b + 4)) 4 (by decide) (N.2 9) (N.1 4) (f6_cell 4 f 0)) H.size) ⟨va_cnB 3 hts gX3_addWalker_X6_put_n56 rfl rfl rfl (hK.nest 15 rfl) (hts (.initialized RX6) (List.mem_of_getElem? (i := 7) rfl)) (by decide +kernel) ⟨Nat.le_of_ble_eq_true rfl, Nat.le_of_ble_eq_true rfl⟩, hts (.static yX6_put) (List.mem_of_getElem? (i := 9) rfl), trivial⟩ (z_wpre (hP.sub (ws' := [((q (b + 4)), .inl (g.2.2.1, 4, .inl (N.2 9)))]) [4] rfl) hK (z_any (hD.sub (ws' := [((q (b + 4)), .inl (g.2.2.1, 4, .inl (N.2 9)))]) [4] (by decide) rfl))) rfl rfl hl.1 rfl (lv_room (Nat.le_of_ble_eq_true rfl)) dX3_addWalker_13 ⟨Nat.zero_le _, Nat.zero_le _⟩) hP hD hS hA [4] rfl (by decide) rfl rfl (fun H locs hP hD hS => ?_)
  show W p l e (headSpec wsX3_addWalker rmX3_addWalker).room s m args below meth c H locs 0 0 (MQ below (zWQ g A (NW g q b N_o ++ AW4 g r d f) none) args s 0 0 A) (F0 m 16 ls [])
  obtain ⟨N1, eN1⟩ : ∃ y : Mo, y = (sA N 9 (f6_put 4 (N.2 9) (N.1 4) (f6_cell 4 f 0))) := ⟨_, rfl⟩
  rw [← eN1] at hP hD
  have hF := bd_eq eN1 hF
  refine lv_aload_n hx hb dX3_addWalker_16 rfl (lv_at hl 0 rfl) ?_
  refine z_get (ci := 3) (v := .ref (q (b + 5))) (C := RX3) (T := TX3) (N := 13) hx hb hts inX3 hown hK hP 0 rfl rfl 10 (by decide) (List.mem_of_getElem? (i := 3) rfl) rfl rfl dX3_addWalker_17 ?_
  refine lv_aload_n hx hb dX3_addWalker_20 rfl (lv_at hl 0 rfl) ?_
  refine z_get (ci := 3) (v := .int (N1.1 4)) (C := RX3) (T := TX3) (N := 13) hx hb hts inX3 hown hK hP 0 rfl rfl 4 (by decide) (List.mem_of_getElem? (i := 2) rfl) rfl rfl dX3_addWalker_21 ?_
  refine lv_aload_n hx hb dX3_addWalker_24 rfl (lv_at hl 1 rfl) ?_
  refine lv_iconst (v := 1) hx hb dX3_addWalker_25 (by decide) ?_
  refine z_rgo (va_runSN (As := [.ref (r d), .int 1]) (rest := [.int (N1.1 4), .ref (q (b + 5))]) ⟨hx, hb, hml, hown, hts⟩ (c6_cell l g (r d) 4 (by decide) f 1) ⟨va_cnB 2 hts gX3_addWalker_X6_cell_n64 rfl rfl rfl (hK.nest 11 rfl) (hts (.initialized RX6) (List.mem_of_getElem? (i := 7) rfl)) (by decide +kernel) ⟨Nat.le_of_ble_eq_true rfl, Nat.le_of_ble_eq_true rfl⟩, hts (.static yX6_cell) (List.mem_of_getElem? (i := 6) rfl), trivial⟩ (z_rpre (hP.sub (ws' := [((r d), .inl (g.2.2.1, 4, .inl f))]) [8] rfl) hK) rfl rfl hl.1 rfl (lv_room (Nat.le_of_ble_eq_true rfl)) dX3_addWalker_26 ⟨Nat.zero_le _, Nat.zero_le _⟩) ?_
  refine z_wgo (wn := (NW g q b (sA N1 10 (f6_put 4 (N1.2 10) (N1.1 4) (f6_cell 4 f 1))) ++ AW4 g r d f)) (va_runSN (As := [.ref (q (b + 5)), .int (N1.1 4), .int (f6_cell 4 f 1)]) (rest := []) ⟨hx, hb, hml, hown, hts⟩ ((c6_put l g (q (b + 5)) 4 (by decide) (N1.2 10) (N1.1 4) (f6_cell 4 f 1)) H.size) ⟨va_cnB 3 hts gX3_addWalker_X6_put_n56 rfl rfl rfl (hK.nest 15 rfl) (hts (.initialized RX6) (List.mem_of_getElem? (i := 7) rfl)) (by decide +kernel) ⟨Nat.le_of_ble_eq_true rfl, Nat.le_of_ble_eq_true rfl⟩, hts (.static yX6_put) (List.mem_of_getElem? (i := 9) rfl), trivial⟩ (z_wpre (hP.sub (ws' := [((q (b + 5)), .inl (g.2.2.1, 4, .inl (N1.2 10)))]) [5] rfl) hK (z_any (hD.sub (ws' := [((q (b + 5)), .inl (g.2.2.1, 4, .inl (N1.2 10)))]) [5] (by decide) rfl))) rfl rfl hl.1 rfl (lv_room (Nat.le_of_ble_eq_true rfl)) dX3_addWalker_29 ⟨Nat.zero_le _, Nat.zero_le _⟩) hP hD hS hA [5] rfl (by decide) rfl rfl (fun H locs hP hD hS => ?_)
  show W p l e (headSpec wsX3_addWalker rmX3_addWalker).room s m args below meth c H locs 0 0 (MQ below (zWQ g A (NW g q b N_o ++ AW4 g r d f) none) args s 0 0 A) (F0 m 32 ls [])
  obtain ⟨N2, eN2⟩ : ∃ y : Mo, y = (sA N1 10 (f6_put 4 (N1.2 10) (N1.1 4) (f6_cell 4 f 1))) := ⟨_, rfl⟩
  rw [← eN2] at hP hD
  have hF := bd_eq eN2 hF
  refine lv_aload_n hx hb dX3_addWalker_32 rfl (lv_at hl 0 rfl) ?_
  refine z_get (ci := 3) (v := .ref (q (b + 6))) (C := RX3) (T := TX3) (N := 13) hx hb hts inX3 hown hK hP 0 rfl rfl 11 (by decide) (List.mem_of_getElem? (i := 4) rfl) rfl rfl dX3_addWalker_33 ?_
  refine lv_aload_n hx hb dX3_addWalker_36 rfl (lv_at hl 0 rfl) ?_
  refine z_get (ci := 3) (v := .int (N2.1 4)) (C := RX3) (T := TX3) (N := 13) hx hb hts inX3 hown hK hP 0 rfl rfl 4 (by decide) (List.mem_of_getElem? (i := 2) rfl) rfl rfl dX3_addWalker_37 ?_
  refine lv_aload_n hx hb dX3_addWalker_40 rfl (lv_at hl 1 rfl) ?_
  refine lv_iconst (v := 2) hx hb dX3_addWalker_41 (by decide) ?_
  refine z_rgo (va_runSN (As := [.ref (r d), .int 2]) (rest := [.int (N2.1 4), .ref (q (b + 6))]) ⟨hx, hb, hml, hown, hts⟩ (c6_cell l g (r d) 4 (by decide) f 2) ⟨va_cnB 2 hts gX3_addWalker_X6_cell_n64 rfl rfl rfl (hK.nest 11 rfl) (hts (.initialized RX6) (List.mem_of_getElem? (i := 7) rfl)) (by decide +kernel) ⟨Nat.le_of_ble_eq_true rfl, Nat.le_of_ble_eq_true rfl⟩, hts (.static yX6_cell) (List.mem_of_getElem? (i := 6) rfl), trivial⟩ (z_rpre (hP.sub (ws' := [((r d), .inl (g.2.2.1, 4, .inl f))]) [8] rfl) hK) rfl rfl hl.1 rfl (lv_room (Nat.le_of_ble_eq_true rfl)) dX3_addWalker_42 ⟨Nat.zero_le _, Nat.zero_le _⟩) ?_
  refine z_wgo (wn := (NW g q b (sA N2 11 (f6_put 4 (N2.2 11) (N2.1 4) (f6_cell 4 f 2))) ++ AW4 g r d f)) (va_runSN (As := [.ref (q (b + 6)), .int (N2.1 4), .int (f6_cell 4 f 2)]) (rest := []) ⟨hx, hb, hml, hown, hts⟩ ((c6_put l g (q (b + 6)) 4 (by decide) (N2.2 11) (N2.1 4) (f6_cell 4 f 2)) H.size) ⟨va_cnB 3 hts gX3_addWalker_X6_put_n56 rfl rfl rfl (hK.nest 15 rfl) (hts (.initialized RX6) (List.mem_of_getElem? (i := 7) rfl)) (by decide +kernel) ⟨Nat.le_of_ble_eq_true rfl, Nat.le_of_ble_eq_true rfl⟩, hts (.static yX6_put) (List.mem_of_getElem? (i := 9) rfl), trivial⟩ (z_wpre (hP.sub (ws' := [((q (b + 6)), .inl (g.2.2.1, 4, .inl (N2.2 11)))]) [6] rfl) hK (z_any (hD.sub (ws' := [((q (b + 6)), .inl (g.2.2.1, 4, .inl (N2.2 11)))]) [6] (by decide) rfl))) rfl rfl hl.1 rfl (lv_room (Nat.le_of_ble_eq_true rfl)) dX3_addWalker_45 ⟨Nat.zero_le _, Nat.zero_le _⟩) hP hD hS hA [6] rfl (by decide) rfl rfl (fun H locs hP hD hS => ?_)
  show W p l e (headSpec wsX3_addWalker rmX3_addWalker).room s m args below meth c H locs 0 0 (MQ below (zWQ g A (NW g q b N_o ++ AW4 g r d f) none) args s 0 0 A) (F0 m 48 ls [])
  obtain ⟨N3, eN3⟩ : ∃ y : Mo, y = (sA N2 11 (f6_put 4 (N2.2 11) (N2.1 4) (f6_cell 4 f 2))) := ⟨_, rfl⟩
  rw [← eN3] at hP hD
  have hF := bd_eq eN3 hF
  refine lv_aload_n hx hb dX3_addWalker_48 rfl (lv_at hl 0 rfl) ?_
  refine z_get (ci := 3) (v := .ref (q (b + 7))) (C := RX3) (T := TX3) (N := 13) hx hb hts inX3 hown hK hP 0 rfl rfl 12 (by decide) (List.mem_of_getElem? (i := 5) rfl) rfl rfl dX3_addWalker_49 ?_
  refine lv_aload_n hx hb dX3_addWalker_52 rfl (lv_at hl 0 rfl) ?_
  refine z_get (ci := 3) (v := .int (N3.1 4)) (C := RX3) (T := TX3) (N := 13) hx hb hts inX3 hown hK hP 0 rfl rfl 4 (by decide) (List.mem_of_getElem? (i := 2) rfl) rfl rfl dX3_addWalker_53 ?_
  refine lv_aload_n hx hb dX3_addWalker_56 rfl (lv_at hl 1 rfl) ?_
  refine lv_iconst (v := 3) hx hb dX3_addWalker_57 (by decide) ?_
  refine z_rgo (va_runSN (As := [.ref (r d), .int 3]) (rest := [.int (N3.1 4), .ref (q (b + 7))]) ⟨hx, hb, hml, hown, hts⟩ (c6_cell l g (r d) 4 (by decide) f 3) ⟨va_cnB 2 hts gX3_addWalker_X6_cell_n64 rfl rfl rfl (hK.nest 11 rfl) (hts (.initialized RX6) (List.mem_of_getElem? (i := 7) rfl)) (by decide +kernel) ⟨Nat.le_of_ble_eq_true rfl, Nat.le_of_ble_eq_true rfl⟩, hts (.static yX6_cell) (List.mem_of_getElem? (i := 6) rfl), trivial⟩ (z_rpre (hP.sub (ws' := [((r d), .inl (g.2.2.1, 4, .inl f))]) [8] rfl) hK) rfl rfl hl.1 rfl (lv_room (Nat.le_of_ble_eq_true rfl)) dX3_addWalker_58 ⟨Nat.zero_le _, Nat.zero_le _⟩) ?_
  refine z_wgo (wn := (NW g q b (sA N3 12 (f6_put 4 (N3.2 12) (N3.1 4) (f6_cell 4 f 3))) ++ AW4 g r d f)) (va_runSN (As := [.ref (q (b + 7)), .int (N3.1 4), .int (f6_cell 4 f 3)]) (rest := []) ⟨hx, hb, hml, hown, hts⟩ ((c6_put l g (q (b + 7)) 4 (by decide) (N3.2 12) (N3.1 4) (f6_cell 4 f 3)) H.size) ⟨va_cnB 3 hts gX3_addWalker_X6_put_n56 rfl rfl rfl (hK.nest 15 rfl) (hts (.initialized RX6) (List.mem_of_getElem? (i := 7) rfl)) (by decide +kernel) ⟨Nat.le_of_ble_eq_true rfl, Nat.le_of_ble_eq_true rfl⟩, hts (.static yX6_put) (List.mem_of_getElem? (i := 9) rfl), trivial⟩ (z_wpre (hP.sub (ws' := [((q (b + 7)), .inl (g.2.2.1, 4, .inl (N3.2 12)))]) [7] rfl) hK (z_any (hD.sub (ws' := [((q (b + 7)), .inl (g.2.2.1, 4, .inl (N3.2 12)))]) [7] (by decide) rfl))) rfl rfl hl.1 rfl (lv_room (Nat.le_of_ble_eq_true rfl)) dX3_addWalker_61 ⟨Nat.zero_le _, Nat.zero_le _⟩) hP hD hS hA [7] rfl (by decide) rfl rfl (fun H locs hP hD hS => ?_)
  show W p l e (headSpec wsX3_addWalker rmX3_addWalker).room s m args below meth c H locs 0 0 (MQ below (zWQ g A (NW g q b N_o ++ AW4 g r d f) none) args s 0 0 A) (F0 m 64 ls [])
  obtain ⟨N4, eN4⟩ : ∃ y : Mo, y = (sA N3 12 (f6_put 4 (N3.2 12) (N3.1 4) (f6_cell 4 f 3))) := ⟨_, rfl⟩
  rw [← eN4] at hP hD
  have hF := bd_eq eN4 hF
  refine lv_aload_n hx hb dX3_addWalker_64 rfl (lv_at hl 0 rfl) ?_
  refine lv_dup hx hb dX3_addWalker_65 rfl ?_
  refine z_get (ci := 3) (v := .int (N4.1 4)) (C := RX3) (T := TX3) (N := 13) hx hb hts inX3 hown hK hP 0 rfl rfl 4 (by decide) (List.mem_of_getElem? (i := 2) rfl) rfl rfl dX3_addWalker_66 ?_
  refine lv_iconst (v := 1) hx hb dX3_addWalker_69 (by decide) ?_
  refine lv_iadd hx hb dX3_addWalker_70 ?_
  refine z_put (ci := 3) (v := .int ((N4.1 4) + 1)) (C := RX3) (T := TX3) (N := 13) (ws' := (NW g q b (sI N4 4 ((N4.1 4) + 1)) ++ AW4 g r d f)) hx hb hts inX3 tyX3 tyX3_ok nmX3 hown hK hP hD hS 0 rfl rfl 4 (by decide) (List.mem_of_getElem? (i := 2) rfl) rfl rfl rfl rfl (Nat.le_of_ble_eq_true rfl) rfl dX3_addWalker_71 (fun H locs hP hD hS => ?_)
  obtain ⟨N5, eN5⟩ : ∃ y : Mo, y = (sI N4 4 ((N4.1 4) + 1)) := ⟨_, rfl⟩
  rw [← eN5] at hP hD
  have hF := bd_eq eN5 hF
  have e9b := zin hF
  exact z_wv hx hb hr hlk hP hD hS (by rw [e9b]) dX3_addWalker_74
def f3_besideAny_l5 (x1 : Int32) (x2 : Int32) (N : Mo) : Nat → Int32 → Int32 → Option (Int32)
  | 0, _, _ => none
  | n5 + 1, y1, y2 => if (N.1 2) ≤ y2 then some y1 else if (f6_has x1 y2) = 0 then f3_besideAny_l5 x1 x2 N n5 y1 (y2 + 1) else (f3_beside N y2 x2).bind fun v5 => bd (α := Int32) (y1 ||| v5) (fun (v6 : Int32) => f3_besideAny_l5 x1 x2 N n5 v6 (y2 + 1))
def f3_besideAny (N : Mo) (x1 : Int32) (x2 : Int32) : Option (Int32) := f3_besideAny_l5 x1 x2 N FU 0 0
abbrev rmX3_besideAny : Room := { frames := 2, cells := 0, slots := 0, locals := 47 }
set_option maxHeartbeats 4000000 in
set_option maxRecDepth 100000 in
theorem c3_besideAny (l : Launch) (g : zG) (q : Nat → Nat) (b : Nat) (N : Mo) (x1 : Int32) (x2 : Int32) (ro : Int32) (hF : f3_besideAny N x1 x2 = some ro) : zRO l g yX3_besideAny wsX3_besideAny rmX3_besideAny [.ref (q b), .int x1, .int x2] (NW g q b N) (some (.int ro)) := by
  refine zRO_of (cc := cX3_besideAny) (maxL := 5) (ret := (some .int)) (by decide) rfl (Nat.le_of_ble_eq_true rfl) ?_
  intro p e s m args below meth c ls hx hb hr hml hts hown hlk hK hP hl
  have hown : s.vm.findClass RX3 = some m.cls := hown
  have hl : lv_has ls 5 [(0, .ref (q b)), (1, .int x1), (2, .int x2)] := hl
  have inX3 : ∀ w ∈ wsX30, w ∈ wsX3_besideAny := fun _ h => List.mem_cons_of_mem _ (List.mem_append_right _ h)
  unfold f3_besideAny at hF
  refine lv_iconst (v := 0) hx hb dX3_besideAny_0 (by decide) ?_
  refine lv_istore_n (lv' := [(3, .int 0), (0, .ref (q b)), (1, .int x1), (2, .int x2)]) hx hb dX3_besideAny_1 rfl hl (by decide) rfl (fun ls hl => ?_)
  refine lv_iconst (v := 0) hx hb dX3_besideAny_2 (by decide) ?_
  refine lv_istore (lv' := [(4, .int 0), (3, .int 0), (0, .ref (q b)), (1, .int x1), (2, .int x2)]) hx hb dX3_besideAny_3 hl (by decide) rfl (fun ls hl => ?_)
  have L5 : ∀ (n5 : Nat) (y1 : Int32) (y2 : Int32) (ls : Array Slot), f3_besideAny_l5 x1 x2 N n5 y1 y2 = some ro → lv_has ls 5 [(0, .ref (q b)), (1, .int x1), (2, .int x2), (3, .int y1), (4, .int y2)] → W p l e (headSpec wsX3_besideAny rmX3_besideAny).room s m args below meth c s.heap [] 0 0 (MQ below (zRQ (some (.int ro))) args s 0 0 (fun _ => False)) (F0 m 5 ls []) := by
    intro n5
    induction n5 with
    | zero =>
      intro y1 y2 ls hF hl
      exact absurd (show (none : Option (Int32)) = some _ from hF) (fun h9 => by cases h9)
    | succ n5 ih5 =>
      intro y1 y2 ls hF hl
      rw [f3_besideAny_l5] at hF
      refine lv_iload hx hb dX3_besideAny_5 (lv_at hl 4 rfl) ?_
      refine lv_aload_n hx hb dX3_besideAny_7 rfl (lv_at hl 0 rfl) ?_
      refine z_get (ci := 3) (v := .int (N.1 2)) (C := RX3) (T := TX3) (N := 13) hx hb hts inX3 hown hK hP 0 rfl rfl 2 (by decide) (List.mem_of_getElem? (i := 1) rfl) rfl rfl dX3_besideAny_8 ?_
      refine lv_icmp_ge (tgt := 39) hx hb dX3_besideAny_11 (by decide) (fun c3 => ?_) (fun c3 => ?_)
      · have hF := zit c3 hF
        refine lv_iload_n hx hb dX3_besideAny_39 rfl (lv_at hl 3 rfl) ?_
        have e9a := zin hF
        exact z_ri hx hb hr hlk (congrArg (fun z => some (Value.int z)) e9a) dX3_besideAny_40
      · have hF := zif c3 hF
        refine lv_iload_n hx hb dX3_besideAny_14 rfl (lv_at hl 1 rfl) ?_
        refine lv_iload hx hb dX3_besideAny_15 (lv_at hl 4 rfl) ?_
        refine z_rgo (va_runSN (As := [.int x1, .int y2]) (rest := []) ⟨hx, hb, hml, hown, hts⟩ (c6_has l g   x1 y2) ⟨va_cnB 2 hts gX3_besideAny_X6_has_n75 rfl rfl rfl (hK.nest 10 rfl) (hts (.initialized RX6) (List.mem_of_getElem? (i := 3) rfl)) (by decide +kernel) ⟨Nat.le_of_ble_eq_true rfl, Nat.le_of_ble_eq_true rfl⟩, hts (.static yX6_has) (List.mem_of_getElem? (i := 2) rfl), trivial⟩ (z_rpre z_nil hK) rfl rfl hl.1 rfl (lv_room (Nat.le_of_ble_eq_true rfl)) dX3_besideAny_17 ⟨Nat.zero_le _, Nat.zero_le _⟩) ?_
        refine lv_if_eq (tgt := 33) hx hb dX3_besideAny_20 (by decide) (fun c4 => ?_) (fun c4 => ?_)
        · have hF := zit c4 hF
          refine lv_iinc (v := (y2 + 1)) (lv' := [(4, .int (y2 + 1)), (0, .ref (q b)), (1, .int x1), (2, .int x2), (3, .int y1)]) hx hb dX3_besideAny_33 hl (k := 4) rfl rfl (by decide) rfl (fun ls hl => ?_)
          refine lv_goto (tgt := 5) hx hb dX3_besideAny_36 (by decide) ?_
          exact ih5 y1 (y2 + 1) ls hF (lv_sub hl [1, 2, 3, 4, 0] rfl)
        · have hF := zif c4 hF
          refine lv_iload_n hx hb dX3_besideAny_23 rfl (lv_at hl 3 rfl) ?_
          refine lv_aload_n hx hb dX3_besideAny_24 rfl (lv_at hl 0 rfl) ?_
          refine lv_iload hx hb dX3_besideAny_25 (lv_at hl 4 rfl) ?_
          refine lv_iload_n hx hb dX3_besideAny_27 rfl (lv_at hl 2 rfl) ?_
          obtain ⟨v5, hv5, hF⟩ := zob hF
          refine z_rgo (va_runV (As := [.int y2, .int x2]) (rest := [.int y1]) ⟨hx, hb, hml, hown, hts⟩ (c3_beside l g q b N y2 x2 v5 hv5) (cwV 2 hts gX3_besideAny_X3_beside rfl rfl rfl (by decide +kernel) ⟨Nat.le_of_ble_eq_true rfl, Nat.le_of_ble_eq_true rfl⟩) (z_rpreV (ci := 3) (q := (RX3, TX3, 13)) (q0 := 0) hP hK rfl rfl) rfl rfl hl.1 rfl (lv_room (Nat.le_of_ble_eq_true rfl)) dX3_besideAny_28 ⟨Nat.zero_le _, Nat.zero_le _⟩) ?_
          refine lv_ior hx hb dX3_besideAny_31 ?_
          refine lv_topi (fun v6 ev6 => ?_)
          have hF := bd_eq ev6 hF
          refine lv_istore_n (lv' := [(3, .int v6), (0, .ref (q b)), (1, .int x1), (2, .int x2), (4, .int y2)]) hx hb dX3_besideAny_32 rfl hl (by decide) rfl (fun ls hl => ?_)
          refine lv_iinc (v := (y2 + 1)) (lv' := [(4, .int (y2 + 1)), (3, .int v6), (0, .ref (q b)), (1, .int x1), (2, .int x2)]) hx hb dX3_besideAny_33 hl (k := 4) rfl rfl (by decide) rfl (fun ls hl => ?_)
          refine lv_goto (tgt := 5) hx hb dX3_besideAny_36 (by decide) ?_
          exact ih5 v6 (y2 + 1) ls hF (lv_sub hl [2, 3, 4, 1, 0] rfl)
  exact L5 FU 0 0 ls hF (lv_sub hl [2, 3, 4, 1, 0] rfl)
def f3_setTides (N : Mo) (x1 : Int32) (x2 : Int32) : Option (Mo) := bd (sI N 0 x1) (fun (N1 : Mo) => bd (sI N1 1 x2) (fun (N2 : Mo) => some N2))
abbrev rmX3_setTides : Room := { frames := 0, cells := 0, slots := 0, locals := 0 }
set_option maxHeartbeats 4000000 in
set_option maxRecDepth 100000 in
theorem c3_setTides (l : Launch) (g : zG) (q : Nat → Nat) (b : Nat) (N : Mo) (x1 : Int32) (x2 : Int32) (N_o : Mo) (hF : f3_setTides N x1 x2 = some N_o) : zRW l g yX3_setTides wsX3_setTides rmX3_setTides [.ref (q b), .int x1, .int x2] (NW g q b N) none (NW g q b N_o) := by
  refine zRW_of (cc := cX3_setTides) (maxL := 3) (ret := none) (by decide) rfl (Nat.le_of_ble_eq_true rfl) ?_
  intro p e s m args below meth c A H locs ls hx hb hr hml hts hown hlk hK hA hP hD hS hl
  have hown : s.vm.findClass RX3 = some m.cls := hown
  have hl : lv_has ls 3 [(0, .ref (q b)), (1, .int x1), (2, .int x2)] := hl
  have inX3 : ∀ w ∈ wsX30, w ∈ wsX3_setTides := fun _ h => List.mem_cons_of_mem _ (List.mem_append_right _ h)
  unfold f3_setTides at hF
  refine lv_aload_n hx hb dX3_setTides_0 rfl (lv_at hl 0 rfl) ?_
  refine lv_iload_n hx hb dX3_setTides_1 rfl (lv_at hl 1 rfl) ?_
  refine z_put (ci := 3) (v := .int x1) (C := RX3) (T := TX3) (N := 13) (ws' := NW g q b (sI N 0 x1)) hx hb hts inX3 tyX3 tyX3_ok nmX3 hown hK hP hD hS 0 rfl rfl 0 (by decide) (List.mem_of_getElem? (i := 1) rfl) rfl rfl rfl rfl (Nat.le_of_ble_eq_true rfl) rfl dX3_setTides_2 (fun H locs hP hD hS => ?_)
  obtain ⟨N1, eN1⟩ : ∃ y : Mo, y = (sI N 0 x1) := ⟨_, rfl⟩
  rw [← eN1] at hP hD
  have hF := bd_eq eN1 hF
  refine lv_aload_n hx hb dX3_setTides_5 rfl (lv_at hl 0 rfl) ?_
  refine lv_iload_n hx hb dX3_setTides_6 rfl (lv_at hl 2 rfl) ?_
  refine z_put (ci := 3) (v := .int x2) (C := RX3) (T := TX3) (N := 13) (ws' := NW g q b (sI N1 1 x2)) hx hb hts inX3 tyX3 tyX3_ok nmX3 hown hK hP hD hS 0 rfl rfl 1 (by decide) (List.mem_of_getElem? (i := 2) rfl) rfl rfl rfl rfl (Nat.le_of_ble_eq_true rfl) rfl dX3_setTides_7 (fun H locs hP hD hS => ?_)
  obtain ⟨N2, eN2⟩ : ∃ y : Mo, y = (sI N1 1 x2) := ⟨_, rfl⟩
  rw [← eN2] at hP hD
  have hF := bd_eq eN2 hF
  have e9b := zin hF
  exact z_wv hx hb hr hlk hP hD hS (by rw [e9b]) dX3_setTides_10
def f3_clear (N : Mo) : Option (Mo) := (f3_setTides N 0 0).bind fun N1 => bd (sI N1 2 0) (fun (N2 : Mo) => bd (sI N2 3 0) (fun (N3 : Mo) => bd (sI N3 4 0) (fun (N4 : Mo) => bd (sI N4 5 0) (fun (N5 : Mo) => some N5))))
abbrev rmX3_clear : Room := { frames := 1, cells := 0, slots := 0, locals := 22 }
set_option maxHeartbeats 4000000 in
set_option maxRecDepth 100000 in
theorem c3_clear (l : Launch) (g : zG) (q : Nat → Nat) (b : Nat) (N : Mo) (N_o : Mo) (hF : f3_clear N = some N_o) : zRW l g yX3_clear wsX3_clear rmX3_clear [.ref (q b)] (NW g q b N) none (NW g q b N_o) := by
  refine zRW_of (cc := cX3_clear) (maxL := 1) (ret := none) (by decide) rfl (Nat.le_of_ble_eq_true rfl) ?_
  intro p e s m args below meth c A H locs ls hx hb hr hml hts hown hlk hK hA hP hD hS hl
  have hown : s.vm.findClass RX3 = some m.cls := hown
  have hl : lv_has ls 1 [(0, .ref (q b))] := hl
  have inX3 : ∀ w ∈ wsX30, w ∈ wsX3_clear := fun _ h => List.mem_cons_of_mem _ (List.mem_append_right _ h)
  unfold f3_clear at hF
  refine lv_aload_n hx hb dX3_clear_0 rfl (lv_at hl 0 rfl) ?_
  refine lv_iconst (v := 0) hx hb dX3_clear_1 (by decide) ?_
  refine lv_iconst (v := 0) hx hb dX3_clear_2 (by decide) ?_
  obtain ⟨N1, hN1, hF⟩ := zob hF
  refine z_wgoW (va_runV (As := [.int 0, .int 0]) (rest := []) ⟨hx, hb, hml, hown, hts⟩ ((c3_setTides l g q b N 0 0  N1 hN1) H.size) (cwV 2 hts gX3_clear_X3_setTides rfl rfl rfl (by decide +kernel) ⟨Nat.le_of_ble_eq_true rfl, Nat.le_of_ble_eq_true rfl⟩) (z_wpreV (ci := 3) (q := (RX3, TX3, 13)) (q0 := 0) hP hK (z_any hD) rfl rfl) rfl rfl hl.1 rfl (lv_room (Nat.le_of_ble_eq_true rfl)) dX3_clear_3 ⟨Nat.zero_le _, Nat.zero_le _⟩) hP hD hS hA (fun H locs hP hD hS => ?_)
  show W p l e (headSpec wsX3_clear rmX3_clear).room s m args below meth c H locs 0 0 (MQ below (zWQ g A (NW g q b N_o) none) args s 0 0 A) (F0 m 6 ls [])
  refine lv_aload_n hx hb dX3_clear_6 rfl (lv_at hl 0 rfl) ?_
  refine lv_iconst (v := 0) hx hb dX3_clear_7 (by decide) ?_
  refine z_put (ci := 3) (v := .int 0) (C := RX3) (T := TX3) (N := 13) (ws' := NW g q b (sI N1 2 0)) hx hb hts inX3 tyX3 tyX3_ok nmX3 hown hK hP hD hS 0 rfl rfl 2 (by decide) (List.mem_of_getElem? (i := 1) rfl) rfl rfl rfl rfl (Nat.le_of_ble_eq_true rfl) rfl dX3_clear_8 (fun H locs hP hD hS => ?_)
  obtain ⟨N2, eN2⟩ : ∃ y : Mo, y = (sI N1 2 0) := ⟨_, rfl⟩
  rw [← eN2] at hP hD
  have hF := bd_eq eN2 hF
  refine lv_aload_n hx hb dX3_clear_11 rfl (lv_at hl 0 rfl) ?_
  refine lv_iconst (v := 0) hx hb dX3_clear_12 (by decide) ?_
  refine z_put (ci := 3) (v := .int 0) (C := RX3) (T := TX3) (N := 13) (ws' := NW g q b (sI N2 3 0)) hx hb hts inX3 tyX3 tyX3_ok nmX3 hown hK hP hD hS 0 rfl rfl 3 (by decide) (List.mem_of_getElem? (i := 2) rfl) rfl rfl rfl rfl (Nat.le_of_ble_eq_true rfl) rfl dX3_clear_13 (fun H locs hP hD hS => ?_)
  obtain ⟨N3, eN3⟩ : ∃ y : Mo, y = (sI N2 3 0) := ⟨_, rfl⟩
  rw [← eN3] at hP hD
  have hF := bd_eq eN3 hF
  refine lv_aload_n hx hb dX3_clear_16 rfl (lv_at hl 0 rfl) ?_
  refine lv_iconst (v := 0) hx hb dX3_clear_17 (by decide) ?_
  refine z_put (ci := 3) (v := .int 0) (C := RX3) (T := TX3) (N := 13) (ws' := NW g q b (sI N3 4 0)) hx hb hts inX3 tyX3 tyX3_ok nmX3 hown hK hP hD hS 0 rfl rfl 4 (by decide) (List.mem_of_getElem? (i := 3) rfl) rfl rfl rfl rfl (Nat.le_of_ble_eq_true rfl) rfl dX3_clear_18 (fun H locs hP hD hS => ?_)
  obtain ⟨N4, eN4⟩ : ∃ y : Mo, y = (sI N3 4 0) := ⟨_, rfl⟩
  rw [← eN4] at hP hD
  have hF := bd_eq eN4 hF
  refine lv_aload_n hx hb dX3_clear_21 rfl (lv_at hl 0 rfl) ?_
  refine lv_iconst (v := 0) hx hb dX3_clear_22 (by decide) ?_
  refine z_put (ci := 3) (v := .int 0) (C := RX3) (T := TX3) (N := 13) (ws' := NW g q b (sI N4 5 0)) hx hb hts inX3 tyX3 tyX3_ok nmX3 hown hK hP hD hS 0 rfl rfl 5 (by decide) (List.mem_of_getElem? (i := 4) rfl) rfl rfl rfl rfl (Nat.le_of_ble_eq_true rfl) rfl dX3_clear_23 (fun H locs hP hD hS => ?_)
  obtain ⟨N5, eN5⟩ : ∃ y : Mo, y = (sI N4 5 0) := ⟨_, rfl⟩
  rw [← eN5] at hP hD
  have hF := bd_eq eN5 hF
  have e9b := zin hF
  exact z_wv hx hb hr hlk hP hD hS (by rw [e9b]) dX3_clear_26
def f3_hasRoomForPipe (N : Mo) : Int32 := if 8 ≤ (N.1 3) then 0 else if ((N.1 2) * ((N.1 2) - 1)) ≤ (2 * (N.1 3)) then 0 else 1
abbrev rmX3_hasRoomForPipe : Room := { frames := 0, cells := 0, slots := 0, locals := 0 }
set_option maxHeartbeats 4000000 in
set_option maxRecDepth 100000 in
theorem c3_hasRoomForPipe (l : Launch) (g : zG) (q : Nat → Nat) (b : Nat) (N : Mo) : zRO l g yX3_hasRoomForPipe wsX3_hasRoomForPipe rmX3_hasRoomForPipe [.ref (q b)] (NW g q b N) (some (.int (f3_hasRoomForPipe N))) := by
  obtain ⟨ro, hF⟩ : ∃ y : Int32, f3_hasRoomForPipe N = y := ⟨_, rfl⟩
  rw [hF]
  refine zRO_of (cc := cX3_hasRoomForPipe) (maxL := 1) (ret := (some .boolean)) (by decide) rfl (Nat.le_of_ble_eq_true rfl) ?_
  intro p e s m args below meth c ls hx hb hr hml hts hown hlk hK hP hl
  have hown : s.vm.findClass RX3 = some m.cls := hown
  have hl : lv_has ls 1 [(0, .ref (q b))] := hl
  have inX3 : ∀ w ∈ wsX30, w ∈ wsX3_hasRoomForPipe := fun _ h => List.mem_cons_of_mem _ (List.mem_append_right _ h)
  unfold f3_hasRoomForPipe at hF
  refine lv_aload_n hx hb dX3_hasRoomForPipe_0 rfl (lv_at hl 0 rfl) ?_
  refine z_get (ci := 3) (v := .int (N.1 3)) (C := RX3) (T := TX3) (N := 13) hx hb hts inX3 hown hK hP 0 rfl rfl 3 (by decide) (List.mem_of_getElem? (i := 1) rfl) rfl rfl dX3_hasRoomForPipe_1 ?_
  refine lv_bipush (v := 8) hx hb dX3_hasRoomForPipe_4 (by decide) ?_
  refine lv_icmp_ge (tgt := 33) hx hb dX3_hasRoomForPipe_6 (by decide) (fun c1 => ?_) (fun c1 => ?_)
  · have hF := zit c1 hF
    refine lv_iconst (v := 0) hx hb dX3_hasRoomForPipe_33 (by decide) ?_
    exact z_rz hx hb hr hlk rfl (congrArg (fun z => some (Value.int z)) hF) dX3_hasRoomForPipe_34
  · have hF := zif c1 hF
    refine lv_iconst (v := 2) hx hb dX3_hasRoomForPipe_9 (by decide) ?_
    refine lv_aload_n hx hb dX3_hasRoomForPipe_10 rfl (lv_at hl 0 rfl) ?_
    refine z_get (ci := 3) (v := .int (N.1 3)) (C := RX3) (T := TX3) (N := 13) hx hb hts inX3 hown hK hP 0 rfl rfl 3 (by decide) (List.mem_of_getElem? (i := 1) rfl) rfl rfl dX3_hasRoomForPipe_11 ?_
    refine lv_imul hx hb dX3_hasRoomForPipe_14 ?_
    refine lv_aload_n hx hb dX3_hasRoomForPipe_15 rfl (lv_at hl 0 rfl) ?_
    refine z_get (ci := 3) (v := .int (N.1 2)) (C := RX3) (T := TX3) (N := 13) hx hb hts inX3 hown hK hP 0 rfl rfl 2 (by decide) (List.mem_of_getElem? (i := 2) rfl) rfl rfl dX3_hasRoomForPipe_16 ?_
    refine lv_aload_n hx hb dX3_hasRoomForPipe_19 rfl (lv_at hl 0 rfl) ?_
    refine z_get (ci := 3) (v := .int (N.1 2)) (C := RX3) (T := TX3) (N := 13) hx hb hts inX3 hown hK hP 0 rfl rfl 2 (by decide) (List.mem_of_getElem? (i := 2) rfl) rfl rfl dX3_hasRoomForPipe_20 ?_
    refine lv_iconst (v := 1) hx hb dX3_hasRoomForPipe_23 (by decide) ?_
    refine lv_isub hx hb dX3_hasRoomForPipe_24 ?_
    refine lv_imul hx hb dX3_hasRoomForPipe_25 ?_
    refine lv_icmp_ge (tgt := 33) hx hb dX3_hasRoomForPipe_26 (by decide) (fun c2 => ?_) (fun c2 => ?_)
    · have hF := zit c2 hF
      refine lv_iconst (v := 0) hx hb dX3_hasRoomForPipe_33 (by decide) ?_
      exact z_rz hx hb hr hlk rfl (congrArg (fun z => some (Value.int z)) hF) dX3_hasRoomForPipe_34
    · have hF := zif c2 hF
      refine lv_iconst (v := 1) hx hb dX3_hasRoomForPipe_29 (by decide) ?_
      refine lv_goto (tgt := 34) hx hb dX3_hasRoomForPipe_30 (by decide) ?_
      exact z_rz hx hb hr hlk rfl (congrArg (fun z => some (Value.int z)) hF) dX3_hasRoomForPipe_34
theorem b3_hasRoomForPipe (N : Mo) : narrow .boolean (.int (f3_hasRoomForPipe N)) = .int (f3_hasRoomForPipe N) := by
  unfold f3_hasRoomForPipe
  repeat' split
  all_goals first | rfl | exact rfl
def f3_joinable (N : Mo) (x1 : Int32) : Option (Int32) := if x1 < 0 then some 0 else if x1 < (N.1 2) then (f3_beside N x1 (f6_all (N.1 3))).bind fun v3 => some (((f6_all (N.1 2)) &&& ((f6_bit x1) ^^^ (-1))) &&& (v3 ^^^ (-1))) else some 0
abbrev rmX3_joinable : Room := { frames := 2, cells := 0, slots := 0, locals := 47 }
set_option maxHeartbeats 4000000 in
set_option maxRecDepth 100000 in
theorem c3_joinable (l : Launch) (g : zG) (q : Nat → Nat) (b : Nat) (N : Mo) (x1 : Int32) (ro : Int32) (hF : f3_joinable N x1 = some ro) : zRO l g yX3_joinable wsX3_joinable rmX3_joinable [.ref (q b), .int x1] (NW g q b N) (some (.int ro)) := by
  refine zRO_of (cc := cX3_joinable) (maxL := 2) (ret := (some .int)) (by decide) rfl (Nat.le_of_ble_eq_true rfl) ?_
  intro p e s m args below meth c ls hx hb hr hml hts hown hlk hK hP hl
  have hown : s.vm.findClass RX3 = some m.cls := hown
  have hl : lv_has ls 2 [(0, .ref (q b)), (1, .int x1)] := hl
  have inX3 : ∀ w ∈ wsX30, w ∈ wsX3_joinable := fun _ h => List.mem_cons_of_mem _ (List.mem_append_right _ h)
  unfold f3_joinable at hF
  refine lv_iload_n hx hb dX3_joinable_0 rfl (lv_at hl 1 rfl) ?_
  refine lv_if_lt (tgt := 12) hx hb dX3_joinable_1 (by decide) (fun c1 => ?_) (fun c1 => ?_)
  · have hF := zit c1 hF
    refine lv_iconst (v := 0) hx hb dX3_joinable_12 (by decide) ?_
    have e9a := zin hF
    exact z_ri hx hb hr hlk (congrArg (fun z => some (Value.int z)) e9a) dX3_joinable_13
  · have hF := zif c1 hF
    refine lv_iload_n hx hb dX3_joinable_4 rfl (lv_at hl 1 rfl) ?_
    refine lv_aload_n hx hb dX3_joinable_5 rfl (lv_at hl 0 rfl) ?_
    refine z_get (ci := 3) (v := .int (N.1 2)) (C := RX3) (T := TX3) (N := 13) hx hb hts inX3 hown hK hP 0 rfl rfl 2 (by decide) (List.mem_of_getElem? (i := 1) rfl) rfl rfl dX3_joinable_6 ?_
    refine lv_icmp_lt (tgt := 14) hx hb dX3_joinable_9 (by decide) (fun c2 => ?_) (fun c2 => ?_)
    · have hF := zit c2 hF
      refine lv_aload_n hx hb dX3_joinable_14 rfl (lv_at hl 0 rfl) ?_
      refine z_get (ci := 3) (v := .int (N.1 2)) (C := RX3) (T := TX3) (N := 13) hx hb hts inX3 hown hK hP 0 rfl rfl 2 (by decide) (List.mem_of_getElem? (i := 1) rfl) rfl rfl dX3_joinable_15 ?_
      refine z_rgo (va_runSN (As := [.int (N.1 2)]) (rest := []) ⟨hx, hb, hml, hown, hts⟩ (c6_all l g   (N.1 2)) ⟨va_cnB 1 hts gX3_joinable_X6_all_n68 rfl rfl rfl (hK.nest 8 rfl) (hts (.initialized RX6) (List.mem_of_getElem? (i := 4) rfl)) (by decide +kernel) ⟨Nat.le_of_ble_eq_true rfl, Nat.le_of_ble_eq_true rfl⟩, hts (.static yX6_all) (List.mem_of_getElem? (i := 3) rfl), trivial⟩ (z_rpre z_nil hK) rfl rfl hl.1 rfl (lv_room (Nat.le_of_ble_eq_true rfl)) dX3_joinable_18 ⟨Nat.zero_le _, Nat.zero_le _⟩) ?_
      refine lv_iload_n hx hb dX3_joinable_21 rfl (lv_at hl 1 rfl) ?_
      refine z_rgo (va_runSN (As := [.int x1]) (rest := [.int (f6_all (N.1 2))]) ⟨hx, hb, hml, hown, hts⟩ (c6_bit l g   x1) ⟨va_cnB 1 hts gX3_joinable_X6_bit_n60 rfl rfl rfl (hK.nest 9 rfl) (hts (.initialized RX6) (List.mem_of_getElem? (i := 4) rfl)) (by decide +kernel) ⟨Nat.le_of_ble_eq_true rfl, Nat.le_of_ble_eq_true rfl⟩, hts (.static yX6_bit) (List.mem_of_getElem? (i := 7) rfl), trivial⟩ (z_rpre z_nil hK) rfl rfl hl.1 rfl (lv_room (Nat.le_of_ble_eq_true rfl)) dX3_joinable_22 ⟨Nat.zero_le _, Nat.zero_le _⟩) ?_
      refine lv_iconst (v := (-1)) hx hb dX3_joinable_25 (by decide) ?_
      refine lv_ixor hx hb dX3_joinable_26 ?_
      refine lv_iand hx hb dX3_joinable_27 ?_
      refine lv_aload_n hx hb dX3_joinable_28 rfl (lv_at hl 0 rfl) ?_
      refine lv_iload_n hx hb dX3_joinable_29 rfl (lv_at hl 1 rfl) ?_
      refine lv_aload_n hx hb dX3_joinable_30 rfl (lv_at hl 0 rfl) ?_
      refine z_get (ci := 3) (v := .int (N.1 3)) (C := RX3) (T := TX3) (N := 13) hx hb hts inX3 hown hK hP 0 rfl rfl 3 (by decide) (List.mem_of_getElem? (i := 2) rfl) rfl rfl dX3_joinable_31 ?_
      refine z_rgo (va_runSN (As := [.int (N.1 3)]) (rest := [.int x1, .ref (q b), .int ((f6_all (N.1 2)) &&& ((f6_bit x1) ^^^ (-1)))]) ⟨hx, hb, hml, hown, hts⟩ (c6_all l g   (N.1 3)) ⟨va_cnB 1 hts gX3_joinable_X6_all_n68 rfl rfl rfl (hK.nest 8 rfl) (hts (.initialized RX6) (List.mem_of_getElem? (i := 4) rfl)) (by decide +kernel) ⟨Nat.le_of_ble_eq_true rfl, Nat.le_of_ble_eq_true rfl⟩, hts (.static yX6_all) (List.mem_of_getElem? (i := 3) rfl), trivial⟩ (z_rpre z_nil hK) rfl rfl hl.1 rfl (lv_room (Nat.le_of_ble_eq_true rfl)) dX3_joinable_34 ⟨Nat.zero_le _, Nat.zero_le _⟩) ?_
      obtain ⟨v3, hv3, hF⟩ := zob hF
      refine z_rgo (va_runV (As := [.int x1, .int (f6_all (N.1 3))]) (rest := [.int ((f6_all (N.1 2)) &&& ((f6_bit x1) ^^^ (-1)))]) ⟨hx, hb, hml, hown, hts⟩ (c3_beside l g q b N x1 (f6_all (N.1 3)) v3 hv3) (cwV 2 hts gX3_joinable_X3_beside rfl rfl rfl (by decide +kernel) ⟨Nat.le_of_ble_eq_true rfl, Nat.le_of_ble_eq_true rfl⟩) (z_rpreV (ci := 3) (q := (RX3, TX3, 13)) (q0 := 0) hP hK rfl rfl) rfl rfl hl.1 rfl (lv_room (Nat.le_of_ble_eq_true rfl)) dX3_joinable_37 ⟨Nat.zero_le _, Nat.zero_le _⟩) ?_
      refine lv_iconst (v := (-1)) hx hb dX3_joinable_40 (by decide) ?_
      refine lv_ixor hx hb dX3_joinable_41 ?_
      refine lv_iand hx hb dX3_joinable_42 ?_
      have e9a := zin hF
      exact z_ri hx hb hr hlk (congrArg (fun z => some (Value.int z)) e9a) dX3_joinable_43
    · have hF := zif c2 hF
      refine lv_iconst (v := 0) hx hb dX3_joinable_12 (by decide) ?_
      have e9a := zin hF
      exact z_ri hx hb hr hlk (congrArg (fun z => some (Value.int z)) e9a) dX3_joinable_13
def f3_stepsBetween_l9 (x2 : Int32) (x3 : Int32) (N : Mo) : Nat → Int32 → Int32 → Option (Int32)
  | 0, _, _ => none
  | n9 + 1, y2, y3 => if 6 ≤ y3 then some (-9) else if (f6_has y2 x2) = 0 then (f3_besideAny N y2 x3).bind fun v6 => bd (α := Int32) (y2 ||| v6) (fun (v7 : Int32) => f3_stepsBetween_l9 x2 x3 N n9 v7 (y3 + 1)) else some y3
def f3_stepsBetween (N : Mo) (x1 : Int32) (x2 : Int32) (x3 : Int32) : Option (Int32) := bd (α := Int32) (f6_bit x1) (fun (v1 : Int32) => f3_stepsBetween_l9 x2 x3 N FU v1 0)
abbrev rmX3_stepsBetween : Room := { frames := 3, cells := 0, slots := 0, locals := 71 }
set_option maxHeartbeats 4000000 in
set_option maxRecDepth 100000 in
theorem c3_stepsBetween (l : Launch) (g : zG) (q : Nat → Nat) (b : Nat) (N : Mo) (x1 : Int32) (x2 : Int32) (x3 : Int32) (ro : Int32) (hF : f3_stepsBetween N x1 x2 x3 = some ro) : zRO l g yX3_stepsBetween wsX3_stepsBetween rmX3_stepsBetween [.ref (q b), .int x1, .int x2, .int x3] (NW g q b N) (some (.int ro)) := by
  refine zRO_of (cc := cX3_stepsBetween) (maxL := 6) (ret := (some .int)) (by decide) rfl (Nat.le_of_ble_eq_true rfl) ?_
  intro p e s m args below meth c ls hx hb hr hml hts hown hlk hK hP hl
  have hown : s.vm.findClass RX3 = some m.cls := hown
  have hl : lv_has ls 6 [(0, .ref (q b)), (1, .int x1), (2, .int x2), (3, .int x3)] := hl
  unfold f3_stepsBetween at hF
  refine lv_iload_n hx hb dX3_stepsBetween_0 rfl (lv_at hl 1 rfl) ?_
  refine z_rgo (va_runSN (As := [.int x1]) (rest := []) ⟨hx, hb, hml, hown, hts⟩ (c6_bit l g   x1) ⟨va_cnB 1 hts gX3_stepsBetween_X6_bit_n60 rfl rfl rfl (hK.nest 9 rfl) (hts (.initialized RX6) (List.mem_of_getElem? (i := 2) rfl)) (by decide +kernel) ⟨Nat.le_of_ble_eq_true rfl, Nat.le_of_ble_eq_true rfl⟩, hts (.static yX6_bit) (List.mem_of_getElem? (i := 1) rfl), trivial⟩ (z_rpre z_nil hK) rfl rfl hl.1 rfl (lv_room (Nat.le_of_ble_eq_true rfl)) dX3_stepsBetween_1 ⟨Nat.zero_le _, Nat.zero_le _⟩) ?_
  refine lv_topi (fun v1 ev1 => ?_)
  have hF := bd_eq ev1 hF
  refine lv_istore (lv' := [(4, .int v1), (0, .ref (q b)), (1, .int x1), (2, .int x2), (3, .int x3)]) hx hb dX3_stepsBetween_4 hl (by decide) rfl (fun ls hl => ?_)
  refine lv_iconst (v := 0) hx hb dX3_stepsBetween_6 (by decide) ?_
  refine lv_istore (lv' := [(5, .int 0), (4, .int v1), (0, .ref (q b)), (1, .int x1), (2, .int x2), (3, .int x3)]) hx hb dX3_stepsBetween_7 hl (by decide) rfl (fun ls hl => ?_)
  have L9 : ∀ (n9 : Nat) (y2 : Int32) (y3 : Int32) (ls : Array Slot), f3_stepsBetween_l9 x2 x3 N n9 y2 y3 = some ro → lv_has ls 6 [(0, .ref (q b)), (2, .int x2), (3, .int x3), (4, .int y2), (5, .int y3)] → W p l e (headSpec wsX3_stepsBetween rmX3_stepsBetween).room s m args below meth c s.heap [] 0 0 (MQ below (zRQ (some (.int ro))) args s 0 0 (fun _ => False)) (F0 m 9 ls []) := by
    intro n9
    induction n9 with
    | zero =>
      intro y2 y3 ls hF hl
      exact absurd (show (none : Option (Int32)) = some _ from hF) (fun h9 => by cases h9)
    | succ n9 ih9 =>
      intro y2 y3 ls hF hl
      rw [f3_stepsBetween_l9] at hF
      refine lv_iload hx hb dX3_stepsBetween_9 (lv_at hl 4 rfl) ?_
      refine lv_bipush (v := 6) hx hb dX3_stepsBetween_11 (by decide) ?_
      refine lv_icmp_ge (tgt := 46) hx hb dX3_stepsBetween_13 (by decide) (fun c4 => ?_) (fun c4 => ?_)
      · have hF := zit c4 hF
        refine lv_bipush (v := (-9)) hx hb dX3_stepsBetween_46 (by decide) ?_
        have e9a := zin hF
        exact z_ri hx hb hr hlk (congrArg (fun z => some (Value.int z)) e9a) dX3_stepsBetween_48
      · have hF := zif c4 hF
        refine lv_iload hx hb dX3_stepsBetween_16 (lv_at hl 3 rfl) ?_
        refine lv_iload_n hx hb dX3_stepsBetween_18 rfl (lv_at hl 1 rfl) ?_
        refine z_rgo (va_runSN (As := [.int y2, .int x2]) (rest := []) ⟨hx, hb, hml, hown, hts⟩ (c6_has l g   y2 x2) ⟨va_cnB 2 hts gX3_stepsBetween_X6_has_n75 rfl rfl rfl (hK.nest 10 rfl) (hts (.initialized RX6) (List.mem_of_getElem? (i := 2) rfl)) (by decide +kernel) ⟨Nat.le_of_ble_eq_true rfl, Nat.le_of_ble_eq_true rfl⟩, hts (.static yX6_has) (List.mem_of_getElem? (i := 4) rfl), trivial⟩ (z_rpre z_nil hK) rfl rfl hl.1 rfl (lv_room (Nat.le_of_ble_eq_true rfl)) dX3_stepsBetween_19 ⟨Nat.zero_le _, Nat.zero_le _⟩) ?_
        refine lv_if_eq (tgt := 28) hx hb dX3_stepsBetween_22 (by decide) (fun c5 => ?_) (fun c5 => ?_)
        · have hF := zit c5 hF
          refine lv_iload hx hb dX3_stepsBetween_28 (lv_at hl 3 rfl) ?_
          refine lv_aload_n hx hb dX3_stepsBetween_30 rfl (lv_at hl 0 rfl) ?_
          refine lv_iload hx hb dX3_stepsBetween_31 (lv_at hl 3 rfl) ?_
          refine lv_iload_n hx hb dX3_stepsBetween_33 rfl (lv_at hl 2 rfl) ?_
          obtain ⟨v6, hv6, hF⟩ := zob hF
          refine z_rgo (va_runV (As := [.int y2, .int x3]) (rest := [.int y2]) ⟨hx, hb, hml, hown, hts⟩ (c3_besideAny l g q b N y2 x3 v6 hv6) (cwV 2 hts gX3_stepsBetween_X3_besideAny rfl rfl rfl (by decide +kernel) ⟨Nat.le_of_ble_eq_true rfl, Nat.le_of_ble_eq_true rfl⟩) (z_rpreV (ci := 3) (q := (RX3, TX3, 13)) (q0 := 0) hP hK rfl rfl) rfl rfl hl.1 rfl (lv_room (Nat.le_of_ble_eq_true rfl)) dX3_stepsBetween_34 ⟨Nat.zero_le _, Nat.zero_le _⟩) ?_
          refine lv_ior hx hb dX3_stepsBetween_37 ?_
          refine lv_topi (fun v7 ev7 => ?_)
          have hF := bd_eq ev7 hF
          refine lv_istore (lv' := [(4, .int v7), (0, .ref (q b)), (2, .int x2), (3, .int x3), (5, .int y3)]) hx hb dX3_stepsBetween_38 hl (by decide) rfl (fun ls hl => ?_)
          refine lv_iinc (v := (y3 + 1)) (lv' := [(5, .int (y3 + 1)), (4, .int v7), (0, .ref (q b)), (2, .int x2), (3, .int x3)]) hx hb dX3_stepsBetween_40 hl (k := 4) rfl rfl (by decide) rfl (fun ls hl => ?_)
          refine lv_goto (tgt := 9) hx hb dX3_stepsBetween_43 (by decide) ?_
          exact ih9 v7 (y3 + 1) ls hF (lv_sub hl [2, 3, 4, 1, 0] rfl)
        · have hF := zif c5 hF
          refine lv_iload hx hb dX3_stepsBetween_25 (lv_at hl 4 rfl) ?_
          have e9a := zin hF
          exact z_ri hx hb hr hlk (congrArg (fun z => some (Value.int z)) e9a) dX3_stepsBetween_27
  exact L9 FU v1 0 ls hF (lv_sub hl [2, 4, 5, 1, 0] rfl)
def f4_addPart (R : Rd) : Option (Rd) := bd (α := Int32) (f6_cell 4 (R.2.1) 0) (fun (v1 : Int32) => bd (α := Int32) (f6_cell 4 (R.2.1) 1) (fun (v2 : Int32) => if (R.2.2 2) = 74 then (f3_addJoint (R.1) v1 v2).bind fun N4 => bd (rN R N4) (fun (R5 : Rd) => some R5) else if (R.2.2 2) = 80 then (f3_addPipe (R.1) v1 v2).bind fun N7 => bd (rN R N7) (fun (R8 : Rd) => some R8) else if (R.2.2 2) = 87 then (f3_addWalker (R.1) (R.2.1)).bind fun N10 => bd (rN R N10) (fun (R11 : Rd) => some R11) else (f3_setTides (R.1) v1 v2).bind fun N12 => bd (rN R N12) (fun (R13 : Rd) => some R13)))
abbrev rmX4_addPart : Room := { frames := 2, cells := 0, slots := 0, locals := 44 }
set_option maxHeartbeats 4000000 in
set_option maxRecDepth 100000 in
theorem c4_addPart (l : Launch) (g : zG) (q : Nat → Nat) (b : Nat) (R : Rd) (R_o : Rd) (hF : f4_addPart R = some R_o) : zRW l g yX4_addPart wsX4_addPart rmX4_addPart [.ref (q b)] (RW g q b R) none (RW g q b R_o) := by
  refine zRW_of (cc := cX4_addPart) (maxL := 3) (ret := none) (by decide) rfl (Nat.le_of_ble_eq_true rfl) ?_
  intro p e s m args below meth c A H locs ls hx hb hr hml hts hown hlk hK hA hP hD hS hl
  have hown : s.vm.findClass RX4 = some m.cls := hown
  have hl : lv_has ls 3 [(0, .ref (q b))] := hl
  have inX4 : ∀ w ∈ wsX40, w ∈ wsX4_addPart := fun _ h => List.mem_cons_of_mem _ (List.mem_append_left _ (List.mem_append_right _ h))
  unfold f4_addPart at hF
  refine lv_aload_n hx hb dX4_addPart_0 rfl (lv_at hl 0 rfl) ?_
  refine z_get (ci := 4) (v := .ref (q (b + 1))) (C := RX4) (T := TX4) (N := 4) hx hb hts inX4 hown hK hP 0 rfl rfl 1 (by decide) (List.mem_of_getElem? (i := 1) rfl) rfl rfl dX4_addPart_1 ?_
  refine lv_iconst (v := 0) hx hb dX4_addPart_4 (by decide) ?_
  refine z_rgo (va_runSN (As := [.ref (q (b + 1)), .int 0]) (rest := []) ⟨hx, hb, hml, hown, hts⟩ (c6_cell l g (q (b + 1)) 4 (by decide) (R.2.1) 0) ⟨va_cnB 2 hts gX4_addPart_X6_cell_n75 rfl rfl rfl (hK.nest 12 rfl) (hts (.initialized RX6) (List.mem_of_getElem? (i := 5) rfl)) (by decide +kernel) ⟨Nat.le_of_ble_eq_true rfl, Nat.le_of_ble_eq_true rfl⟩, hts (.static yX6_cell) (List.mem_of_getElem? (i := 4) rfl), trivial⟩ (z_rpre (hP.sub (ws' := [((q (b + 1)), .inl (g.2.2.1, 4, .inl (R.2.1)))]) [1] rfl) hK) rfl rfl hl.1 rfl (lv_room (Nat.le_of_ble_eq_true rfl)) dX4_addPart_5 ⟨Nat.zero_le _, Nat.zero_le _⟩) ?_
  refine lv_topi (fun v1 ev1 => ?_)
  have hF := bd_eq ev1 hF
  refine lv_istore_n (lv' := [(1, .int v1), (0, .ref (q b))]) hx hb dX4_addPart_8 rfl hl (by decide) rfl (fun ls hl => ?_)
  refine lv_aload_n hx hb dX4_addPart_9 rfl (lv_at hl 1 rfl) ?_
  refine z_get (ci := 4) (v := .ref (q (b + 1))) (C := RX4) (T := TX4) (N := 4) hx hb hts inX4 hown hK hP 0 rfl rfl 1 (by decide) (List.mem_of_getElem? (i := 1) rfl) rfl rfl dX4_addPart_10 ?_
  refine lv_iconst (v := 1) hx hb dX4_addPart_13 (by decide) ?_
  refine z_rgo (va_runSN (As := [.ref (q (b + 1)), .int 1]) (rest := []) ⟨hx, hb, hml, hown, hts⟩ (c6_cell l g (q (b + 1)) 4 (by decide) (R.2.1) 1) ⟨va_cnB 2 hts gX4_addPart_X6_cell_n75 rfl rfl rfl (hK.nest 12 rfl) (hts (.initialized RX6) (List.mem_of_getElem? (i := 5) rfl)) (by decide +kernel) ⟨Nat.le_of_ble_eq_true rfl, Nat.le_of_ble_eq_true rfl⟩, hts (.static yX6_cell) (List.mem_of_getElem? (i := 4) rfl), trivial⟩ (z_rpre (hP.sub (ws' := [((q (b + 1)), .inl (g.2.2.1, 4, .inl (R.2.1)))]) [1] rfl) hK) rfl rfl hl.1 rfl (lv_room (Nat.le_of_ble_eq_true rfl)) dX4_addPart_14 ⟨Nat.zero_le _, Nat.zero_le _⟩) ?_
  refine lv_topi (fun v2 ev2 => ?_)
  have hF := bd_eq ev2 hF
  refine lv_istore_n (lv' := [(2, .int v2), (1, .int v1), (0, .ref (q b))]) hx hb dX4_addPart_17 rfl hl (by decide) rfl (fun ls hl => ?_)
  refine lv_aload_n hx hb dX4_addPart_18 rfl (lv_at hl 2 rfl) ?_
  refine z_get (ci := 4) (v := .int (R.2.2 2)) (C := RX4) (T := TX4) (N := 4) hx hb hts inX4 hown hK hP 0 rfl rfl 2 (by decide) (List.mem_of_getElem? (i := 2) rfl) rfl rfl dX4_addPart_19 ?_
  by_cases c3 : (R.2.2 2) = 74
  · have hF := zit c3 hF
    refine z_lin (k := 74) (tgt := 56) hx hb dX4_addPart_22 rfl c3 rfl (by decide) ?_
    refine lv_aload_n hx hb dX4_addPart_56 rfl (lv_at hl 2 rfl) ?_
    refine z_get (ci := 4) (v := .ref (q (b + 2))) (C := RX4) (T := TX4) (N := 4) hx hb hts inX4 hown hK hP 0 rfl rfl 0 (by decide) (List.mem_of_getElem? (i := 3) rfl) rfl rfl dX4_addPart_57 ?_
    refine lv_iload_n hx hb dX4_addPart_60 rfl (lv_at hl 1 rfl) ?_
    refine lv_iload_n hx hb dX4_addPart_61 rfl (lv_at hl 0 rfl) ?_
    obtain ⟨N4, hN4, hF⟩ := zob hF
    refine z_wgo (wn := RW g q b (rN R N4)) (va_runV (As := [.int v1, .int v2]) (rest := []) ⟨hx, hb, hml, hown, hts⟩ ((c3_addJoint l g q (b + 2) (R.1) v1 v2  N4 hN4) H.size) (cwV 2 hts gX4_addPart_X3_addJoint rfl rfl rfl (by decide +kernel) ⟨Nat.le_of_ble_eq_true rfl, Nat.le_of_ble_eq_true rfl⟩) (z_wpreV (ci := 3) (q := (RX3, TX3, 13)) (q0 := 0) (hP.sub (ws' := NW g q (b + 2) (R.1)) [2, 3, 4, 5, 6, 7, 8, 9] rfl) hK (z_any (hD.sub (ws' := NW g q (b + 2) (R.1)) [2, 3, 4, 5, 6, 7, 8, 9] (by decide) rfl)) rfl rfl) rfl rfl hl.1 rfl (lv_room (Nat.le_of_ble_eq_true rfl)) dX4_addPart_62 ⟨Nat.zero_le _, Nat.zero_le _⟩) hP hD hS hA [2, 3, 4, 5, 6, 7, 8, 9] rfl (by decide) rfl rfl (fun H locs hP hD hS => ?_)
    show W p l e (headSpec wsX4_addPart rmX4_addPart).room s m args below meth c H locs 0 0 (MQ below (zWQ g A (RW g q b R_o) none) args s 0 0 A) (F0 m 65 ls [])
    obtain ⟨R5, eR5⟩ : ∃ y : Rd, y = (rN R N4) := ⟨_, rfl⟩
    rw [← eR5] at hP hD
    have hF := bd_eq eR5 hF
    refine lv_goto (tgt := 103) hx hb dX4_addPart_65 (by decide) ?_
    have e9b := zin hF
    exact z_wv hx hb hr hlk hP hD hS (by rw [e9b]) dX4_addPart_103
  · have hF := zif c3 hF
    by_cases c6 : (R.2.2 2) = 80
    · have hF := zit c6 hF
      refine z_lin (k := 80) (tgt := 68) hx hb dX4_addPart_22 rfl c6 rfl (by decide) ?_
      refine lv_aload_n hx hb dX4_addPart_68 rfl (lv_at hl 2 rfl) ?_
      refine z_get (ci := 4) (v := .ref (q (b + 2))) (C := RX4) (T := TX4) (N := 4) hx hb hts inX4 hown hK hP 0 rfl rfl 0 (by decide) (List.mem_of_getElem? (i := 3) rfl) rfl rfl dX4_addPart_69 ?_
      refine lv_iload_n hx hb dX4_addPart_72 rfl (lv_at hl 1 rfl) ?_
      refine lv_iload_n hx hb dX4_addPart_73 rfl (lv_at hl 0 rfl) ?_
      obtain ⟨N7, hN7, hF⟩ := zob hF
      refine z_wgo (wn := RW g q b (rN R N7)) (va_runV (As := [.int v1, .int v2]) (rest := []) ⟨hx, hb, hml, hown, hts⟩ ((c3_addPipe l g q (b + 2) (R.1) v1 v2  N7 hN7) H.size) (cwV 2 hts gX4_addPart_X3_addPipe rfl rfl rfl (by decide +kernel) ⟨Nat.le_of_ble_eq_true rfl, Nat.le_of_ble_eq_true rfl⟩) (z_wpreV (ci := 3) (q := (RX3, TX3, 13)) (q0 := 0) (hP.sub (ws' := NW g q (b + 2) (R.1)) [2, 3, 4, 5, 6, 7, 8, 9] rfl) hK (z_any (hD.sub (ws' := NW g q (b + 2) (R.1)) [2, 3, 4, 5, 6, 7, 8, 9] (by decide) rfl)) rfl rfl) rfl rfl hl.1 rfl (lv_room (Nat.le_of_ble_eq_true rfl)) dX4_addPart_74 ⟨Nat.zero_le _, Nat.zero_le _⟩) hP hD hS hA [2, 3, 4, 5, 6, 7, 8, 9] rfl (by decide) rfl rfl (fun H locs hP hD hS => ?_)
      show W p l e (headSpec wsX4_addPart rmX4_addPart).room s m args below meth c H locs 0 0 (MQ below (zWQ g A (RW g q b R_o) none) args s 0 0 A) (F0 m 77 ls [])
      obtain ⟨R8, eR8⟩ : ∃ y : Rd, y = (rN R N7) := ⟨_, rfl⟩
      rw [← eR8] at hP hD
      have hF := bd_eq eR8 hF
      refine lv_goto (tgt := 103) hx hb dX4_addPart_77 (by decide) ?_
      have e9b := zin hF
      exact z_wv hx hb hr hlk hP hD hS (by rw [e9b]) dX4_addPart_103
    · have hF := zif c6 hF
      by_cases c9 : (R.2.2 2) = 87
      · have hF := zit c9 hF
        refine z_lin (k := 87) (tgt := 80) hx hb dX4_addPart_22 rfl c9 rfl (by decide) ?_
        refine lv_aload_n hx hb dX4_addPart_80 rfl (lv_at hl 2 rfl) ?_
        refine z_get (ci := 4) (v := .ref (q (b + 2))) (C := RX4) (T := TX4) (N := 4) hx hb hts inX4 hown hK hP 0 rfl rfl 0 (by decide) (List.mem_of_getElem? (i := 3) rfl) rfl rfl dX4_addPart_81 ?_
        refine lv_aload_n hx hb dX4_addPart_84 rfl (lv_at hl 2 rfl) ?_
        refine z_get (ci := 4) (v := .ref (q (b + 1))) (C := RX4) (T := TX4) (N := 4) hx hb hts inX4 hown hK hP 0 rfl rfl 1 (by decide) (List.mem_of_getElem? (i := 1) rfl) rfl rfl dX4_addPart_85 ?_
        obtain ⟨N10, hN10, hF⟩ := zob hF
        refine z_wgo (wn := RW g q b (rN R N10)) (va_runV (As := [.ref (q (b + 1))]) (rest := []) ⟨hx, hb, hml, hown, hts⟩ ((c3_addWalker l g q (b + 2) q (b + 1) (R.1) (R.2.1)   N10 hN10) H.size) (cwV 1 hts gX4_addPart_X3_addWalker rfl rfl rfl (by decide +kernel) ⟨Nat.le_of_ble_eq_true rfl, Nat.le_of_ble_eq_true rfl⟩) (z_wpreV (ci := 3) (q := (RX3, TX3, 13)) (q0 := 0) (hP.sub (ws' := (NW g q (b + 2) (R.1) ++ AW4 g q (b + 1) (R.2.1))) [2, 3, 4, 5, 6, 7, 8, 9, 1] rfl) hK (z_any (hD.sub (ws' := (NW g q (b + 2) (R.1) ++ AW4 g q (b + 1) (R.2.1))) [2, 3, 4, 5, 6, 7, 8, 9, 1] (by decide) rfl)) rfl rfl) rfl rfl hl.1 rfl (lv_room (Nat.le_of_ble_eq_true rfl)) dX4_addPart_88 ⟨Nat.zero_le _, Nat.zero_le _⟩) hP hD hS hA [2, 3, 4, 5, 6, 7, 8, 9, 1] rfl (by decide) rfl rfl (fun H locs hP hD hS => ?_)
        show W p l e (headSpec wsX4_addPart rmX4_addPart).room s m args below meth c H locs 0 0 (MQ below (zWQ g A (RW g q b R_o) none) args s 0 0 A) (F0 m 91 ls [])
        obtain ⟨R11, eR11⟩ : ∃ y : Rd, y = (rN R N10) := ⟨_, rfl⟩
        rw [← eR11] at hP hD
        have hF := bd_eq eR11 hF
        refine lv_goto (tgt := 103) hx hb dX4_addPart_91 (by decide) ?_
        have e9b := zin hF
        exact z_wv hx hb hr hlk hP hD hS (by rw [e9b]) dX4_addPart_103
      · have hF := zif c9 hF
        refine lv_lookup (off := 72) (tgt := 94) hx hb dX4_addPart_22 rfl ((lv_osw c3 rfl).trans ((lv_osw c6 rfl).trans ((lv_osw c9 rfl).trans (rfl)))) (by decide) ?_
        refine lv_aload_n hx hb dX4_addPart_94 rfl (lv_at hl 2 rfl) ?_
        refine z_get (ci := 4) (v := .ref (q (b + 2))) (C := RX4) (T := TX4) (N := 4) hx hb hts inX4 hown hK hP 0 rfl rfl 0 (by decide) (List.mem_of_getElem? (i := 3) rfl) rfl rfl dX4_addPart_95 ?_
        refine lv_iload_n hx hb dX4_addPart_98 rfl (lv_at hl 1 rfl) ?_
        refine lv_iload_n hx hb dX4_addPart_99 rfl (lv_at hl 0 rfl) ?_
        obtain ⟨N12, hN12, hF⟩ := zob hF
        refine z_wgo (wn := RW g q b (rN R N12)) (va_runV (As := [.int v1, .int v2]) (rest := []) ⟨hx, hb, hml, hown, hts⟩ ((c3_setTides l g q (b + 2) (R.1) v1 v2  N12 hN12) H.size) (cwV 2 hts gX4_addPart_X3_setTides rfl rfl rfl (by decide +kernel) ⟨Nat.le_of_ble_eq_true rfl, Nat.le_of_ble_eq_true rfl⟩) (z_wpreV (ci := 3) (q := (RX3, TX3, 13)) (q0 := 0) (hP.sub (ws' := NW g q (b + 2) (R.1)) [2, 3, 4, 5, 6, 7, 8, 9] rfl) hK (z_any (hD.sub (ws' := NW g q (b + 2) (R.1)) [2, 3, 4, 5, 6, 7, 8, 9] (by decide) rfl)) rfl rfl) rfl rfl hl.1 rfl (lv_room (Nat.le_of_ble_eq_true rfl)) dX4_addPart_100 ⟨Nat.zero_le _, Nat.zero_le _⟩) hP hD hS hA [2, 3, 4, 5, 6, 7, 8, 9] rfl (by decide) rfl rfl (fun H locs hP hD hS => ?_)
        show W p l e (headSpec wsX4_addPart rmX4_addPart).room s m args below meth c H locs 0 0 (MQ below (zWQ g A (RW g q b R_o) none) args s 0 0 A) (F0 m 103 ls [])
        obtain ⟨R13, eR13⟩ : ∃ y : Rd, y = (rN R N12) := ⟨_, rfl⟩
        rw [← eR13] at hP hD
        have hF := bd_eq eR13 hF
        have e9b := zin hF
        exact z_wv hx hb hr hlk hP hD hS (by rw [e9b]) dX4_addPart_103
def f4_figuresOfPart (R : Rd) : Int32 := if (R.2.2 2) = 87 then 4 else 2
abbrev rmX4_figuresOfPart : Room := { frames := 0, cells := 0, slots := 0, locals := 0 }
set_option maxHeartbeats 4000000 in
set_option maxRecDepth 100000 in
theorem c4_figuresOfPart (l : Launch) (g : zG) (q : Nat → Nat) (b : Nat) (R : Rd) : zRO l g yX4_figuresOfPart wsX4_figuresOfPart rmX4_figuresOfPart [.ref (q b)] (RW g q b R) (some (.int (f4_figuresOfPart R))) := by
  obtain ⟨ro, hF⟩ : ∃ y : Int32, f4_figuresOfPart R = y := ⟨_, rfl⟩
  rw [hF]
  refine zRO_of (cc := cX4_figuresOfPart) (maxL := 1) (ret := (some .int)) (by decide) rfl (Nat.le_of_ble_eq_true rfl) ?_
  intro p e s m args below meth c ls hx hb hr hml hts hown hlk hK hP hl
  have hown : s.vm.findClass RX4 = some m.cls := hown
  have hl : lv_has ls 1 [(0, .ref (q b))] := hl
  have inX4 : ∀ w ∈ wsX40, w ∈ wsX4_figuresOfPart := fun _ h => List.mem_cons_of_mem _ (List.mem_append_right _ h)
  unfold f4_figuresOfPart at hF
  refine lv_aload_n hx hb dX4_figuresOfPart_0 rfl (lv_at hl 0 rfl) ?_
  refine z_get (ci := 4) (v := .int (R.2.2 2)) (C := RX4) (T := TX4) (N := 4) hx hb hts inX4 hown hK hP 0 rfl rfl 2 (by decide) (List.mem_of_getElem? (i := 1) rfl) rfl rfl dX4_figuresOfPart_1 ?_
  refine lv_bipush (v := 87) hx hb dX4_figuresOfPart_4 (by decide) ?_
  refine lv_icmp_ne (tgt := 13) hx hb dX4_figuresOfPart_6 (by decide) (fun c1 => ?_) (fun c1 => ?_)
  · have hF := zif c1 hF
    refine lv_iconst (v := 2) hx hb dX4_figuresOfPart_13 (by decide) ?_
    exact z_ri hx hb hr hlk (congrArg (fun z => some (Value.int z)) hF) dX4_figuresOfPart_14
  · have hF := zit c1 hF
    refine lv_iconst (v := 4) hx hb dX4_figuresOfPart_9 (by decide) ?_
    refine lv_goto (tgt := 14) hx hb dX4_figuresOfPart_10 (by decide) ?_
    exact z_ri hx hb hr hlk (congrArg (fun z => some (Value.int z)) hF) dX4_figuresOfPart_14
def f4_fitsWalker (R : Rd) (x1 : Int32) : Int32 := if (R.2.2 3) = 1 then if x1 < 1 then 0 else 1 else if (R.2.2 3) = 2 then if 4 ≤ x1 then 0 else 1 else if ((R.1).1 2) ≤ x1 then 0 else 1
abbrev rmX4_fitsWalker : Room := { frames := 0, cells := 0, slots := 0, locals := 0 }
set_option maxHeartbeats 4000000 in
set_option maxRecDepth 100000 in
theorem c4_fitsWalker (l : Launch) (g : zG) (q : Nat → Nat) (b : Nat) (R : Rd) (x1 : Int32) : zRO l g yX4_fitsWalker wsX4_fitsWalker rmX4_fitsWalker [.ref (q b), .int x1] (RW g q b R) (some (.int (f4_fitsWalker R x1))) := by
  obtain ⟨ro, hF⟩ : ∃ y : Int32, f4_fitsWalker R x1 = y := ⟨_, rfl⟩
  rw [hF]
  refine zRO_of (cc := cX4_fitsWalker) (maxL := 2) (ret := (some .boolean)) (by decide) rfl (Nat.le_of_ble_eq_true rfl) ?_
  intro p e s m args below meth c ls hx hb hr hml hts hown hlk hK hP hl
  have hown : s.vm.findClass RX4 = some m.cls := hown
  have hl : lv_has ls 2 [(0, .ref (q b)), (1, .int x1)] := hl
  have inX3 : ∀ w ∈ wsX30, w ∈ wsX4_fitsWalker := fun _ h => List.mem_cons_of_mem _ (List.mem_append_right _ h)
  have inX4 : ∀ w ∈ wsX40, w ∈ wsX4_fitsWalker := fun _ h => List.mem_cons_of_mem _ (List.mem_append_left _ (List.mem_append_right _ h))
  unfold f4_fitsWalker at hF
  refine lv_aload_n hx hb dX4_fitsWalker_0 rfl (lv_at hl 0 rfl) ?_
  refine z_get (ci := 4) (v := .int (R.2.2 3)) (C := RX4) (T := TX4) (N := 4) hx hb hts inX4 hown hK hP 0 rfl rfl 3 (by decide) (List.mem_of_getElem? (i := 1) rfl) rfl rfl dX4_fitsWalker_1 ?_
  by_cases c1 : (R.2.2 3) = 1
  · have hF := zit c1 hF
    refine z_lin (k := 1) (tgt := 32) hx hb dX4_fitsWalker_4 rfl c1 rfl (by decide) ?_
    refine lv_iload_n hx hb dX4_fitsWalker_32 rfl (lv_at hl 1 rfl) ?_
    refine lv_iconst (v := 1) hx hb dX4_fitsWalker_33 (by decide) ?_
    refine lv_icmp_lt (tgt := 41) hx hb dX4_fitsWalker_34 (by decide) (fun c2 => ?_) (fun c2 => ?_)
    · have hF := zit c2 hF
      refine lv_iconst (v := 0) hx hb dX4_fitsWalker_41 (by decide) ?_
      exact z_rz hx hb hr hlk rfl (congrArg (fun z => some (Value.int z)) hF) dX4_fitsWalker_42
    · have hF := zif c2 hF
      refine lv_iconst (v := 1) hx hb dX4_fitsWalker_37 (by decide) ?_
      refine lv_goto (tgt := 42) hx hb dX4_fitsWalker_38 (by decide) ?_
      exact z_rz hx hb hr hlk rfl (congrArg (fun z => some (Value.int z)) hF) dX4_fitsWalker_42
  · have hF := zif c1 hF
    by_cases c3 : (R.2.2 3) = 2
    · have hF := zit c3 hF
      refine z_lin (k := 2) (tgt := 43) hx hb dX4_fitsWalker_4 rfl c3 rfl (by decide) ?_
      refine lv_iload_n hx hb dX4_fitsWalker_43 rfl (lv_at hl 1 rfl) ?_
      refine lv_iconst (v := 4) hx hb dX4_fitsWalker_44 (by decide) ?_
      refine lv_icmp_ge (tgt := 52) hx hb dX4_fitsWalker_45 (by decide) (fun c4 => ?_) (fun c4 => ?_)
      · have hF := zit c4 hF
        refine lv_iconst (v := 0) hx hb dX4_fitsWalker_52 (by decide) ?_
        exact z_rz hx hb hr hlk rfl (congrArg (fun z => some (Value.int z)) hF) dX4_fitsWalker_53
      · have hF := zif c4 hF
        refine lv_iconst (v := 1) hx hb dX4_fitsWalker_48 (by decide) ?_
        refine lv_goto (tgt := 53) hx hb dX4_fitsWalker_49 (by decide) ?_
        exact z_rz hx hb hr hlk rfl (congrArg (fun z => some (Value.int z)) hF) dX4_fitsWalker_53
    · have hF := zif c3 hF
      refine lv_lookup (off := 50) (tgt := 54) hx hb dX4_fitsWalker_4 rfl ((lv_osw c1 rfl).trans ((lv_osw c3 rfl).trans (rfl))) (by decide) ?_
      refine lv_iload_n hx hb dX4_fitsWalker_54 rfl (lv_at hl 1 rfl) ?_
      refine lv_aload_n hx hb dX4_fitsWalker_55 rfl (lv_at hl 0 rfl) ?_
      refine z_get (ci := 4) (v := .ref (q (b + 2))) (C := RX4) (T := TX4) (N := 4) hx hb hts inX4 hown hK hP 0 rfl rfl 0 (by decide) (List.mem_of_getElem? (i := 2) rfl) rfl rfl dX4_fitsWalker_56 ?_
      refine z_get (ci := 3) (v := .int ((R.1).1 2)) (C := RX3) (T := TX3) (N := 13) hx hb hts inX3 hown hK hP 2 rfl rfl 2 (by decide) (List.mem_of_getElem? (i := 3) rfl) rfl rfl dX4_fitsWalker_59 ?_
      refine lv_icmp_ge (tgt := 69) hx hb dX4_fitsWalker_62 (by decide) (fun c5 => ?_) (fun c5 => ?_)
      · have hF := zit c5 hF
        refine lv_iconst (v := 0) hx hb dX4_fitsWalker_69 (by decide) ?_
        exact z_rz hx hb hr hlk rfl (congrArg (fun z => some (Value.int z)) hF) dX4_fitsWalker_70
      · have hF := zif c5 hF
        refine lv_iconst (v := 1) hx hb dX4_fitsWalker_65 (by decide) ?_
        refine lv_goto (tgt := 70) hx hb dX4_fitsWalker_66 (by decide) ?_
        exact z_rz hx hb hr hlk rfl (congrArg (fun z => some (Value.int z)) hF) dX4_fitsWalker_70
theorem b4_fitsWalker (R : Rd) (x1 : Int32) : narrow .boolean (.int (f4_fitsWalker R x1)) = .int (f4_fitsWalker R x1) := by
  unfold f4_fitsWalker
  repeat' split
  all_goals first | rfl | exact rfl
def f4_fits (R : Rd) (x1 : Int32) : Option (Int32) := if (R.2.2 2) = 74 then if (R.2.2 3) = 0 then some 1 else if 1 < x1 then some 0 else some 1 else if (R.2.2 2) = 80 then if (R.2.2 3) = 0 then (f3_joinable (R.1) x1).bind fun v7 => if v7 = 0 then some 0 else some 1 else (f3_joinable (R.1) (f6_cell 4 (R.2.1) 0)).bind fun v6 => some (f6_has v6 x1) else if (R.2.2 2) = 87 then some (f4_fitsWalker R x1) else some 1
abbrev rmX4_fits : Room := { frames := 3, cells := 0, slots := 0, locals := 68 }
set_option maxHeartbeats 4000000 in
set_option maxRecDepth 100000 in
theorem c4_fits (l : Launch) (g : zG) (q : Nat → Nat) (b : Nat) (R : Rd) (x1 : Int32) (ro : Int32) (hF : f4_fits R x1 = some ro) : zRO l g yX4_fits wsX4_fits rmX4_fits [.ref (q b), .int x1] (RW g q b R) (some (.int ro)) := by
  refine zRO_of (cc := cX4_fits) (maxL := 2) (ret := (some .boolean)) (by decide) rfl (Nat.le_of_ble_eq_true rfl) ?_
  intro p e s m args below meth c ls hx hb hr hml hts hown hlk hK hP hl
  have hown : s.vm.findClass RX4 = some m.cls := hown
  have hl : lv_has ls 2 [(0, .ref (q b)), (1, .int x1)] := hl
  have inX4 : ∀ w ∈ wsX40, w ∈ wsX4_fits := fun _ h => List.mem_cons_of_mem _ (List.mem_append_left _ (List.mem_append_right _ h))
  unfold f4_fits at hF
  refine lv_aload_n hx hb dX4_fits_0 rfl (lv_at hl 0 rfl) ?_
  refine z_get (ci := 4) (v := .int (R.2.2 2)) (C := RX4) (T := TX4) (N := 4) hx hb hts inX4 hown hK hP 0 rfl rfl 2 (by decide) (List.mem_of_getElem? (i := 1) rfl) rfl rfl dX4_fits_1 ?_
  by_cases c1 : (R.2.2 2) = 74
  · have hF := zit c1 hF
    refine z_lin (k := 74) (tgt := 40) hx hb dX4_fits_4 rfl c1 rfl (by decide) ?_
    refine lv_aload_n hx hb dX4_fits_40 rfl (lv_at hl 0 rfl) ?_
    refine z_get (ci := 4) (v := .int (R.2.2 3)) (C := RX4) (T := TX4) (N := 4) hx hb hts inX4 hown hK hP 0 rfl rfl 3 (by decide) (List.mem_of_getElem? (i := 2) rfl) rfl rfl dX4_fits_41 ?_
    refine lv_if_eq (tgt := 52) hx hb dX4_fits_44 (by decide) (fun c2 => ?_) (fun c2 => ?_)
    · have hF := zit c2 hF
      refine lv_iconst (v := 1) hx hb dX4_fits_52 (by decide) ?_
      refine lv_goto (tgt := 57) hx hb dX4_fits_53 (by decide) ?_
      have e9a := zin hF
      exact z_rz hx hb hr hlk rfl (congrArg (fun z => some (Value.int z)) e9a) dX4_fits_57
    · have hF := zif c2 hF
      refine lv_iload_n hx hb dX4_fits_47 rfl (lv_at hl 1 rfl) ?_
      refine lv_iconst (v := 1) hx hb dX4_fits_48 (by decide) ?_
      refine lv_icmp_gt (tgt := 56) hx hb dX4_fits_49 (by decide) (fun c3 => ?_) (fun c3 => ?_)
      · have hF := zit c3 hF
        refine lv_iconst (v := 0) hx hb dX4_fits_56 (by decide) ?_
        have e9a := zin hF
        exact z_rz hx hb hr hlk rfl (congrArg (fun z => some (Value.int z)) e9a) dX4_fits_57
      · have hF := zif c3 hF
        refine lv_iconst (v := 1) hx hb dX4_fits_52 (by decide) ?_
        refine lv_goto (tgt := 57) hx hb dX4_fits_53 (by decide) ?_
        have e9a := zin hF
        exact z_rz hx hb hr hlk rfl (congrArg (fun z => some (Value.int z)) e9a) dX4_fits_57
  · have hF := zif c1 hF
    by_cases c4 : (R.2.2 2) = 80
    · have hF := zit c4 hF
      refine z_lin (k := 80) (tgt := 58) hx hb dX4_fits_4 rfl c4 rfl (by decide) ?_
      refine lv_aload_n hx hb dX4_fits_58 rfl (lv_at hl 0 rfl) ?_
      refine z_get (ci := 4) (v := .int (R.2.2 3)) (C := RX4) (T := TX4) (N := 4) hx hb hts inX4 hown hK hP 0 rfl rfl 3 (by decide) (List.mem_of_getElem? (i := 2) rfl) rfl rfl dX4_fits_59 ?_
      refine lv_if_ne (tgt := 84) hx hb dX4_fits_62 (by decide) (fun c5 => ?_) (fun c5 => ?_)
      · have hF := zif c5 hF
        refine lv_aload_n hx hb dX4_fits_84 rfl (lv_at hl 0 rfl) ?_
        refine z_get (ci := 4) (v := .ref (q (b + 2))) (C := RX4) (T := TX4) (N := 4) hx hb hts inX4 hown hK hP 0 rfl rfl 0 (by decide) (List.mem_of_getElem? (i := 3) rfl) rfl rfl dX4_fits_85 ?_
        refine lv_aload_n hx hb dX4_fits_88 rfl (lv_at hl 0 rfl) ?_
        refine z_get (ci := 4) (v := .ref (q (b + 1))) (C := RX4) (T := TX4) (N := 4) hx hb hts inX4 hown hK hP 0 rfl rfl 1 (by decide) (List.mem_of_getElem? (i := 4) rfl) rfl rfl dX4_fits_89 ?_
        refine lv_iconst (v := 0) hx hb dX4_fits_92 (by decide) ?_
        refine z_rgo (va_runSN (As := [.ref (q (b + 1)), .int 0]) (rest := [.ref (q (b + 2))]) ⟨hx, hb, hml, hown, hts⟩ (c6_cell l g (q (b + 1)) 4 (by decide) (R.2.1) 0) ⟨va_cnB 2 hts gX4_fits_X6_cell_n75 rfl rfl rfl (hK.nest 12 rfl) (hts (.initialized RX6) (List.mem_of_getElem? (i := 13) rfl)) (by decide +kernel) ⟨Nat.le_of_ble_eq_true rfl, Nat.le_of_ble_eq_true rfl⟩, hts (.static yX6_cell) (List.mem_of_getElem? (i := 26) rfl), trivial⟩ (z_rpre (hP.sub (ws' := [((q (b + 1)), .inl (g.2.2.1, 4, .inl (R.2.1)))]) [1] rfl) hK) rfl rfl hl.1 rfl (lv_room (Nat.le_of_ble_eq_true rfl)) dX4_fits_93 ⟨Nat.zero_le _, Nat.zero_le _⟩) ?_
        obtain ⟨v6, hv6, hF⟩ := zob hF
        refine z_rgo (va_runV (As := [.int (f6_cell 4 (R.2.1) 0)]) (rest := []) ⟨hx, hb, hml, hown, hts⟩ (c3_joinable l g q (b + 2) (R.1) (f6_cell 4 (R.2.1) 0) v6 hv6) (cwV 1 hts gX4_fits_X3_joinable rfl rfl rfl (by decide +kernel) ⟨Nat.le_of_ble_eq_true rfl, Nat.le_of_ble_eq_true rfl⟩) (z_rpreV (ci := 3) (q := (RX3, TX3, 13)) (q0 := 0) (hP.sub (ws' := NW g q (b + 2) (R.1)) [2, 3, 4, 5, 6, 7, 8, 9] rfl) hK rfl rfl) rfl rfl hl.1 rfl (lv_room (Nat.le_of_ble_eq_true rfl)) dX4_fits_96 ⟨Nat.zero_le _, Nat.zero_le _⟩) ?_
        refine lv_iload_n hx hb dX4_fits_99 rfl (lv_at hl 1 rfl) ?_
        refine z_rgo (va_runSN (As := [.int v6, .int x1]) (rest := []) ⟨hx, hb, hml, hown, hts⟩ (c6_has l g   v6 x1) ⟨va_cnB 2 hts gX4_fits_X6_has_n79 rfl rfl rfl (hK.nest 13 rfl) (hts (.initialized RX6) (List.mem_of_getElem? (i := 13) rfl)) (by decide +kernel) ⟨Nat.le_of_ble_eq_true rfl, Nat.le_of_ble_eq_true rfl⟩, hts (.static yX6_has) (List.mem_of_getElem? (i := 24) rfl), trivial⟩ (z_rpre z_nil hK) rfl rfl hl.1 rfl (lv_room (Nat.le_of_ble_eq_true rfl)) dX4_fits_100 ⟨Nat.zero_le _, Nat.zero_le _⟩) ?_
        have e9a := zin hF
        exact z_rz hx hb hr hlk (b6_has v6 x1) (congrArg (fun z => some (Value.int z)) e9a) dX4_fits_103
      · have hF := zit c5 hF
        refine lv_aload_n hx hb dX4_fits_65 rfl (lv_at hl 0 rfl) ?_
        refine z_get (ci := 4) (v := .ref (q (b + 2))) (C := RX4) (T := TX4) (N := 4) hx hb hts inX4 hown hK hP 0 rfl rfl 0 (by decide) (List.mem_of_getElem? (i := 3) rfl) rfl rfl dX4_fits_66 ?_
        refine lv_iload_n hx hb dX4_fits_69 rfl (lv_at hl 1 rfl) ?_
        obtain ⟨v7, hv7, hF⟩ := zob hF
        refine z_rgo (va_runV (As := [.int x1]) (rest := []) ⟨hx, hb, hml, hown, hts⟩ (c3_joinable l g q (b + 2) (R.1) x1 v7 hv7) (cwV 1 hts gX4_fits_X3_joinable rfl rfl rfl (by decide +kernel) ⟨Nat.le_of_ble_eq_true rfl, Nat.le_of_ble_eq_true rfl⟩) (z_rpreV (ci := 3) (q := (RX3, TX3, 13)) (q0 := 0) (hP.sub (ws' := NW g q (b + 2) (R.1)) [2, 3, 4, 5, 6, 7, 8, 9] rfl) hK rfl rfl) rfl rfl hl.1 rfl (lv_room (Nat.le_of_ble_eq_true rfl)) dX4_fits_70 ⟨Nat.zero_le _, Nat.zero_le _⟩) ?_
        refine lv_if_eq (tgt := 80) hx hb dX4_fits_73 (by decide) (fun c8 => ?_) (fun c8 => ?_)
        · have hF := zit c8 hF
          refine lv_iconst (v := 0) hx hb dX4_fits_80 (by decide) ?_
          refine lv_goto (tgt := 103) hx hb dX4_fits_81 (by decide) ?_
          have e9a := zin hF
          exact z_rz hx hb hr hlk rfl (congrArg (fun z => some (Value.int z)) e9a) dX4_fits_103
        · have hF := zif c8 hF
          refine lv_iconst (v := 1) hx hb dX4_fits_76 (by decide) ?_
          refine lv_goto (tgt := 103) hx hb dX4_fits_77 (by decide) ?_
          have e9a := zin hF
          exact z_rz hx hb hr hlk rfl (congrArg (fun z => some (Value.int z)) e9a) dX4_fits_103
    · have hF := zif c4 hF
      by_cases c9 : (R.2.2 2) = 87
      · have hF := zit c9 hF
        refine z_lin (k := 87) (tgt := 104) hx hb dX4_fits_4 rfl c9 rfl (by decide) ?_
        refine lv_aload_n hx hb dX4_fits_104 rfl (lv_at hl 0 rfl) ?_
        refine lv_iload_n hx hb dX4_fits_105 rfl (lv_at hl 1 rfl) ?_
        refine z_rgo (va_runV (As := [.int x1]) (rest := []) ⟨hx, hb, hml, hown, hts⟩ (c4_fitsWalker l g q b R x1) (cwV 1 hts gX4_fits_X4_fitsWalker rfl rfl rfl (by decide +kernel) ⟨Nat.le_of_ble_eq_true rfl, Nat.le_of_ble_eq_true rfl⟩) (z_rpreV (ci := 4) (q := (RX4, TX4, 4)) (q0 := 0) hP hK rfl rfl) rfl rfl hl.1 rfl (lv_room (Nat.le_of_ble_eq_true rfl)) dX4_fits_106 ⟨Nat.zero_le _, Nat.zero_le _⟩) ?_
        have e9a := zin hF
        exact z_rz hx hb hr hlk (b4_fitsWalker R x1) (congrArg (fun z => some (Value.int z)) e9a) dX4_fits_109
      · have hF := zif c9 hF
        refine lv_lookup (off := 106) (tgt := 110) hx hb dX4_fits_4 rfl ((lv_osw c1 rfl).trans ((lv_osw c4 rfl).trans ((lv_osw c9 rfl).trans (rfl)))) (by decide) ?_
        refine lv_iconst (v := 1) hx hb dX4_fits_110 (by decide) ?_
        have e9a := zin hF
        exact z_rz hx hb hr hlk rfl (congrArg (fun z => some (Value.int z)) e9a) dX4_fits_111
def f4_mayBegin (R : Rd) (x1 : Int32) : Int32 := if (R.2.2 2) = (-1) then if x1 = 66 then 1 else 0 else if x1 = 74 then if 6 ≤ ((R.1).1 2) then 0 else 1 else if x1 = 80 then (f3_hasRoomForPipe (R.1)) else if x1 = 87 then if 4 ≤ ((R.1).1 4) then 0 else if ((R.1).1 2) ≤ 0 then 0 else 1 else 0
abbrev rmX4_mayBegin : Room := { frames := 1, cells := 0, slots := 0, locals := 20 }
set_option maxHeartbeats 4000000 in
set_option maxRecDepth 100000 in
theorem c4_mayBegin (l : Launch) (g : zG) (q : Nat → Nat) (b : Nat) (R : Rd) (x1 : Int32) : zRO l g yX4_mayBegin wsX4_mayBegin rmX4_mayBegin [.ref (q b), .int x1] (RW g q b R) (some (.int (f4_mayBegin R x1))) := by
  obtain ⟨ro, hF⟩ : ∃ y : Int32, f4_mayBegin R x1 = y := ⟨_, rfl⟩
  rw [hF]
  refine zRO_of (cc := cX4_mayBegin) (maxL := 2) (ret := (some .boolean)) (by decide) rfl (Nat.le_of_ble_eq_true rfl) ?_
  intro p e s m args below meth c ls hx hb hr hml hts hown hlk hK hP hl
  have hown : s.vm.findClass RX4 = some m.cls := hown
  have hl : lv_has ls 2 [(0, .ref (q b)), (1, .int x1)] := hl
  have inX3 : ∀ w ∈ wsX30, w ∈ wsX4_mayBegin := fun _ h => List.mem_cons_of_mem _ (List.mem_append_right _ h)
  have inX4 : ∀ w ∈ wsX40, w ∈ wsX4_mayBegin := fun _ h => List.mem_cons_of_mem _ (List.mem_append_left _ (List.mem_append_right _ h))
  unfold f4_mayBegin at hF
  refine lv_aload_n hx hb dX4_mayBegin_0 rfl (lv_at hl 0 rfl) ?_
  refine z_get (ci := 4) (v := .int (R.2.2 2)) (C := RX4) (T := TX4) (N := 4) hx hb hts inX4 hown hK hP 0 rfl rfl 2 (by decide) (List.mem_of_getElem? (i := 1) rfl) rfl rfl dX4_mayBegin_1 ?_
  refine lv_iconst (v := (-1)) hx hb dX4_mayBegin_4 (by decide) ?_
  refine lv_icmp_ne (tgt := 20) hx hb dX4_mayBegin_5 (by decide) (fun c1 => ?_) (fun c1 => ?_)
  · have hF := zif c1 hF
    refine lv_iload_n hx hb dX4_mayBegin_20 rfl (lv_at hl 1 rfl) ?_
    by_cases c2 : x1 = 74
    · have hF := zit c2 hF
      refine z_lin (k := 74) (tgt := 56) hx hb dX4_mayBegin_21 rfl c2 rfl (by decide) ?_
      refine lv_aload_n hx hb dX4_mayBegin_56 rfl (lv_at hl 0 rfl) ?_
      refine z_get (ci := 4) (v := .ref (q (b + 2))) (C := RX4) (T := TX4) (N := 4) hx hb hts inX4 hown hK hP 0 rfl rfl 0 (by decide) (List.mem_of_getElem? (i := 2) rfl) rfl rfl dX4_mayBegin_57 ?_
      refine z_get (ci := 3) (v := .int ((R.1).1 2)) (C := RX3) (T := TX3) (N := 13) hx hb hts inX3 hown hK hP 2 rfl rfl 2 (by decide) (List.mem_of_getElem? (i := 3) rfl) rfl rfl dX4_mayBegin_60 ?_
      refine lv_bipush (v := 6) hx hb dX4_mayBegin_63 (by decide) ?_
      refine lv_icmp_ge (tgt := 72) hx hb dX4_mayBegin_65 (by decide) (fun c3 => ?_) (fun c3 => ?_)
      · have hF := zit c3 hF
        refine lv_iconst (v := 0) hx hb dX4_mayBegin_72 (by decide) ?_
        exact z_rz hx hb hr hlk rfl (congrArg (fun z => some (Value.int z)) hF) dX4_mayBegin_73
      · have hF := zif c3 hF
        refine lv_iconst (v := 1) hx hb dX4_mayBegin_68 (by decide) ?_
        refine lv_goto (tgt := 73) hx hb dX4_mayBegin_69 (by decide) ?_
        exact z_rz hx hb hr hlk rfl (congrArg (fun z => some (Value.int z)) hF) dX4_mayBegin_73
    · have hF := zif c2 hF
      by_cases c4 : x1 = 80
      · have hF := zit c4 hF
        refine z_lin (k := 80) (tgt := 74) hx hb dX4_mayBegin_21 rfl c4 rfl (by decide) ?_
        refine lv_aload_n hx hb dX4_mayBegin_74 rfl (lv_at hl 0 rfl) ?_
        refine z_get (ci := 4) (v := .ref (q (b + 2))) (C := RX4) (T := TX4) (N := 4) hx hb hts inX4 hown hK hP 0 rfl rfl 0 (by decide) (List.mem_of_getElem? (i := 2) rfl) rfl rfl dX4_mayBegin_75 ?_
        refine z_rgo (va_runV (As := []) (rest := []) ⟨hx, hb, hml, hown, hts⟩ (c3_hasRoomForPipe l g q (b + 2) (R.1) ) (cwV 0 hts gX4_mayBegin_X3_hasRoomForPipe rfl rfl rfl (by decide +kernel) ⟨Nat.le_of_ble_eq_true rfl, Nat.le_of_ble_eq_true rfl⟩) (z_rpreV (ci := 3) (q := (RX3, TX3, 13)) (q0 := 0) (hP.sub (ws' := NW g q (b + 2) (R.1)) [2, 3, 4, 5, 6, 7, 8, 9] rfl) hK rfl rfl) rfl rfl hl.1 rfl (lv_room (Nat.le_of_ble_eq_true rfl)) dX4_mayBegin_78 ⟨Nat.zero_le _, Nat.zero_le _⟩) ?_
        exact z_rz hx hb hr hlk (b3_hasRoomForPipe (R.1)) (congrArg (fun z => some (Value.int z)) hF) dX4_mayBegin_81
      · have hF := zif c4 hF
        by_cases c5 : x1 = 87
        · have hF := zit c5 hF
          refine z_lin (k := 87) (tgt := 82) hx hb dX4_mayBegin_21 rfl c5 rfl (by decide) ?_
          refine lv_aload_n hx hb dX4_mayBegin_82 rfl (lv_at hl 0 rfl) ?_
          refine z_get (ci := 4) (v := .ref (q (b + 2))) (C := RX4) (T := TX4) (N := 4) hx hb hts inX4 hown hK hP 0 rfl rfl 0 (by decide) (List.mem_of_getElem? (i := 2) rfl) rfl rfl dX4_mayBegin_83 ?_
          refine z_get (ci := 3) (v := .int ((R.1).1 4)) (C := RX3) (T := TX3) (N := 13) hx hb hts inX3 hown hK hP 2 rfl rfl 4 (by decide) (List.mem_of_getElem? (i := 4) rfl) rfl rfl dX4_mayBegin_86 ?_
          refine lv_iconst (v := 4) hx hb dX4_mayBegin_89 (by decide) ?_
          refine lv_icmp_ge (tgt := 107) hx hb dX4_mayBegin_90 (by decide) (fun c6 => ?_) (fun c6 => ?_)
          · have hF := zit c6 hF
            refine lv_iconst (v := 0) hx hb dX4_mayBegin_107 (by decide) ?_
            exact z_rz hx hb hr hlk rfl (congrArg (fun z => some (Value.int z)) hF) dX4_mayBegin_108
          · have hF := zif c6 hF
            refine lv_aload_n hx hb dX4_mayBegin_93 rfl (lv_at hl 0 rfl) ?_
            refine z_get (ci := 4) (v := .ref (q (b + 2))) (C := RX4) (T := TX4) (N := 4) hx hb hts inX4 hown hK hP 0 rfl rfl 0 (by decide) (List.mem_of_getElem? (i := 2) rfl) rfl rfl dX4_mayBegin_94 ?_
            refine z_get (ci := 3) (v := .int ((R.1).1 2)) (C := RX3) (T := TX3) (N := 13) hx hb hts inX3 hown hK hP 2 rfl rfl 2 (by decide) (List.mem_of_getElem? (i := 3) rfl) rfl rfl dX4_mayBegin_97 ?_
            refine lv_if_le (tgt := 107) hx hb dX4_mayBegin_100 (by decide) (fun c7 => ?_) (fun c7 => ?_)
            · have hF := zit c7 hF
              refine lv_iconst (v := 0) hx hb dX4_mayBegin_107 (by decide) ?_
              exact z_rz hx hb hr hlk rfl (congrArg (fun z => some (Value.int z)) hF) dX4_mayBegin_108
            · have hF := zif c7 hF
              refine lv_iconst (v := 1) hx hb dX4_mayBegin_103 (by decide) ?_
              refine lv_goto (tgt := 108) hx hb dX4_mayBegin_104 (by decide) ?_
              exact z_rz hx hb hr hlk rfl (congrArg (fun z => some (Value.int z)) hF) dX4_mayBegin_108
        · have hF := zif c5 hF
          refine lv_lookup (off := 88) (tgt := 109) hx hb dX4_mayBegin_21 rfl ((lv_osw c2 rfl).trans ((lv_osw c4 rfl).trans ((lv_osw c5 rfl).trans (rfl)))) (by decide) ?_
          refine lv_iconst (v := 0) hx hb dX4_mayBegin_109 (by decide) ?_
          exact z_rz hx hb hr hlk rfl (congrArg (fun z => some (Value.int z)) hF) dX4_mayBegin_110
  · have hF := zit c1 hF
    refine lv_iload_n hx hb dX4_mayBegin_8 rfl (lv_at hl 1 rfl) ?_
    refine lv_bipush (v := 66) hx hb dX4_mayBegin_9 (by decide) ?_
    refine lv_icmp_ne (tgt := 18) hx hb dX4_mayBegin_11 (by decide) (fun c8 => ?_) (fun c8 => ?_)
    · have hF := zif c8 hF
      refine lv_iconst (v := 0) hx hb dX4_mayBegin_18 (by decide) ?_
      exact z_rz hx hb hr hlk rfl (congrArg (fun z => some (Value.int z)) hF) dX4_mayBegin_19
    · have hF := zit c8 hF
      refine lv_iconst (v := 1) hx hb dX4_mayBegin_14 (by decide) ?_
      refine lv_goto (tgt := 19) hx hb dX4_mayBegin_15 (by decide) ?_
      exact z_rz hx hb hr hlk rfl (congrArg (fun z => some (Value.int z)) hF) dX4_mayBegin_19
theorem b4_mayBegin (R : Rd) (x1 : Int32) : narrow .boolean (.int (f4_mayBegin R x1)) = .int (f4_mayBegin R x1) := by
  unfold f4_mayBegin
  repeat' split
  all_goals first | rfl | exact b3_hasRoomForPipe _
def f4_takes_j15 (x1 : Int32) (R1 : Rd) : Option (Int32 × Rd) := if (f4_mayBegin R1 x1) = 0 then some (0, R1) else bd (rI R1 2 x1) (fun (R3 : Rd) => bd (rI R3 3 0) (fun (R4 : Rd) => some (1, R4)))
def f4_takes (R : Rd) (x1 : Int32) : Option (Int32 × Rd) := if (R.2.2 2) = (-1) then f4_takes_j15 x1 R else if (R.2.2 2) = 0 then f4_takes_j15 x1 R else bd (α := Int32) (x1 - 48) (fun (v7 : Int32) => if v7 < 0 then some (0, R) else if 9 < v7 then some (0, R) else (f4_fits R v7).bind fun v10 => if v10 = 0 then some (0, R) else bd (rF R (f6_put 4 (R.2.1) (R.2.2 3) v7)) (fun (R12 : Rd) => bd (rI R12 3 ((R12.2.2 3) + 1)) (fun (R13 : Rd) => if (R13.2.2 3) = (f4_figuresOfPart R13) then (f4_addPart R13).bind fun R15 => bd (rI R15 2 0) (fun (R16 : Rd) => some (1, R16)) else some (1, R13))))
abbrev rmX4_takes : Room := { frames := 4, cells := 0, slots := 0, locals := 89 }
set_option maxHeartbeats 4000000 in
set_option maxRecDepth 100000 in
theorem c4_takes (l : Launch) (g : zG) (q : Nat → Nat) (b : Nat) (R : Rd) (x1 : Int32) (ro : Int32) (R_o : Rd) (hF : f4_takes R x1 = some (ro, R_o)) : zRW l g yX4_takes wsX4_takes rmX4_takes [.ref (q b), .int x1] (RW g q b R) (some (.int ro)) (RW g q b R_o) := by
  refine zRW_of (cc := cX4_takes) (maxL := 3) (ret := (some .boolean)) (by decide) rfl (Nat.le_of_ble_eq_true rfl) ?_
  intro p e s m args below meth c A H locs ls hx hb hr hml hts hown hlk hK hA hP hD hS hl
  have hown : s.vm.findClass RX4 = some m.cls := hown
  have hl : lv_has ls 3 [(0, .ref (q b)), (1, .int x1)] := hl
  have inX4 : ∀ w ∈ wsX40, w ∈ wsX4_takes := fun _ h => List.mem_cons_of_mem _ (List.mem_append_left _ (List.mem_append_right _ h))
  unfold f4_takes at hF
  refine lv_aload_n hx hb dX4_takes_0 rfl (lv_at hl 0 rfl) ?_
  refine z_get (ci := 4) (v := .int (R.2.2 2)) (C := RX4) (T := TX4) (N := 4) hx hb hts inX4 hown hK hP 0 rfl rfl 2 (by decide) (List.mem_of_getElem? (i := 1) rfl) rfl rfl dX4_takes_1 ?_
  refine lv_iconst (v := (-1)) hx hb dX4_takes_4 (by decide) ?_
  have L15 : ∀ (R1 : Rd) (H : Heap) (locs : List Loc) (ls : Array Slot), f4_takes_j15 x1 R1 = some (ro, R_o) → va_P (zD g) vwCl (RW g q b R1) H → va_D A (RW g q b R1) → va_S A s.heap H locs → lv_has ls 3 [(0, .ref (q b)), (1, .int x1)] → W p l e (headSpec wsX4_takes rmX4_takes).room s m args below meth c H locs 0 0 (MQ below (zWQ g A (RW g q b R_o) (some (.int ro))) args s 0 0 A) (F0 m 15 ls []) := by
    intro R1 H locs ls hF hP hD hS hl
    unfold f4_takes_j15 at hF
    refine lv_aload_n hx hb dX4_takes_15 rfl (lv_at hl 0 rfl) ?_
    refine lv_iload_n hx hb dX4_takes_16 rfl (lv_at hl 1 rfl) ?_
    refine z_rgo (va_runV (As := [.int x1]) (rest := []) ⟨hx, hb, hml, hown, hts⟩ (c4_mayBegin l g q b R1 x1) (cwV 1 hts gX4_takes_X4_mayBegin rfl rfl rfl (by decide +kernel) ⟨Nat.le_of_ble_eq_true rfl, Nat.le_of_ble_eq_true rfl⟩) (z_rpreV (ci := 4) (q := (RX4, TX4, 4)) (q0 := 0) hP hK rfl rfl) rfl rfl hl.1 rfl (lv_room (Nat.le_of_ble_eq_true rfl)) dX4_takes_17 ⟨Nat.zero_le _, Nat.zero_le _⟩) ?_
    refine lv_if_ne (tgt := 25) hx hb dX4_takes_20 (by decide) (fun c2 => ?_) (fun c2 => ?_)
    · have hF := zif c2 hF
      refine lv_aload_n hx hb dX4_takes_25 rfl (lv_at hl 0 rfl) ?_
      refine lv_iload_n hx hb dX4_takes_26 rfl (lv_at hl 1 rfl) ?_
      refine z_put (ci := 4) (v := .int x1) (C := RX4) (T := TX4) (N := 4) (ws' := RW g q b (rI R1 2 x1)) hx hb hts inX4 tyX4 tyX4_ok nmX4 hown hK hP hD hS 0 rfl rfl 2 (by decide) (List.mem_of_getElem? (i := 1) rfl) rfl rfl rfl rfl (Nat.le_of_ble_eq_true rfl) rfl dX4_takes_27 (fun H locs hP hD hS => ?_)
      obtain ⟨R3, eR3⟩ : ∃ y : Rd, y = (rI R1 2 x1) := ⟨_, rfl⟩
      rw [← eR3] at hP hD
      have hF := bd_eq eR3 hF
      refine lv_aload_n hx hb dX4_takes_30 rfl (lv_at hl 0 rfl) ?_
      refine lv_iconst (v := 0) hx hb dX4_takes_31 (by decide) ?_
      refine z_put (ci := 4) (v := .int 0) (C := RX4) (T := TX4) (N := 4) (ws' := RW g q b (rI R3 3 0)) hx hb hts inX4 tyX4 tyX4_ok nmX4 hown hK hP hD hS 0 rfl rfl 3 (by decide) (List.mem_of_getElem? (i := 2) rfl) rfl rfl rfl rfl (Nat.le_of_ble_eq_true rfl) rfl dX4_takes_32 (fun H locs hP hD hS => ?_)
      obtain ⟨R4, eR4⟩ : ∃ y : Rd, y = (rI R3 3 0) := ⟨_, rfl⟩
      rw [← eR4] at hP hD
      have hF := bd_eq eR4 hF
      refine lv_iconst (v := 1) hx hb dX4_takes_35 (by decide) ?_
      obtain ⟨e9a, e9b⟩ := Prod.mk.inj (zin hF)
      exact z_wz hx hb hr hlk rfl hP hD hS (congrArg (fun z => some (Value.int z)) e9a) (by rw [e9b]) dX4_takes_36
    · have hF := zit c2 hF
      refine lv_iconst (v := 0) hx hb dX4_takes_23 (by decide) ?_
      obtain ⟨e9a, e9b⟩ := Prod.mk.inj (zin hF)
      exact z_wz hx hb hr hlk rfl hP hD hS (congrArg (fun z => some (Value.int z)) e9a) (by rw [e9b]) dX4_takes_24
  refine lv_icmp_eq (tgt := 15) hx hb dX4_takes_5 (by decide) (fun c5 => ?_) (fun c5 => ?_)
  · have hF := zit c5 hF
    exact L15 R H locs ls hF hP hD hS (lv_sub hl [0, 1] rfl)
  · have hF := zif c5 hF
    refine lv_aload_n hx hb dX4_takes_8 rfl (lv_at hl 0 rfl) ?_
    refine z_get (ci := 4) (v := .int (R.2.2 2)) (C := RX4) (T := TX4) (N := 4) hx hb hts inX4 hown hK hP 0 rfl rfl 2 (by decide) (List.mem_of_getElem? (i := 1) rfl) rfl rfl dX4_takes_9 ?_
    refine lv_if_ne (tgt := 37) hx hb dX4_takes_12 (by decide) (fun c6 => ?_) (fun c6 => ?_)
    · have hF := zif c6 hF
      refine lv_iload_n hx hb dX4_takes_37 rfl (lv_at hl 1 rfl) ?_
      refine lv_bipush (v := 48) hx hb dX4_takes_38 (by decide) ?_
      refine lv_isub hx hb dX4_takes_40 ?_
      refine lv_topi (fun v7 ev7 => ?_)
      have hF := bd_eq ev7 hF
      refine lv_istore_n (lv' := [(2, .int v7), (0, .ref (q b)), (1, .int x1)]) hx hb dX4_takes_41 rfl hl (by decide) rfl (fun ls hl => ?_)
      refine lv_iload_n hx hb dX4_takes_42 rfl (lv_at hl 0 rfl) ?_
      refine lv_if_lt (tgt := 60) hx hb dX4_takes_43 (by decide) (fun c8 => ?_) (fun c8 => ?_)
      · have hF := zit c8 hF
        refine lv_iconst (v := 0) hx hb dX4_takes_60 (by decide) ?_
        obtain ⟨e9a, e9b⟩ := Prod.mk.inj (zin hF)
        exact z_wz hx hb hr hlk rfl hP hD hS (congrArg (fun z => some (Value.int z)) e9a) (by rw [e9b]) dX4_takes_61
      · have hF := zif c8 hF
        refine lv_iload_n hx hb dX4_takes_46 rfl (lv_at hl 0 rfl) ?_
        refine lv_bipush (v := 9) hx hb dX4_takes_47 (by decide) ?_
        refine lv_icmp_gt (tgt := 60) hx hb dX4_takes_49 (by decide) (fun c9 => ?_) (fun c9 => ?_)
        · have hF := zit c9 hF
          refine lv_iconst (v := 0) hx hb dX4_takes_60 (by decide) ?_
          obtain ⟨e9a, e9b⟩ := Prod.mk.inj (zin hF)
          exact z_wz hx hb hr hlk rfl hP hD hS (congrArg (fun z => some (Value.int z)) e9a) (by rw [e9b]) dX4_takes_61
        · have hF := zif c9 hF
          refine lv_aload_n hx hb dX4_takes_52 rfl (lv_at hl 1 rfl) ?_
          refine lv_iload_n hx hb dX4_takes_53 rfl (lv_at hl 0 rfl) ?_
          obtain ⟨v10, hv10, hF⟩ := zob hF
          refine z_rgo (va_runV (As := [.int v7]) (rest := []) ⟨hx, hb, hml, hown, hts⟩ (c4_fits l g q b R v7 v10 hv10) (cwV 1 hts gX4_takes_X4_fits rfl rfl rfl (by decide +kernel) ⟨Nat.le_of_ble_eq_true rfl, Nat.le_of_ble_eq_true rfl⟩) (z_rpreV (ci := 4) (q := (RX4, TX4, 4)) (q0 := 0) hP hK rfl rfl) rfl rfl hl.1 rfl (lv_room (Nat.le_of_ble_eq_true rfl)) dX4_takes_54 ⟨Nat.zero_le _, Nat.zero_le _⟩) ?_
          refine lv_if_ne (tgt := 62) hx hb dX4_takes_57 (by decide) (fun c11 => ?_) (fun c11 => ?_)
          · have hF := zif c11 hF
            refine lv_aload_n hx hb dX4_takes_62 rfl (lv_at hl 1 rfl) ?_
            refine z_get (ci := 4) (v := .ref (q (b + 1))) (C := RX4) (T := TX4) (N := 4) hx hb hts inX4 hown hK hP 0 rfl rfl 1 (by decide) (List.mem_of_getElem? (i := 3) rfl) rfl rfl dX4_takes_63 ?_
            refine lv_aload_n hx hb dX4_takes_66 rfl (lv_at hl 1 rfl) ?_
            refine z_get (ci := 4) (v := .int (R.2.2 3)) (C := RX4) (T := TX4) (N := 4) hx hb hts inX4 hown hK hP 0 rfl rfl 3 (by decide) (List.mem_of_getElem? (i := 2) rfl) rfl rfl dX4_takes_67 ?_
            refine lv_iload_n hx hb dX4_takes_70 rfl (lv_at hl 0 rfl) ?_
            refine z_wgo (wn := RW g q b (rF R (f6_put 4 (R.2.1) (R.2.2 3) v7))) (va_runSN (As := [.ref (q (b + 1)), .int (R.2.2 3), .int v7]) (rest := []) ⟨hx, hb, hml, hown, hts⟩ ((c6_put l g (q (b + 1)) 4 (by decide) (R.2.1) (R.2.2 3) v7) H.size) ⟨va_cnB 3 hts gX4_takes_X6_put_n51 rfl rfl rfl (hK.nest 14 rfl) (hts (.initialized RX6) (List.mem_of_getElem? (i := 28) rfl)) (by decide +kernel) ⟨Nat.le_of_ble_eq_true rfl, Nat.le_of_ble_eq_true rfl⟩, hts (.static yX6_put) (List.mem_of_getElem? (i := 47) rfl), trivial⟩ (z_wpre (hP.sub (ws' := [((q (b + 1)), .inl (g.2.2.1, 4, .inl (R.2.1)))]) [1] rfl) hK (z_any (hD.sub (ws' := [((q (b + 1)), .inl (g.2.2.1, 4, .inl (R.2.1)))]) [1] (by decide) rfl))) rfl rfl hl.1 rfl (lv_room (Nat.le_of_ble_eq_true rfl)) dX4_takes_71 ⟨Nat.zero_le _, Nat.zero_le _⟩) hP hD hS hA [1] rfl (by decide) rfl rfl (fun H locs hP hD hS => ?_)
            show W p l e (headSpec wsX4_takes rmX4_takes).room s m args below meth c H locs 0 0 (MQ below (zWQ g A (RW g q b R_o) (some (.int ro))) args s 0 0 A) (F0 m 74 ls [])
            obtain ⟨R12, eR12⟩ : ∃ y : Rd, y = (rF R (f6_put 4 (R.2.1) (R.2.2 3) v7)) := ⟨_, rfl⟩
            rw [← eR12] at hP hD
            have hF := bd_eq eR12 hF
            refine lv_aload_n hx hb dX4_takes_74 rfl (lv_at hl 1 rfl) ?_
            refine lv_dup hx hb dX4_takes_75 rfl ?_
            refine z_get (ci := 4) (v := .int (R12.2.2 3)) (C := RX4) (T := TX4) (N := 4) hx hb hts inX4 hown hK hP 0 rfl rfl 3 (by decide) (List.mem_of_getElem? (i := 2) rfl) rfl rfl dX4_takes_76 ?_
            refine lv_iconst (v := 1) hx hb dX4_takes_79 (by decide) ?_
            refine lv_iadd hx hb dX4_takes_80 ?_
            refine z_put (ci := 4) (v := .int ((R12.2.2 3) + 1)) (C := RX4) (T := TX4) (N := 4) (ws' := RW g q b (rI R12 3 ((R12.2.2 3) + 1))) hx hb hts inX4 tyX4 tyX4_ok nmX4 hown hK hP hD hS 0 rfl rfl 3 (by decide) (List.mem_of_getElem? (i := 2) rfl) rfl rfl rfl rfl (Nat.le_of_ble_eq_true rfl) rfl dX4_takes_81 (fun H locs hP hD hS => ?_)
            obtain ⟨R13, eR13⟩ : ∃ y : Rd, y = (rI R12 3 ((R12.2.2 3) + 1)) := ⟨_, rfl⟩
            rw [← eR13] at hP hD
            have hF := bd_eq eR13 hF
            refine lv_aload_n hx hb dX4_takes_84 rfl (lv_at hl 1 rfl) ?_
            refine z_get (ci := 4) (v := .int (R13.2.2 3)) (C := RX4) (T := TX4) (N := 4) hx hb hts inX4 hown hK hP 0 rfl rfl 3 (by decide) (List.mem_of_getElem? (i := 2) rfl) rfl rfl dX4_takes_85 ?_
            refine lv_aload_n hx hb dX4_takes_88 rfl (lv_at hl 1 rfl) ?_
            refine z_rgo (va_runV (As := []) (rest := [.int (R13.2.2 3)]) ⟨hx, hb, hml, hown, hts⟩ (c4_figuresOfPart l g q b R13 ) (cwV 0 hts gX4_takes_X4_figuresOfPart rfl rfl rfl (by decide +kernel) ⟨Nat.le_of_ble_eq_true rfl, Nat.le_of_ble_eq_true rfl⟩) (z_rpreV (ci := 4) (q := (RX4, TX4, 4)) (q0 := 0) hP hK rfl rfl) rfl rfl hl.1 rfl (lv_room (Nat.le_of_ble_eq_true rfl)) dX4_takes_89 ⟨Nat.zero_le _, Nat.zero_le _⟩) ?_
            refine lv_icmp_ne (tgt := 104) hx hb dX4_takes_92 (by decide) (fun c14 => ?_) (fun c14 => ?_)
            · have hF := zif c14 hF
              refine lv_iconst (v := 1) hx hb dX4_takes_104 (by decide) ?_
              obtain ⟨e9a, e9b⟩ := Prod.mk.inj (zin hF)
              exact z_wz hx hb hr hlk rfl hP hD hS (congrArg (fun z => some (Value.int z)) e9a) (by rw [e9b]) dX4_takes_105
            · have hF := zit c14 hF
              refine lv_aload_n hx hb dX4_takes_95 rfl (lv_at hl 1 rfl) ?_
              obtain ⟨R15, hR15, hF⟩ := zob hF
              refine z_wgoW (va_runV (As := []) (rest := []) ⟨hx, hb, hml, hown, hts⟩ ((c4_addPart l g q b R13   R15 hR15) H.size) (cwV 0 hts gX4_takes_X4_addPart rfl rfl rfl (by decide +kernel) ⟨Nat.le_of_ble_eq_true rfl, Nat.le_of_ble_eq_true rfl⟩) (z_wpreV (ci := 4) (q := (RX4, TX4, 4)) (q0 := 0) hP hK (z_any hD) rfl rfl) rfl rfl hl.1 rfl (lv_room (Nat.le_of_ble_eq_true rfl)) dX4_takes_96 ⟨Nat.zero_le _, Nat.zero_le _⟩) hP hD hS hA (fun H locs hP hD hS => ?_)
              show W p l e (headSpec wsX4_takes rmX4_takes).room s m args below meth c H locs 0 0 (MQ below (zWQ g A (RW g q b R_o) (some (.int ro))) args s 0 0 A) (F0 m 99 ls [])
              refine lv_aload_n hx hb dX4_takes_99 rfl (lv_at hl 1 rfl) ?_
              refine lv_iconst (v := 0) hx hb dX4_takes_100 (by decide) ?_
              refine z_put (ci := 4) (v := .int 0) (C := RX4) (T := TX4) (N := 4) (ws' := RW g q b (rI R15 2 0)) hx hb hts inX4 tyX4 tyX4_ok nmX4 hown hK hP hD hS 0 rfl rfl 2 (by decide) (List.mem_of_getElem? (i := 1) rfl) rfl rfl rfl rfl (Nat.le_of_ble_eq_true rfl) rfl dX4_takes_101 (fun H locs hP hD hS => ?_)
              obtain ⟨R16, eR16⟩ : ∃ y : Rd, y = (rI R15 2 0) := ⟨_, rfl⟩
              rw [← eR16] at hP hD
              have hF := bd_eq eR16 hF
              refine lv_iconst (v := 1) hx hb dX4_takes_104 (by decide) ?_
              obtain ⟨e9a, e9b⟩ := Prod.mk.inj (zin hF)
              exact z_wz hx hb hr hlk rfl hP hD hS (congrArg (fun z => some (Value.int z)) e9a) (by rw [e9b]) dX4_takes_105
          · have hF := zit c11 hF
            refine lv_iconst (v := 0) hx hb dX4_takes_60 (by decide) ?_
            obtain ⟨e9a, e9b⟩ := Prod.mk.inj (zin hF)
            exact z_wz hx hb hr hlk rfl hP hD hS (congrArg (fun z => some (Value.int z)) e9a) (by rw [e9b]) dX4_takes_61
    · have hF := zit c6 hF
      exact L15 R H locs ls hF hP hD hS (lv_sub hl [0, 1] rfl)
def f4_read_l14 (T : Le) : Nat → Int32 → Rd → Option (Int32 × Rd)
  | 0, _, _ => none
  | n14 + 1, y4, R5 => if (T.2) ≤ y4 then if (R5.2.2 2) = 0 then some ((-9), R5) else some ((T.2), R5) else (f4_takes R5 (f1_at T y4)).bind fun (v9, R8) => if v9 = 0 then some (y4, R8) else f4_read_l14 T n14 (y4 + 1) R8
def f4_read (R : Rd) (T : Le) : Option (Int32 × Rd) := (f3_clear (R.1)).bind fun N1 => bd (rN R N1) (fun (R2 : Rd) => bd (rI R2 2 (-1)) (fun (R3 : Rd) => f4_read_l14 T FU 0 R3))
abbrev rmX4_read : Room := { frames := 5, cells := 0, slots := 0, locals := 111 }
set_option maxHeartbeats 4000000 in
set_option maxRecDepth 100000 in
theorem c4_read (l : Launch) (g : zG) (q : Nat → Nat) (b : Nat) (r : Nat → Nat) (d : Nat) (R : Rd) (T : Le) (ro : Int32) (R_o : Rd) (hF : f4_read R T = some (ro, R_o)) : zRW l g yX4_read wsX4_read rmX4_read [.ref (q b), .ref (r d)] (RW g q b R ++ LW g r d T) (some (.int ro)) (RW g q b R_o ++ LW g r d T) := by
  refine zRW_of (cc := cX4_read) (maxL := 3) (ret := (some .int)) (by decide) rfl (Nat.le_of_ble_eq_true rfl) ?_
  intro p e s m args below meth c A H locs ls hx hb hr hml hts hown hlk hK hA hP hD hS hl
  have hown : s.vm.findClass RX4 = some m.cls := hown
  have hl : lv_has ls 3 [(0, .ref (q b)), (1, .ref (r d))] := hl
  have inX1 : ∀ w ∈ wsX10, w ∈ wsX4_read := fun _ h => List.mem_cons_of_mem _ (List.mem_append_left _ (List.mem_append_right _ h))
  have inX4 : ∀ w ∈ wsX40, w ∈ wsX4_read := fun _ h => List.mem_cons_of_mem _ (List.mem_append_left _ (List.mem_append_left _ (List.mem_append_right _ h)))
  unfold f4_read at hF
  refine lv_aload_n hx hb dX4_read_0 rfl (lv_at hl 0 rfl) ?_
  refine z_get (ci := 4) (v := .ref (q (b + 2))) (C := RX4) (T := TX4) (N := 4) hx hb hts inX4 hown hK hP 0 rfl rfl 0 (by decide) (List.mem_of_getElem? (i := 1) rfl) rfl rfl dX4_read_1 ?_
  obtain ⟨N1, hN1, hF⟩ := zob hF
  refine z_wgo (wn := (RW g q b (rN R N1) ++ LW g r d T)) (va_runV (As := []) (rest := []) ⟨hx, hb, hml, hown, hts⟩ ((c3_clear l g q (b + 2) (R.1)   N1 hN1) H.size) (cwV 0 hts gX4_read_X3_clear rfl rfl rfl (by decide +kernel) ⟨Nat.le_of_ble_eq_true rfl, Nat.le_of_ble_eq_true rfl⟩) (z_wpreV (ci := 3) (q := (RX3, TX3, 13)) (q0 := 0) (hP.sub (ws' := NW g q (b + 2) (R.1)) [2, 3, 4, 5, 6, 7, 8, 9] rfl) hK (z_any (hD.sub (ws' := NW g q (b + 2) (R.1)) [2, 3, 4, 5, 6, 7, 8, 9] (by decide) rfl)) rfl rfl) rfl rfl hl.1 rfl (lv_room (Nat.le_of_ble_eq_true rfl)) dX4_read_4 ⟨Nat.zero_le _, Nat.zero_le _⟩) hP hD hS hA [2, 3, 4, 5, 6, 7, 8, 9] rfl (by decide) rfl rfl (fun H locs hP hD hS => ?_)
  show W p l e (headSpec wsX4_read rmX4_read).room s m args below meth c H locs 0 0 (MQ below (zWQ g A (RW g q b R_o ++ LW g r d T) (some (.int ro))) args s 0 0 A) (F0 m 7 ls [])
  obtain ⟨R2, eR2⟩ : ∃ y : Rd, y = (rN R N1) := ⟨_, rfl⟩
  rw [← eR2] at hP hD
  have hF := bd_eq eR2 hF
  refine lv_aload_n hx hb dX4_read_7 rfl (lv_at hl 0 rfl) ?_
  refine lv_iconst (v := (-1)) hx hb dX4_read_8 (by decide) ?_
  refine z_put (ci := 4) (v := .int (-1)) (C := RX4) (T := TX4) (N := 4) (ws' := (RW g q b (rI R2 2 (-1)) ++ LW g r d T)) hx hb hts inX4 tyX4 tyX4_ok nmX4 hown hK hP hD hS 0 rfl rfl 2 (by decide) (List.mem_of_getElem? (i := 2) rfl) rfl rfl rfl rfl (Nat.le_of_ble_eq_true rfl) rfl dX4_read_9 (fun H locs hP hD hS => ?_)
  obtain ⟨R3, eR3⟩ : ∃ y : Rd, y = (rI R2 2 (-1)) := ⟨_, rfl⟩
  rw [← eR3] at hP hD
  have hF := bd_eq eR3 hF
  refine lv_iconst (v := 0) hx hb dX4_read_12 (by decide) ?_
  refine lv_istore_n (lv' := [(2, .int 0), (0, .ref (q b)), (1, .ref (r d))]) hx hb dX4_read_13 rfl hl (by decide) rfl (fun ls hl => ?_)
  have L14 : ∀ (n14 : Nat) (y4 : Int32) (R5 : Rd) (H : Heap) (locs : List Loc) (ls : Array Slot), f4_read_l14 T n14 y4 R5 = some (ro, R_o) → va_P (zD g) vwCl (RW g q b R5 ++ LW g r d T) H → va_D A (RW g q b R5 ++ LW g r d T) → va_S A s.heap H locs → lv_has ls 3 [(0, .ref (q b)), (1, .ref (r d)), (2, .int y4)] → W p l e (headSpec wsX4_read rmX4_read).room s m args below meth c H locs 0 0 (MQ below (zWQ g A (RW g q b R_o ++ LW g r d T) (some (.int ro))) args s 0 0 A) (F0 m 14 ls []) := by
    intro n14
    induction n14 with
    | zero =>
      intro y4 R5 H locs ls hF hP hD hS hl
      exact absurd (show (none : Option (Int32 × Rd)) = some _ from hF) (fun h9 => by cases h9)
    | succ n14 ih14 =>
      intro y4 R5 H locs ls hF hP hD hS hl
      rw [f4_read_l14] at hF
      refine lv_iload_n hx hb dX4_read_14 rfl (lv_at hl 2 rfl) ?_
      refine lv_aload_n hx hb dX4_read_15 rfl (lv_at hl 1 rfl) ?_
      refine z_get (ci := 1) (v := .int (T.2)) (C := RX1) (T := TX1) (N := 2) hx hb hts inX1 hown hK hP 10 rfl rfl 1 (by decide) (List.mem_of_getElem? (i := 3) rfl) rfl rfl dX4_read_16 ?_
      refine lv_icmp_ge (tgt := 42) hx hb dX4_read_19 (by decide) (fun c6 => ?_) (fun c6 => ?_)
      · have hF := zit c6 hF
        refine lv_aload_n hx hb dX4_read_42 rfl (lv_at hl 0 rfl) ?_
        refine z_get (ci := 4) (v := .int (R5.2.2 2)) (C := RX4) (T := TX4) (N := 4) hx hb hts inX4 hown hK hP 0 rfl rfl 2 (by decide) (List.mem_of_getElem? (i := 2) rfl) rfl rfl dX4_read_43 ?_
        refine lv_if_ne (tgt := 54) hx hb dX4_read_46 (by decide) (fun c7 => ?_) (fun c7 => ?_)
        · have hF := zif c7 hF
          refine lv_aload_n hx hb dX4_read_54 rfl (lv_at hl 1 rfl) ?_
          refine z_get (ci := 1) (v := .int (T.2)) (C := RX1) (T := TX1) (N := 2) hx hb hts inX1 hown hK hP 10 rfl rfl 1 (by decide) (List.mem_of_getElem? (i := 3) rfl) rfl rfl dX4_read_55 ?_
          obtain ⟨e9a, e9b⟩ := Prod.mk.inj (zin hF)
          exact z_wi hx hb hr hlk hP hD hS (congrArg (fun z => some (Value.int z)) e9a) (by rw [e9b]) dX4_read_58
        · have hF := zit c7 hF
          refine lv_bipush (v := (-9)) hx hb dX4_read_49 (by decide) ?_
          refine lv_goto (tgt := 58) hx hb dX4_read_51 (by decide) ?_
          obtain ⟨e9a, e9b⟩ := Prod.mk.inj (zin hF)
          exact z_wi hx hb hr hlk hP hD hS (congrArg (fun z => some (Value.int z)) e9a) (by rw [e9b]) dX4_read_58
      · have hF := zif c6 hF
        refine lv_aload_n hx hb dX4_read_22 rfl (lv_at hl 0 rfl) ?_
        refine lv_aload_n hx hb dX4_read_23 rfl (lv_at hl 1 rfl) ?_
        refine lv_iload_n hx hb dX4_read_24 rfl (lv_at hl 2 rfl) ?_
        refine z_rgo (va_runV (As := [.int y4]) (rest := [.ref (q b)]) ⟨hx, hb, hml, hown, hts⟩ (c1_at l g r d T y4) (cwV 1 hts gX4_read_X1_at rfl rfl rfl (by decide +kernel) ⟨Nat.le_of_ble_eq_true rfl, Nat.le_of_ble_eq_true rfl⟩) (z_rpreV (ci := 1) (q := (RX1, TX1, 2)) (q0 := 0) (hP.sub (ws' := LW g r d T) [10, 11] rfl) hK rfl rfl) rfl rfl hl.1 rfl (lv_room (Nat.le_of_ble_eq_true rfl)) dX4_read_25 ⟨Nat.zero_le _, Nat.zero_le _⟩) ?_
        obtain ⟨⟨v9, R8⟩, hR8, hF⟩ := zob hF
        refine z_wgo (wn := (RW g q b R8 ++ LW g r d T)) (va_runV (As := [.int (f1_at T y4)]) (rest := []) ⟨hx, hb, hml, hown, hts⟩ ((c4_takes l g q b R5 (f1_at T y4) v9  R8 hR8) H.size) (cwV 1 hts gX4_read_X4_takes rfl rfl rfl (by decide +kernel) ⟨Nat.le_of_ble_eq_true rfl, Nat.le_of_ble_eq_true rfl⟩) (z_wpreV (ci := 4) (q := (RX4, TX4, 4)) (q0 := 0) (hP.sub (ws' := RW g q b R5) [0, 1, 2, 3, 4, 5, 6, 7, 8, 9] rfl) hK (z_any (hD.sub (ws' := RW g q b R5) [0, 1, 2, 3, 4, 5, 6, 7, 8, 9] (by decide) rfl)) rfl rfl) rfl rfl hl.1 rfl (lv_room (Nat.le_of_ble_eq_true rfl)) dX4_read_28 ⟨Nat.zero_le _, Nat.zero_le _⟩) hP hD hS hA [0, 1, 2, 3, 4, 5, 6, 7, 8, 9] rfl (by decide) rfl rfl (fun H locs hP hD hS => ?_)
        show W p l e (headSpec wsX4_read rmX4_read).room s m args below meth c H locs 0 0 (MQ below (zWQ g A (RW g q b R_o ++ LW g r d T) (some (.int ro))) args s 0 0 A) (F0 m 31 ls [.int v9])
        refine lv_if_ne (tgt := 36) hx hb dX4_read_31 (by decide) (fun c10 => ?_) (fun c10 => ?_)
        · have hF := zif c10 hF
          refine lv_iinc (v := (y4 + 1)) (lv' := [(2, .int (y4 + 1)), (0, .ref (q b)), (1, .ref (r d))]) hx hb dX4_read_36 hl (k := 2) rfl rfl (by decide) rfl (fun ls hl => ?_)
          refine lv_goto (tgt := 14) hx hb dX4_read_39 (by decide) ?_
          exact ih14 (y4 + 1) R8 H locs ls hF hP hD hS (lv_sub hl [1, 2, 0] rfl)
        · have hF := zit c10 hF
          refine lv_iload_n hx hb dX4_read_34 rfl (lv_at hl 2 rfl) ?_
          obtain ⟨e9a, e9b⟩ := Prod.mk.inj (zin hF)
          exact z_wi hx hb hr hlk hP hD hS (congrArg (fun z => some (Value.int z)) e9a) (by rw [e9b]) dX4_read_35
  exact L14 FU 0 R3 H locs ls hF hP hD hS (lv_sub hl [1, 2, 0] rfl)

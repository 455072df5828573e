def f6_rightAmong (C : Cs) (x1 : Int32) : Option (Int32 × Cs) := (f2_copy (C.1 1) (C.1 0)).bind fun M1 => bd (cM C 1 M1) (fun (C2 : Cs) => bd (cM C2 1 (sI (C2.1 1) 4 x1)) (fun (C3 : Cs) => (f2_advanceTimes (C3.1 1) ((C3.2.2.2.2.2.1).1) 20).bind fun M4 => bd (cM C3 1 M4) (fun (C5 : Cs) => (f2_right (C5.1 1) ((C5.2.2.2.2.2.1).1)).bind fun v6 => some ((f6_bitCount_0f7a4 v6), C5))))
abbrev rmX6_rightAmong : Room := { frames := 5, cells := 0, slots := 0, locals := 120 }
set_option maxHeartbeats 4000000 in
set_option maxRecDepth 100000 in
theorem c6_rightAmong (l : Launch) (g : zG) (q : Nat → Nat) (C : Cs) (x1 : Int32) (ro : Int32) (C_o : Cs) (hF : f6_rightAmong C x1 = some (ro, C_o)) : zRW l g yX6_rightAmong wsX6_rightAmong rmX6_rightAmong [.ref (q 0), .int x1] (CW g q C) (some (.int ro)) (CW g q C_o) := by
  refine zRW_of (cc := cX6_rightAmong) (maxL := 2) (ret := (some .int)) (by decide) rfl (Nat.le_of_ble_eq_true rfl) ?_
  intro p e s m args below meth c A H locs ls hx hb hr hml hts hown hlk hK hA hP hD hS hl
  have hown : s.vm.findClass RX6 = some m.cls := hown
  have hl : lv_has ls 2 [(0, .ref (q 0)), (1, .int x1)] := hl
  have inX2 : ∀ w ∈ wsX20, w ∈ wsX6_rightAmong := fun _ h => List.mem_cons_of_mem _ (List.mem_append_left _ (List.mem_append_right _ h))
  have inX6 : ∀ w ∈ wsX60, w ∈ wsX6_rightAmong := fun _ h => List.mem_cons_of_mem _ (List.mem_append_left _ (List.mem_append_left _ (List.mem_append_right _ h)))
  unfold f6_rightAmong at hF
  refine lv_aload_n hx hb dX6_rightAmong_0 rfl (lv_at hl 0 rfl) ?_
  refine z_get (ci := 6) (v := .ref (q 28)) (C := RX6) (T := TX6) (N := 13) hx hb hts inX6 hown hK hP 0 (cwp_0 g q C) rfl 5 (by decide) (List.mem_of_getElem? (i := 1) rfl) rfl rfl dX6_rightAmong_1 ?_
  refine lv_aload_n hx hb dX6_rightAmong_4 rfl (lv_at hl 0 rfl) ?_
  refine z_get (ci := 6) (v := .ref (q 23)) (C := RX6) (T := TX6) (N := 13) hx hb hts inX6 hown hK hP 0 (cwp_0 g q C) rfl 4 (by decide) (List.mem_of_getElem? (i := 2) rfl) rfl rfl dX6_rightAmong_5 ?_
  obtain ⟨M1, hM1, hF⟩ := zob hF
  refine z_wgo (wn := CW g q (cM C 1 M1)) (va_runV (As := [.ref (q 23)]) (rest := []) ⟨hx, hb, hml, hown, hts⟩ ((c2_copy l g q 28 q 23 (C.1 1) (C.1 0)   M1 hM1) H.size) (cwV 1 hts gX6_rightAmong_X2_copy rfl rfl rfl (by decide +kernel) ⟨Nat.le_of_ble_eq_true rfl, Nat.le_of_ble_eq_true rfl⟩) (z_wpreV (ci := 2) (q := (RX2, TX2, 9)) (q0 := 0) (z_Psub hP _ (cwm_28_10_27 g q C)) hK (z_any (hD.sub _ (by decide) (cwm_28_10_27 g q C))) rfl rfl) rfl rfl hl.1 rfl (lv_room (Nat.le_of_ble_eq_true rfl)) dX6_rightAmong_8 ⟨Nat.zero_le _, Nat.zero_le _⟩) hP hD hS hA _ (cwm_28_10_27 g q C) (by decide) rfl (cww_28_10_27 g q C M1) (fun H locs hP hD hS => ?_)
  show W p l e (headSpec wsX6_rightAmong rmX6_rightAmong).room s m args below meth c H locs 0 0 (MQ below (zWQ g A (CW g q C_o) (some (.int ro))) args s 0 0 A) (F0 m 11 ls [])
  obtain ⟨C2, eC2⟩ : ∃ y : Cs, y = (cM C 1 M1) := ⟨_, rfl⟩
  rw [← eC2] at hP hD
  have hF := bd_eq eC2 hF
  refine lv_aload_n hx hb dX6_rightAmong_11 rfl (lv_at hl 0 rfl) ?_
  refine z_get (ci := 6) (v := .ref (q 28)) (C := RX6) (T := TX6) (N := 13) hx hb hts inX6 hown hK hP 0 (cwp_0 g q C2) rfl 5 (by decide) (List.mem_of_getElem? (i := 1) rfl) rfl rfl dX6_rightAmong_12 ?_
  refine lv_iload_n hx hb dX6_rightAmong_15 rfl (lv_at hl 1 rfl) ?_
  refine z_put (ci := 2) (v := .int x1) (C := RX2) (T := TX2) (N := 9) (ws' := CW g q (cM C2 1 (sI (C2.1 1) 4 x1))) hx hb hts inX2 tyX2 tyX2_ok nmX2 hown hK hP hD hS 28 (cwp_28 g q C2) rfl 4 (by decide) (List.mem_of_getElem? (i := 3) rfl) rfl rfl rfl rfl (Nat.le_of_ble_eq_true rfl) (cwst_28_4 g q C2 x1) dX6_rightAmong_16 (fun H locs hP hD hS => ?_)
  obtain ⟨C3, eC3⟩ : ∃ y : Cs, y = (cM C2 1 (sI (C2.1 1) 4 x1)) := ⟨_, rfl⟩
  rw [← eC3] at hP hD
  have hF := bd_eq eC3 hF
  refine lv_aload_n hx hb dX6_rightAmong_19 rfl (lv_at hl 0 rfl) ?_
  refine z_get (ci := 6) (v := .ref (q 28)) (C := RX6) (T := TX6) (N := 13) hx hb hts inX6 hown hK hP 0 (cwp_0 g q C3) rfl 5 (by decide) (List.mem_of_getElem? (i := 1) rfl) rfl rfl dX6_rightAmong_20 ?_
  refine lv_bipush (v := 20) hx hb dX6_rightAmong_23 (by decide) ?_
  refine lv_aload_n hx hb dX6_rightAmong_25 rfl (lv_at hl 0 rfl) ?_
  refine z_get (ci := 6) (v := .ref (q (13 + 2))) (C := RX6) (T := TX6) (N := 13) hx hb hts inX6 hown hK hP 0 (cwp_0 g q C3) rfl 3 (by decide) (List.mem_of_getElem? (i := 4) rfl) rfl rfl dX6_rightAmong_26 ?_
  obtain ⟨M4, hM4, hF⟩ := zob hF
  refine z_wgo (wn := CW g q (cM C3 1 M4)) (va_runV (As := [.int 20, .ref (q (13 + 2))]) (rest := []) ⟨hx, hb, hml, hown, hts⟩ ((c2_advanceTimes l g q 28 q (13 + 2) (C3.1 1) ((C3.2.2.2.2.2.1).1) 20  M4 hM4) H.size) (cwV 2 hts gX6_rightAmong_X2_advanceTimes rfl rfl rfl (by decide +kernel) ⟨Nat.le_of_ble_eq_true rfl, Nat.le_of_ble_eq_true rfl⟩) (z_wpreV (ci := 2) (q := (RX2, TX2, 9)) (q0 := 0) (z_Psub hP _ (cwm_28_13_22 g q C3)) hK (z_any (hD.sub _ (by decide) (cwm_28_13_22 g q C3))) rfl rfl) rfl rfl hl.1 rfl (lv_room (Nat.le_of_ble_eq_true rfl)) dX6_rightAmong_29 ⟨Nat.zero_le _, Nat.zero_le _⟩) hP hD hS hA _ (cwm_28_13_22 g q C3) (by decide) rfl (cww_28_13_22 g q C3 M4) (fun H locs hP hD hS => ?_)
  show W p l e (headSpec wsX6_rightAmong rmX6_rightAmong).room s m args below meth c H locs 0 0 (MQ below (zWQ g A (CW g q C_o) (some (.int ro))) args s 0 0 A) (F0 m 32 ls [])
  obtain ⟨C5, eC5⟩ : ∃ y : Cs, y = (cM C3 1 M4) := ⟨_, rfl⟩
  rw [← eC5] at hP hD
  have hF := bd_eq eC5 hF
  refine lv_aload_n hx hb dX6_rightAmong_32 rfl (lv_at hl 0 rfl) ?_
  refine z_get (ci := 6) (v := .ref (q 28)) (C := RX6) (T := TX6) (N := 13) hx hb hts inX6 hown hK hP 0 (cwp_0 g q C5) rfl 5 (by decide) (List.mem_of_getElem? (i := 1) rfl) rfl rfl dX6_rightAmong_33 ?_
  refine lv_aload_n hx hb dX6_rightAmong_36 rfl (lv_at hl 0 rfl) ?_
  refine z_get (ci := 6) (v := .ref (q (13 + 2))) (C := RX6) (T := TX6) (N := 13) hx hb hts inX6 hown hK hP 0 (cwp_0 g q C5) rfl 3 (by decide) (List.mem_of_getElem? (i := 4) rfl) rfl rfl dX6_rightAmong_37 ?_
  obtain ⟨v6, hv6, hF⟩ := zob hF
  refine z_rgo (va_runV (As := [.ref (q (13 + 2))]) (rest := []) ⟨hx, hb, hml, hown, hts⟩ (c2_right l g q 28 q (13 + 2) (C5.1 1) ((C5.2.2.2.2.2.1).1)  v6 hv6) (cwV 1 hts gX6_rightAmong_X2_right rfl rfl rfl (by decide +kernel) ⟨Nat.le_of_ble_eq_true rfl, Nat.le_of_ble_eq_true rfl⟩) (z_rpreV (ci := 2) (q := (RX2, TX2, 9)) (q0 := 0) (z_Psub hP _ (cwm_28_13_22 g q C5)) hK rfl rfl) rfl rfl hl.1 rfl (lv_room (Nat.le_of_ble_eq_true rfl)) dX6_rightAmong_40 ⟨Nat.zero_le _, Nat.zero_le _⟩) ?_
  refine z_rgo (va_runS (As := [.int v6]) (rest := []) ⟨hx, hb, hml, hown, hts⟩ (c6_bitCount_0f7a4 l g   v6) (va_cwS 1 hts gX6_rightAmong_J6_bitCount_0f7a4 rfl rfl rfl (by decide +kernel) ⟨Nat.le_of_ble_eq_true rfl, Nat.le_of_ble_eq_true rfl⟩) (z_rpre z_nil hK) rfl rfl hl.1 rfl (lv_room (Nat.le_of_ble_eq_true rfl)) dX6_rightAmong_43 ⟨Nat.zero_le _, Nat.zero_le _⟩) ?_
  obtain ⟨e9a, e9b⟩ := Prod.mk.inj (zin hF)
  exact z_wi hx hb hr hlk hP hD hS (congrArg (fun z => some (Value.int z)) e9a) (by rw [e9b]) dX6_rightAmong_46
noncomputable def f6_seal (C : Cs) (x1 : Int32) : Option (Int32 × Cs) := if (f6_isNoJoint C x1) = 0 then if (f6_has (((C.2.2.2.2.2.1).1).1 5) x1) = 0 then some ((-3), C) else (f5_push (C.2.1, C.2.2.1) (C.1 0)).bind fun P3 => bd (cRo (cRM C P3.1) P3.2) (fun (C5 : Cs) => (f2_turnLid (C5.1 0) x1).bind fun M6 => bd (cM C5 0 M6) (fun (C7 : Cs) => some ((f6_flag (f6_has ((C7.1 0).1 7) x1)), C7))) else some ((-1), C)
abbrev rmX6_seal : Room := { frames := 3, cells := 0, slots := 0, locals := 66 }
set_option maxHeartbeats 4000000 in
set_option maxRecDepth 100000 in
theorem c6_seal (l : Launch) (g : zG) (q : Nat → Nat) (C : Cs) (x1 : Int32) (ro : Int32) (C_o : Cs) (hF : f6_seal C x1 = some (ro, C_o)) : zRW l g yX6_seal wsX6_seal rmX6_seal [.ref (q 0), .int x1] (CW g q C) (some (.int ro)) (CW g q C_o) := by
  refine zRW_of (cc := cX6_seal) (maxL := 2) (ret := (some .int)) (by decide) rfl (Nat.le_of_ble_eq_true rfl) ?_
  intro p e s m args below meth c A H locs ls hx hb hr hml hts hown hlk hK hA hP hD hS hl
  have hown : s.vm.findClass RX6 = some m.cls := hown
  have hl : lv_has ls 2 [(0, .ref (q 0)), (1, .int x1)] := hl
  have inX2 : ∀ w ∈ wsX20, w ∈ wsX6_seal := fun _ h => List.mem_cons_of_mem _ (List.mem_append_left _ (List.mem_append_right _ h))
  have inX3 : ∀ w ∈ wsX30, w ∈ wsX6_seal := fun _ h => List.mem_cons_of_mem _ (List.mem_append_left _ (List.mem_append_left _ (List.mem_append_right _ h)))
  have inX6 : ∀ w ∈ wsX60, w ∈ wsX6_seal := fun _ h => List.mem_cons_of_mem _ (List.mem_append_left _ (List.mem_append_left _ (List.mem_append_left _ (List.mem_append_right _ h))))
  unfold f6_seal at hF
  refine lv_aload_n hx hb dX6_seal_0 rfl (lv_at hl 0 rfl) ?_
  refine lv_iload_n hx hb dX6_seal_1 rfl (lv_at hl 1 rfl) ?_
  refine z_rgo (va_runV (As := [.int x1]) (rest := []) ⟨hx, hb, hml, hown, hts⟩ (c6_isNoJoint l g q C x1) (cwV 1 hts gX6_seal_X6_isNoJoint rfl rfl rfl (by decide +kernel) ⟨Nat.le_of_ble_eq_true rfl, Nat.le_of_ble_eq_true rfl⟩) (z_rpreV (ci := 6) (q := (RX6, TX6, 13)) (q0 := 0) hP hK rfl rfl) rfl rfl hl.1 rfl (lv_room (Nat.le_of_ble_eq_true rfl)) dX6_seal_2 ⟨Nat.zero_le _, Nat.zero_le _⟩) ?_
  refine lv_if_eq (tgt := 10) hx hb dX6_seal_5 (by decide) (fun c1 => ?_) (fun c1 => ?_)
  · have hF := zit c1 hF
    refine lv_aload_n hx hb dX6_seal_10 rfl (lv_at hl 0 rfl) ?_
    refine z_get (ci := 6) (v := .ref (q (13 + 2))) (C := RX6) (T := TX6) (N := 13) hx hb hts inX6 hown hK hP 0 (cwp_0 g q C) rfl 3 (by decide) (List.mem_of_getElem? (i := 1) rfl) rfl rfl dX6_seal_11 ?_
    refine z_get (ci := 3) (v := .int (((C.2.2.2.2.2.1).1).1 5)) (C := RX3) (T := TX3) (N := 13) hx hb hts inX3 hown hK hP 15 (cwp_15 g q C) rfl 5 (by decide) (List.mem_of_getElem? (i := 2) rfl) rfl rfl dX6_seal_14 ?_
    refine lv_iload_n hx hb dX6_seal_17 rfl (lv_at hl 1 rfl) ?_
    refine z_rgo (va_runS (As := [.int (((C.2.2.2.2.2.1).1).1 5), .int x1]) (rest := []) ⟨hx, hb, hml, hown, hts⟩ (c6_has l g   (((C.2.2.2.2.2.1).1).1 5) x1) (va_cwS 2 hts gX6_seal_X6_has rfl rfl rfl (by decide +kernel) ⟨Nat.le_of_ble_eq_true rfl, Nat.le_of_ble_eq_true rfl⟩) (z_rpre z_nil hK) rfl rfl hl.1 rfl (lv_room (Nat.le_of_ble_eq_true rfl)) dX6_seal_18 ⟨Nat.zero_le _, Nat.zero_le _⟩) ?_
    refine lv_if_ne (tgt := 27) hx hb dX6_seal_21 (by decide) (fun c2 => ?_) (fun c2 => ?_)
    · have hF := zif c2 hF
      refine lv_aload_n hx hb dX6_seal_27 rfl (lv_at hl 0 rfl) ?_
      refine z_get (ci := 6) (v := .ref (q 34)) (C := RX6) (T := TX6) (N := 13) hx hb hts inX6 hown hK hP 0 (cwp_0 g q C) rfl 7 (by decide) (List.mem_of_getElem? (i := 3) rfl) rfl rfl dX6_seal_28 ?_
      refine lv_aload_n hx hb dX6_seal_31 rfl (lv_at hl 0 rfl) ?_
      refine z_get (ci := 6) (v := .ref (q 23)) (C := RX6) (T := TX6) (N := 13) hx hb hts inX6 hown hK hP 0 (cwp_0 g q C) rfl 4 (by decide) (List.mem_of_getElem? (i := 4) rfl) rfl rfl dX6_seal_32 ?_
      obtain ⟨X4, hX4⟩ := cw_perm g q C
      obtain ⟨P3, hP3, hF⟩ := zob hF
      refine z_wgoP (wn := CW g q (cRo (cRM C P3.1) P3.2)) (va_runV (As := [.ref (q 23)]) (rest := []) ⟨hx, hb, hml, hown, hts⟩ ((c5_push l g q (C.2.1, C.2.2.1) (C.1 0) P3 hP3) H.size) (cwV 1 hts gX6_seal_X5_push rfl rfl rfl (by decide +kernel) ⟨Nat.le_of_ble_eq_true rfl, Nat.le_of_ble_eq_true rfl⟩) (z_wpreV (ci := 5) (q := (RX5, TX5, 2)) (q0 := 0) (zP_left (zP_perm hP (cw_perm0 hX4))) hK (z_any (zD_left (zD_perm hD (cw_perm0 hX4)))) rfl rfl) rfl rfl hl.1 rfl (lv_room (Nat.le_of_ble_eq_true rfl)) dX6_seal_35 ⟨Nat.zero_le _, Nat.zero_le _⟩) hP hD hS hA X4 (cw_perm0 hX4) rfl (cw_perm1 hX4 P3) (fun H locs hP hD hS => ?_)
      show W p l e (headSpec wsX6_seal rmX6_seal).room s m args below meth c H locs 0 0 (MQ below (zWQ g A (CW g q C_o) (some (.int ro))) args s 0 0 A) (F0 m 38 ls [])
      obtain ⟨C5, eC5⟩ : ∃ y : Cs, y = (cRo (cRM C P3.1) P3.2) := ⟨_, rfl⟩
      rw [← eC5] at hP hD
      have hF := bd_eq eC5 hF
      refine lv_aload_n hx hb dX6_seal_38 rfl (lv_at hl 0 rfl) ?_
      refine z_get (ci := 6) (v := .ref (q 23)) (C := RX6) (T := TX6) (N := 13) hx hb hts inX6 hown hK hP 0 (cwp_0 g q C5) rfl 4 (by decide) (List.mem_of_getElem? (i := 4) rfl) rfl rfl dX6_seal_39 ?_
      refine lv_iload_n hx hb dX6_seal_42 rfl (lv_at hl 1 rfl) ?_
      obtain ⟨M6, hM6, hF⟩ := zob hF
      refine z_wgo (wn := CW g q (cM C5 0 M6)) (va_runV (As := [.int x1]) (rest := []) ⟨hx, hb, hml, hown, hts⟩ ((c2_turnLid l g q 23 (C5.1 0) x1  M6 hM6) H.size) (cwV 1 hts gX6_seal_X2_turnLid rfl rfl rfl (by decide +kernel) ⟨Nat.le_of_ble_eq_true rfl, Nat.le_of_ble_eq_true rfl⟩) (z_wpreV (ci := 2) (q := (RX2, TX2, 9)) (q0 := 0) (z_Psub hP _ (cwm_23_5_27 g q C5)) hK (z_any (hD.sub _ (by decide) (cwm_23_5_27 g q C5))) rfl rfl) rfl rfl hl.1 rfl (lv_room (Nat.le_of_ble_eq_true rfl)) dX6_seal_43 ⟨Nat.zero_le _, Nat.zero_le _⟩) hP hD hS hA _ (cwm_23_5_27 g q C5) (by decide) rfl (cww_23_5_27 g q C5 M6) (fun H locs hP hD hS => ?_)
      show W p l e (headSpec wsX6_seal rmX6_seal).room s m args below meth c H locs 0 0 (MQ below (zWQ g A (CW g q C_o) (some (.int ro))) args s 0 0 A) (F0 m 46 ls [])
      obtain ⟨C7, eC7⟩ : ∃ y : Cs, y = (cM C5 0 M6) := ⟨_, rfl⟩
      rw [← eC7] at hP hD
      have hF := bd_eq eC7 hF
      refine lv_aload_n hx hb dX6_seal_46 rfl (lv_at hl 0 rfl) ?_
      refine z_get (ci := 6) (v := .ref (q 23)) (C := RX6) (T := TX6) (N := 13) hx hb hts inX6 hown hK hP 0 (cwp_0 g q C7) rfl 4 (by decide) (List.mem_of_getElem? (i := 4) rfl) rfl rfl dX6_seal_47 ?_
      refine z_get (ci := 2) (v := .int ((C7.1 0).1 7)) (C := RX2) (T := TX2) (N := 9) hx hb hts inX2 hown hK hP 23 (cwp_23 g q C7) rfl 7 (by decide) (List.mem_of_getElem? (i := 5) rfl) rfl rfl dX6_seal_50 ?_
      refine lv_iload_n hx hb dX6_seal_53 rfl (lv_at hl 1 rfl) ?_
      refine z_rgo (va_runS (As := [.int ((C7.1 0).1 7), .int x1]) (rest := []) ⟨hx, hb, hml, hown, hts⟩ (c6_has l g   ((C7.1 0).1 7) x1) (va_cwS 2 hts gX6_seal_X6_has rfl rfl rfl (by decide +kernel) ⟨Nat.le_of_ble_eq_true rfl, Nat.le_of_ble_eq_true rfl⟩) (z_rpre z_nil hK) rfl rfl hl.1 rfl (lv_room (Nat.le_of_ble_eq_true rfl)) dX6_seal_54 ⟨Nat.zero_le _, Nat.zero_le _⟩) ?_
      refine z_rgo (va_runS (As := [.int (f6_has ((C7.1 0).1 7) x1)]) (rest := []) ⟨hx, hb, hml, hown, hts⟩ (c6_flag l g   (f6_has ((C7.1 0).1 7) x1)) (va_cwS 1 hts gX6_seal_X6_flag rfl rfl rfl (by decide +kernel) ⟨Nat.le_of_ble_eq_true rfl, Nat.le_of_ble_eq_true rfl⟩) (z_rpre z_nil hK) rfl rfl hl.1 rfl (lv_room (Nat.le_of_ble_eq_true rfl)) dX6_seal_57 ⟨Nat.zero_le _, Nat.zero_le _⟩) ?_
      obtain ⟨e9a, e9b⟩ := Prod.mk.inj (zin hF)
      exact z_wi hx hb hr hlk hP hD hS (congrArg (fun z => some (Value.int z)) e9a) (by rw [e9b]) dX6_seal_60
    · have hF := zit c2 hF
      refine lv_bipush (v := (-3)) hx hb dX6_seal_24 (by decide) ?_
      obtain ⟨e9a, e9b⟩ := Prod.mk.inj (zin hF)
      exact z_wi hx hb hr hlk hP hD hS (congrArg (fun z => some (Value.int z)) e9a) (by rw [e9b]) dX6_seal_26
  · have hF := zif c1 hF
    refine lv_iconst (v := (-1)) hx hb dX6_seal_8 (by decide) ?_
    obtain ⟨e9a, e9b⟩ := Prod.mk.inj (zin hF)
    exact z_wi hx hb hr hlk hP hD hS (congrArg (fun z => some (Value.int z)) e9a) (by rw [e9b]) dX6_seal_9
def f6_seed (C : Cs) (x1 : Int64) : Option (Int64 × Cs) := bd (α := Int64) (C.2.2.2.2.2.2.2.2.2) (fun (v1 : Int64) => bd (cCh C x1) (fun (C2 : Cs) => some (v1, C2)))
abbrev rmX6_seed : Room := { frames := 0, cells := 0, slots := 0, locals := 0 }
set_option maxHeartbeats 4000000 in
set_option maxRecDepth 100000 in
theorem c6_seed (l : Launch) (g : zG) (q : Nat → Nat) (C : Cs) (x1 : Int64) (ro : Int64) (C_o : Cs) (hF : f6_seed C x1 = some (ro, C_o)) : zRW l g yX6_seed wsX6_seed rmX6_seed [.ref (q 0), .long x1] (CW g q C) (some (.long ro)) (CW g q C_o) := by
  refine zRW_of (cc := cX6_seed) (maxL := 5) (ret := (some .long)) (by decide) rfl (Nat.le_of_ble_eq_true rfl) ?_
  intro p e s m args below meth c A H locs ls hx hb hr hml hts hown hlk hK hA hP hD hS hl
  have hown : s.vm.findClass RX6 = some m.cls := hown
  have hl : lv_has ls 5 [(0, .ref (q 0)), (1, .long x1)] := hl
  have inX6 : ∀ w ∈ wsX60, w ∈ wsX6_seed := fun _ h => List.mem_cons_of_mem _ (List.mem_append_right _ h)
  unfold f6_seed at hF
  refine lv_aload_n hx hb dX6_seed_0 rfl (lv_at hl 0 rfl) ?_
  refine z_get (ci := 6) (v := .long (C.2.2.2.2.2.2.2.2.2)) (C := RX6) (T := TX6) (N := 13) hx hb hts inX6 hown hK hP 0 (cwp_0 g q C) rfl 12 (by decide) (List.mem_of_getElem? (i := 1) rfl) rfl rfl dX6_seed_1 ?_
  refine lv_topl (fun v1 ev1 => ?_)
  have hF := bd_eq ev1 hF
  refine lv_lstore_n (lv' := [(3, .long v1), (0, .ref (q 0)), (1, .long x1)]) hx hb dX6_seed_4 rfl hl (by decide) rfl (fun ls hl => ?_)
  refine lv_aload_n hx hb dX6_seed_5 rfl (lv_at hl 1 rfl) ?_
  refine lv_lload_n hx hb dX6_seed_6 rfl (lv_at hl 2 rfl) ?_
  refine z_put (ci := 6) (v := .long x1) (C := RX6) (T := TX6) (N := 13) (ws' := CW g q (cCh C x1)) hx hb hts inX6 tyX6 tyX6_ok nmX6 hown hK hP hD hS 0 (cwp_0 g q C) rfl 12 (by decide) (List.mem_of_getElem? (i := 1) rfl) rfl rfl rfl rfl (Nat.le_of_ble_eq_true rfl) (cwst_0_12 g q C x1) dX6_seed_7 (fun H locs hP hD hS => ?_)
  obtain ⟨C2, eC2⟩ : ∃ y : Cs, y = (cCh C x1) := ⟨_, rfl⟩
  rw [← eC2] at hP hD
  have hF := bd_eq eC2 hF
  refine lv_lload_n hx hb dX6_seed_10 rfl (lv_at hl 0 rfl) ?_
  obtain ⟨e9a, e9b⟩ := Prod.mk.inj (zin hF)
  exact z_wl hx hb hr hlk hP hD hS (congrArg (fun z => some (Value.long z)) e9a) (by rw [e9b]) dX6_seed_11
def f6_share_l15 (x1 : Int32) (x2 : Int32) : Nat → Int32 → Int32 → Cs → Option (Int32 × Cs)
  | 0, _, _, _ => none
  | n15 + 1, y2, y3, C4 => if (f6_all (((C4.2.2.2.2.2.1).1).1 4)) < y3 then (f6_fraction y2 (f6_cell 5 zFact (((C4.2.2.2.2.2.1).1).1 4)) x2).bind fun v6 => some (v6, C4) else if (f6_has y3 x1) = 0 then (f6_rightAmong C4 (y3 ||| (f6_bit x1))).bind fun (v9, C8) => (f6_rightAmong C8 y3).bind fun (v11, C10) => bd (α := Int32) (v9 - v11) (fun (v12 : Int32) => bd (α := Int32) (y2 + (v12 * (f6_ordersWith C10 (f6_bitCount_0f7a4 y3)))) (fun (v13 : Int32) => f6_share_l15 x1 x2 n15 v13 (y3 + 1) C10)) else f6_share_l15 x1 x2 n15 y2 (y3 + 1) C4
def f6_share (C : Cs) (x1 : Int32) (x2 : Int32) : Option (Int32 × Cs) := if (f6_isNoWalker C x1) = 0 then f6_share_l15 x1 x2 FU 0 0 C else some ((-1), C)
abbrev rmX6_share : Room := { frames := 6, cells := 0, slots := 0, locals := 141 }
set_option maxHeartbeats 4000000 in
set_option maxRecDepth 100000 in
theorem c6_share (l : Launch) (g : zG) (t : Nat) (q : Nat → Nat) (C : Cs) (x1 : Int32) (x2 : Int32) (ro : Int32) (C_o : Cs) (hF : f6_share C x1 x2 = some (ro, C_o)) : zRWF l g t yX6_share wsX6_share rmX6_share [.ref (q 0), .int x1, .int x2] (CW g q C) (some (.int ro)) (CW g q C_o) := by
  refine zRWF_of (cc := cX6_share) (maxL := 6) (ret := (some .int)) (by decide) rfl (Nat.le_of_ble_eq_true rfl) ?_
  intro p e s m args below meth c A H locs ls hx hb hr hml hts hown hlk hK hA hP hD hS hZ hl
  have hown : s.vm.findClass RX6 = some m.cls := hown
  have hl : lv_has ls 6 [(0, .ref (q 0)), (1, .int x1), (2, .int x2)] := hl
  have inX3 : ∀ w ∈ wsX30, w ∈ wsX6_share := fun _ h => List.mem_cons_of_mem _ (List.mem_append_left _ (List.mem_append_right _ h))
  have inX6 : ∀ w ∈ wsX60, w ∈ wsX6_share := fun _ h => List.mem_cons_of_mem _ (List.mem_append_left _ (List.mem_append_left _ (List.mem_append_right _ h)))
  unfold f6_share at hF
  refine lv_aload_n hx hb dX6_share_0 rfl (lv_at hl 0 rfl) ?_
  refine lv_iload_n hx hb dX6_share_1 rfl (lv_at hl 1 rfl) ?_
  refine z_rgo (va_runV (As := [.int x1]) (rest := []) ⟨hx, hb, hml, hown, hts⟩ (c6_isNoWalker l g q C x1) (cwV 1 hts gX6_share_X6_isNoWalker rfl rfl rfl (by decide +kernel) ⟨Nat.le_of_ble_eq_true rfl, Nat.le_of_ble_eq_true rfl⟩) (z_rpreV (ci := 6) (q := (RX6, TX6, 13)) (q0 := 0) hP hK rfl rfl) rfl rfl hl.1 rfl (lv_room (Nat.le_of_ble_eq_true rfl)) dX6_share_2 ⟨Nat.zero_le _, Nat.zero_le _⟩) ?_
  refine lv_if_eq (tgt := 10) hx hb dX6_share_5 (by decide) (fun c1 => ?_) (fun c1 => ?_)
  · have hF := zit c1 hF
    refine lv_iconst (v := 0) hx hb dX6_share_10 (by decide) ?_
    refine lv_istore_n (lv' := [(3, .int 0), (0, .ref (q 0)), (1, .int x1), (2, .int x2)]) hx hb dX6_share_11 rfl hl (by decide) rfl (fun ls hl => ?_)
    refine lv_iconst (v := 0) hx hb dX6_share_12 (by decide) ?_
    refine lv_istore (lv' := [(4, .int 0), (3, .int 0), (0, .ref (q 0)), (1, .int x1), (2, .int x2)]) hx hb dX6_share_13 hl (by decide) rfl (fun ls hl => ?_)
    have L15 : ∀ (n15 : Nat) (y2 : Int32) (y3 : Int32) (C4 : Cs) (H : Heap) (locs : List Loc) (ls : Array Slot), f6_share_l15 x1 x2 n15 y2 y3 C4 = some (ro, C_o) → va_P (zD g) vwCl (CW g q C4) H → va_D A (CW g q C4) → va_S A s.heap H locs → lv_has ls 6 [(0, .ref (q 0)), (1, .int x1), (2, .int x2), (3, .int y2), (4, .int y3)] → W p l e (headSpec wsX6_share rmX6_share).room s m args below meth c H locs 0 0 (MQ below (zWQ g A (CW g q C_o) (some (.int ro))) args s 0 0 A) (F0 m 15 ls []) := by
      intro n15
      induction n15 with
      | zero =>
        intro y2 y3 C4 H locs ls hF hP hD hS hl
        exact absurd (show (none : Option (Int32 × Cs)) = some _ from hF) (fun h9 => by cases h9)
      | succ n15 ih15 =>
        intro y2 y3 C4 H locs ls hF hP hD hS hl
        rw [f6_share_l15] at hF
        refine lv_iload hx hb dX6_share_15 (lv_at hl 4 rfl) ?_
        refine lv_aload_n hx hb dX6_share_17 rfl (lv_at hl 0 rfl) ?_
        refine z_get (ci := 6) (v := .ref (q (13 + 2))) (C := RX6) (T := TX6) (N := 13) hx hb hts inX6 hown hK hP 0 (cwp_0 g q C4) rfl 3 (by decide) (List.mem_of_getElem? (i := 1) rfl) rfl rfl dX6_share_18 ?_
        refine z_get (ci := 3) (v := .int (((C4.2.2.2.2.2.1).1).1 4)) (C := RX3) (T := TX3) (N := 13) hx hb hts inX3 hown hK hP 15 (cwp_15 g q C4) rfl 4 (by decide) (List.mem_of_getElem? (i := 2) rfl) rfl rfl dX6_share_21 ?_
        refine z_rgo (va_runS (As := [.int (((C4.2.2.2.2.2.1).1).1 4)]) (rest := [.int y3]) ⟨hx, hb, hml, hown, hts⟩ (c6_all l g   (((C4.2.2.2.2.2.1).1).1 4)) (va_cwS 1 hts gX6_share_X6_all rfl rfl rfl (by decide +kernel) ⟨Nat.le_of_ble_eq_true rfl, Nat.le_of_ble_eq_true rfl⟩) (z_rpre z_nil hK) rfl rfl hl.1 rfl (lv_room (Nat.le_of_ble_eq_true rfl)) dX6_share_24 ⟨Nat.zero_le _, Nat.zero_le _⟩) ?_
        refine lv_icmp_gt (tgt := 83) hx hb dX6_share_27 (by decide) (fun c5 => ?_) (fun c5 => ?_)
        · have hF := zit c5 hF
          refine lv_iload_n hx hb dX6_share_83 rfl (lv_at hl 3 rfl) ?_
          refine va_gets hx hb hZ.1 hS hown (hts (.fieldLink RX6 275 "ManholeBirths" "FACTORIALS" "[I") (List.mem_of_getElem? (i := 3) rfl)) (fun _ h9 => h9) dX6_share_84 ?_
          refine lv_aload_n hx hb dX6_share_87 rfl (lv_at hl 0 rfl) ?_
          refine z_get (ci := 6) (v := .ref (q (13 + 2))) (C := RX6) (T := TX6) (N := 13) hx hb hts inX6 hown hK hP 0 (cwp_0 g q C4) rfl 3 (by decide) (List.mem_of_getElem? (i := 1) rfl) rfl rfl dX6_share_88 ?_
          refine z_get (ci := 3) (v := .int (((C4.2.2.2.2.2.1).1).1 4)) (C := RX3) (T := TX3) (N := 13) hx hb hts inX3 hown hK hP 15 (cwp_15 g q C4) rfl 4 (by decide) (List.mem_of_getElem? (i := 2) rfl) rfl rfl dX6_share_91 ?_
          refine z_rgo (va_runS (As := [.ref t, .int (((C4.2.2.2.2.2.1).1).1 4)]) (rest := [.int y2]) ⟨hx, hb, hml, hown, hts⟩ (c6_cellT l t (((C4.2.2.2.2.2.1).1).1 4)) (va_cwS 2 hts gX6_share_X6_cell rfl rfl rfl (by decide +kernel) ⟨Nat.le_of_ble_eq_true rfl, Nat.le_of_ble_eq_true rfl⟩) (z_tpre (hZ.at hS)) rfl rfl hl.1 rfl (lv_room (Nat.le_of_ble_eq_true rfl)) dX6_share_94 ⟨Nat.zero_le _, Nat.zero_le _⟩) ?_
          refine lv_iload_n hx hb dX6_share_97 rfl (lv_at hl 2 rfl) ?_
          obtain ⟨v6, hv6, hF⟩ := zob hF
          refine z_rgo (va_runS (As := [.int y2, .int (f6_cell 5 zFact (((C4.2.2.2.2.2.1).1).1 4)), .int x2]) (rest := []) ⟨hx, hb, hml, hown, hts⟩ (c6_fraction l g   y2 (f6_cell 5 zFact (((C4.2.2.2.2.2.1).1).1 4)) x2 v6 hv6) (va_cwS 3 hts gX6_share_X6_fraction rfl rfl rfl (by decide +kernel) ⟨Nat.le_of_ble_eq_true rfl, Nat.le_of_ble_eq_true rfl⟩) (z_rpre z_nil hK) rfl rfl hl.1 rfl (lv_room (Nat.le_of_ble_eq_true rfl)) dX6_share_98 ⟨Nat.zero_le _, Nat.zero_le _⟩) ?_
          obtain ⟨e9a, e9b⟩ := Prod.mk.inj (zin hF)
          exact z_wi hx hb hr hlk hP hD hS (congrArg (fun z => some (Value.int z)) e9a) (by rw [e9b]) dX6_share_101
        · have hF := zif c5 hF
          refine lv_iload hx hb dX6_share_30 (lv_at hl 4 rfl) ?_
          refine lv_iload_n hx hb dX6_share_32 rfl (lv_at hl 1 rfl) ?_
          refine z_rgo (va_runS (As := [.int y3, .int x1]) (rest := []) ⟨hx, hb, hml, hown, hts⟩ (c6_has l g   y3 x1) (va_cwS 2 hts gX6_share_X6_has rfl rfl rfl (by decide +kernel) ⟨Nat.le_of_ble_eq_true rfl, Nat.le_of_ble_eq_true rfl⟩) (z_rpre z_nil hK) rfl rfl hl.1 rfl (lv_room (Nat.le_of_ble_eq_true rfl)) dX6_share_33 ⟨Nat.zero_le _, Nat.zero_le _⟩) ?_
          refine lv_if_eq (tgt := 42) hx hb dX6_share_36 (by decide) (fun c7 => ?_) (fun c7 => ?_)
          · have hF := zit c7 hF
            refine lv_aload_n hx hb dX6_share_42 rfl (lv_at hl 0 rfl) ?_
            refine lv_iload hx hb dX6_share_43 (lv_at hl 4 rfl) ?_
            refine lv_iload_n hx hb dX6_share_45 rfl (lv_at hl 1 rfl) ?_
            refine z_rgo (va_runS (As := [.int x1]) (rest := [.int y3, .ref (q 0)]) ⟨hx, hb, hml, hown, hts⟩ (c6_bit l g   x1) (va_cwS 1 hts gX6_share_X6_bit rfl rfl rfl (by decide +kernel) ⟨Nat.le_of_ble_eq_true rfl, Nat.le_of_ble_eq_true rfl⟩) (z_rpre z_nil hK) rfl rfl hl.1 rfl (lv_room (Nat.le_of_ble_eq_true rfl)) dX6_share_46 ⟨Nat.zero_le _, Nat.zero_le _⟩) ?_
            refine lv_ior hx hb dX6_share_49 ?_
            obtain ⟨⟨v9, C8⟩, hC8, hF⟩ := zob hF
            refine z_wgoW (va_runV (As := [.int (y3 ||| (f6_bit x1))]) (rest := []) ⟨hx, hb, hml, hown, hts⟩ ((c6_rightAmong l g q C4 (y3 ||| (f6_bit x1)) v9  C8 hC8) H.size) (cwV 1 hts gX6_share_X6_rightAmong rfl rfl rfl (by decide +kernel) ⟨Nat.le_of_ble_eq_true rfl, Nat.le_of_ble_eq_true rfl⟩) (z_wpreV (ci := 6) (q := (RX6, TX6, 13)) (q0 := 0) hP hK (z_any hD) rfl rfl) rfl rfl hl.1 rfl (lv_room (Nat.le_of_ble_eq_true rfl)) dX6_share_50 ⟨Nat.zero_le _, Nat.zero_le _⟩) hP hD hS hA (fun H locs hP hD hS => ?_)
            show W p l e (headSpec wsX6_share rmX6_share).room s m args below meth c H locs 0 0 (MQ below (zWQ g A (CW g q C_o) (some (.int ro))) args s 0 0 A) (F0 m 53 ls [.int v9])
            refine lv_aload_n hx hb dX6_share_53 rfl (lv_at hl 0 rfl) ?_
            refine lv_iload hx hb dX6_share_54 (lv_at hl 4 rfl) ?_
            obtain ⟨⟨v11, C10⟩, hC10, hF⟩ := zob hF
            refine z_wgoW (va_runV (As := [.int y3]) (rest := [.int v9]) ⟨hx, hb, hml, hown, hts⟩ ((c6_rightAmong l g q C8 y3 v11  C10 hC10) H.size) (cwV 1 hts gX6_share_X6_rightAmong rfl rfl rfl (by decide +kernel) ⟨Nat.le_of_ble_eq_true rfl, Nat.le_of_ble_eq_true rfl⟩) (z_wpreV (ci := 6) (q := (RX6, TX6, 13)) (q0 := 0) hP hK (z_any hD) rfl rfl) rfl rfl hl.1 rfl (lv_room (Nat.le_of_ble_eq_true rfl)) dX6_share_56 ⟨Nat.zero_le _, Nat.zero_le _⟩) hP hD hS hA (fun H locs hP hD hS => ?_)
            show W p l e (headSpec wsX6_share rmX6_share).room s m args below meth c H locs 0 0 (MQ below (zWQ g A (CW g q C_o) (some (.int ro))) args s 0 0 A) (F0 m 59 ls [.int v11, .int v9])
            refine lv_isub hx hb dX6_share_59 ?_
            refine lv_topi (fun v12 ev12 => ?_)
            have hF := bd_eq ev12 hF
            refine lv_istore (lv' := [(5, .int v12), (0, .ref (q 0)), (1, .int x1), (2, .int x2), (3, .int y2), (4, .int y3)]) hx hb dX6_share_60 hl (by decide) rfl (fun ls hl => ?_)
            refine lv_iload_n hx hb dX6_share_62 rfl (lv_at hl 4 rfl) ?_
            refine lv_iload hx hb dX6_share_63 (lv_at hl 0 rfl) ?_
            refine lv_aload_n hx hb dX6_share_65 rfl (lv_at hl 1 rfl) ?_
            refine lv_iload hx hb dX6_share_66 (lv_at hl 5 rfl) ?_
            refine z_rgo (va_runS (As := [.int y3]) (rest := [.ref (q 0), .int v12, .int y2]) ⟨hx, hb, hml, hown, hts⟩ (c6_bitCount_0f7a4 l g   y3) (va_cwS 1 hts gX6_share_J6_bitCount_0f7a4 rfl rfl rfl (by decide +kernel) ⟨Nat.le_of_ble_eq_true rfl, Nat.le_of_ble_eq_true rfl⟩) (z_rpre z_nil hK) rfl rfl hl.1 rfl (lv_room (Nat.le_of_ble_eq_true rfl)) dX6_share_68 ⟨Nat.zero_le _, Nat.zero_le _⟩) ?_
            refine z_rgo (va_runV (As := [.int (f6_bitCount_0f7a4 y3)]) (rest := [.int v12, .int y2]) ⟨hx, hb, hml, hown, hts⟩ (c6_ordersWith l g t q C10 (f6_bitCount_0f7a4 y3)) (cwV 1 hts gX6_share_X6_ordersWith rfl rfl rfl (by decide +kernel) ⟨Nat.le_of_ble_eq_true rfl, Nat.le_of_ble_eq_true rfl⟩) (z_rpreVF (ci := 6) (q := (RX6, TX6, 13)) (q0 := 0) hP hK (hZ.at hS) rfl rfl) rfl rfl hl.1 rfl (lv_room (Nat.le_of_ble_eq_true rfl)) dX6_share_71 ⟨Nat.zero_le _, Nat.zero_le _⟩) ?_
            refine lv_imul hx hb dX6_share_74 ?_
            refine lv_iadd hx hb dX6_share_75 ?_
            refine lv_topi (fun v13 ev13 => ?_)
            have hF := bd_eq ev13 hF
            refine lv_istore_n (lv' := [(3, .int v13), (5, .int v12), (0, .ref (q 0)), (1, .int x1), (2, .int x2), (4, .int y3)]) hx hb dX6_share_76 rfl hl (by decide) rfl (fun ls hl => ?_)
            refine lv_iinc (v := (y3 + 1)) (lv' := [(4, .int (y3 + 1)), (3, .int v13), (5, .int v12), (0, .ref (q 0)), (1, .int x1), (2, .int x2)]) hx hb dX6_share_77 hl (k := 5) rfl rfl (by decide) rfl (fun ls hl => ?_)
            refine lv_goto (tgt := 15) hx hb dX6_share_80 (by decide) ?_
            exact ih15 v13 (y3 + 1) C10 H locs ls hF hP hD hS (lv_sub hl [3, 4, 5, 1, 0] rfl)
          · have hF := zif c7 hF
            refine lv_goto (tgt := 77) hx hb dX6_share_39 (by decide) ?_
            refine lv_iinc (v := (y3 + 1)) (lv' := [(4, .int (y3 + 1)), (0, .ref (q 0)), (1, .int x1), (2, .int x2), (3, .int y2)]) hx hb dX6_share_77 hl (k := 4) rfl rfl (by decide) rfl (fun ls hl => ?_)
            refine lv_goto (tgt := 15) hx hb dX6_share_80 (by decide) ?_
            exact ih15 y2 (y3 + 1) C4 H locs ls hF hP hD hS (lv_sub hl [1, 2, 3, 4, 0] rfl)
    exact L15 FU 0 0 C H locs ls hF hP hD hS (lv_sub hl [2, 3, 4, 1, 0] rfl)
  · have hF := zif c1 hF
    refine lv_iconst (v := (-1)) hx hb dX6_share_8 (by decide) ?_
    obtain ⟨e9a, e9b⟩ := Prod.mk.inj (zin hF)
    exact z_wi hx hb hr hlk hP hD hS (congrArg (fun z => some (Value.int z)) e9a) (by rw [e9b]) dX6_share_9
noncomputable def f6_shut (C : Cs) (x1 : Int32) : Option (Int32 × Cs) := if (f6_isNoPipe C x1) = 0 then (f5_push (C.2.1, C.2.2.1) (C.1 0)).bind fun P2 => bd (cRo (cRM C P2.1) P2.2) (fun (C4 : Cs) => (f2_turnPipe (C4.1 0) x1).bind fun M5 => bd (cM C4 0 M5) (fun (C6 : Cs) => some ((f6_flag (f6_has ((C6.1 0).1 6) x1)), C6))) else some ((-1), C)
abbrev rmX6_shut : Room := { frames := 3, cells := 0, slots := 0, locals := 66 }
set_option maxHeartbeats 4000000 in
set_option maxRecDepth 100000 in
theorem c6_shut (l : Launch) (g : zG) (q : Nat → Nat) (C : Cs) (x1 : Int32) (ro : Int32) (C_o : Cs) (hF : f6_shut C x1 = some (ro, C_o)) : zRW l g yX6_shut wsX6_shut rmX6_shut [.ref (q 0), .int x1] (CW g q C) (some (.int ro)) (CW g q C_o) := by
  refine zRW_of (cc := cX6_shut) (maxL := 2) (ret := (some .int)) (by decide) rfl (Nat.le_of_ble_eq_true rfl) ?_
  intro p e s m args below meth c A H locs ls hx hb hr hml hts hown hlk hK hA hP hD hS hl
  have hown : s.vm.findClass RX6 = some m.cls := hown
  have hl : lv_has ls 2 [(0, .ref (q 0)), (1, .int x1)] := hl
  have inX2 : ∀ w ∈ wsX20, w ∈ wsX6_shut := fun _ h => List.mem_cons_of_mem _ (List.mem_append_left _ (List.mem_append_left _ (List.mem_append_right _ h)))
  have inX6 : ∀ w ∈ wsX60, w ∈ wsX6_shut := fun _ h => List.mem_cons_of_mem _ (List.mem_append_left _ (List.mem_append_left _ (List.mem_append_left _ (List.mem_append_right _ h))))
  unfold f6_shut at hF
  refine lv_aload_n hx hb dX6_shut_0 rfl (lv_at hl 0 rfl) ?_
  refine lv_iload_n hx hb dX6_shut_1 rfl (lv_at hl 1 rfl) ?_
  refine z_rgo (va_runV (As := [.int x1]) (rest := []) ⟨hx, hb, hml, hown, hts⟩ (c6_isNoPipe l g q C x1) (cwV 1 hts gX6_shut_X6_isNoPipe rfl rfl rfl (by decide +kernel) ⟨Nat.le_of_ble_eq_true rfl, Nat.le_of_ble_eq_true rfl⟩) (z_rpreV (ci := 6) (q := (RX6, TX6, 13)) (q0 := 0) hP hK rfl rfl) rfl rfl hl.1 rfl (lv_room (Nat.le_of_ble_eq_true rfl)) dX6_shut_2 ⟨Nat.zero_le _, Nat.zero_le _⟩) ?_
  refine lv_if_eq (tgt := 10) hx hb dX6_shut_5 (by decide) (fun c1 => ?_) (fun c1 => ?_)
  · have hF := zit c1 hF
    refine lv_aload_n hx hb dX6_shut_10 rfl (lv_at hl 0 rfl) ?_
    refine z_get (ci := 6) (v := .ref (q 34)) (C := RX6) (T := TX6) (N := 13) hx hb hts inX6 hown hK hP 0 (cwp_0 g q C) rfl 7 (by decide) (List.mem_of_getElem? (i := 1) rfl) rfl rfl dX6_shut_11 ?_
    refine lv_aload_n hx hb dX6_shut_14 rfl (lv_at hl 0 rfl) ?_
    refine z_get (ci := 6) (v := .ref (q 23)) (C := RX6) (T := TX6) (N := 13) hx hb hts inX6 hown hK hP 0 (cwp_0 g q C) rfl 4 (by decide) (List.mem_of_getElem? (i := 2) rfl) rfl rfl dX6_shut_15 ?_
    obtain ⟨X3, hX3⟩ := cw_perm g q C
    obtain ⟨P2, hP2, hF⟩ := zob hF
    refine z_wgoP (wn := CW g q (cRo (cRM C P2.1) P2.2)) (va_runV (As := [.ref (q 23)]) (rest := []) ⟨hx, hb, hml, hown, hts⟩ ((c5_push l g q (C.2.1, C.2.2.1) (C.1 0) P2 hP2) H.size) (cwV 1 hts gX6_shut_X5_push rfl rfl rfl (by decide +kernel) ⟨Nat.le_of_ble_eq_true rfl, Nat.le_of_ble_eq_true rfl⟩) (z_wpreV (ci := 5) (q := (RX5, TX5, 2)) (q0 := 0) (zP_left (zP_perm hP (cw_perm0 hX3))) hK (z_any (zD_left (zD_perm hD (cw_perm0 hX3)))) rfl rfl) rfl rfl hl.1 rfl (lv_room (Nat.le_of_ble_eq_true rfl)) dX6_shut_18 ⟨Nat.zero_le _, Nat.zero_le _⟩) hP hD hS hA X3 (cw_perm0 hX3) rfl (cw_perm1 hX3 P2) (fun H locs hP hD hS => ?_)
    show W p l e (headSpec wsX6_shut rmX6_shut).room s m args below meth c H locs 0 0 (MQ below (zWQ g A (CW g q C_o) (some (.int ro))) args s 0 0 A) (F0 m 21 ls [])
    obtain ⟨C4, eC4⟩ : ∃ y : Cs, y = (cRo (cRM C P2.1) P2.2) := ⟨_, rfl⟩
    rw [← eC4] at hP hD
    have hF := bd_eq eC4 hF
    refine lv_aload_n hx hb dX6_shut_21 rfl (lv_at hl 0 rfl) ?_
    refine z_get (ci := 6) (v := .ref (q 23)) (C := RX6) (T := TX6) (N := 13) hx hb hts inX6 hown hK hP 0 (cwp_0 g q C4) rfl 4 (by decide) (List.mem_of_getElem? (i := 2) rfl) rfl rfl dX6_shut_22 ?_
    refine lv_iload_n hx hb dX6_shut_25 rfl (lv_at hl 1 rfl) ?_
    obtain ⟨M5, hM5, hF⟩ := zob hF
    refine z_wgo (wn := CW g q (cM C4 0 M5)) (va_runV (As := [.int x1]) (rest := []) ⟨hx, hb, hml, hown, hts⟩ ((c2_turnPipe l g q 23 (C4.1 0) x1  M5 hM5) H.size) (cwV 1 hts gX6_shut_X2_turnPipe rfl rfl rfl (by decide +kernel) ⟨Nat.le_of_ble_eq_true rfl, Nat.le_of_ble_eq_true rfl⟩) (z_wpreV (ci := 2) (q := (RX2, TX2, 9)) (q0 := 0) (z_Psub hP _ (cwm_23_5_27 g q C4)) hK (z_any (hD.sub _ (by decide) (cwm_23_5_27 g q C4))) rfl rfl) rfl rfl hl.1 rfl (lv_room (Nat.le_of_ble_eq_true rfl)) dX6_shut_26 ⟨Nat.zero_le _, Nat.zero_le _⟩) hP hD hS hA _ (cwm_23_5_27 g q C4) (by decide) rfl (cww_23_5_27 g q C4 M5) (fun H locs hP hD hS => ?_)
    show W p l e (headSpec wsX6_shut rmX6_shut).room s m args below meth c H locs 0 0 (MQ below (zWQ g A (CW g q C_o) (some (.int ro))) args s 0 0 A) (F0 m 29 ls [])
    obtain ⟨C6, eC6⟩ : ∃ y : Cs, y = (cM C4 0 M5) := ⟨_, rfl⟩
    rw [← eC6] at hP hD
    have hF := bd_eq eC6 hF
    refine lv_aload_n hx hb dX6_shut_29 rfl (lv_at hl 0 rfl) ?_
    refine z_get (ci := 6) (v := .ref (q 23)) (C := RX6) (T := TX6) (N := 13) hx hb hts inX6 hown hK hP 0 (cwp_0 g q C6) rfl 4 (by decide) (List.mem_of_getElem? (i := 2) rfl) rfl rfl dX6_shut_30 ?_
    refine z_get (ci := 2) (v := .int ((C6.1 0).1 6)) (C := RX2) (T := TX2) (N := 9) hx hb hts inX2 hown hK hP 23 (cwp_23 g q C6) rfl 6 (by decide) (List.mem_of_getElem? (i := 3) rfl) rfl rfl dX6_shut_33 ?_
    refine lv_iload_n hx hb dX6_shut_36 rfl (lv_at hl 1 rfl) ?_
    refine z_rgo (va_runS (As := [.int ((C6.1 0).1 6), .int x1]) (rest := []) ⟨hx, hb, hml, hown, hts⟩ (c6_has l g   ((C6.1 0).1 6) x1) (va_cwS 2 hts gX6_shut_X6_has rfl rfl rfl (by decide +kernel) ⟨Nat.le_of_ble_eq_true rfl, Nat.le_of_ble_eq_true rfl⟩) (z_rpre z_nil hK) rfl rfl hl.1 rfl (lv_room (Nat.le_of_ble_eq_true rfl)) dX6_shut_37 ⟨Nat.zero_le _, Nat.zero_le _⟩) ?_
    refine z_rgo (va_runS (As := [.int (f6_has ((C6.1 0).1 6) x1)]) (rest := []) ⟨hx, hb, hml, hown, hts⟩ (c6_flag l g   (f6_has ((C6.1 0).1 6) x1)) (va_cwS 1 hts gX6_shut_X6_flag rfl rfl rfl (by decide +kernel) ⟨Nat.le_of_ble_eq_true rfl, Nat.le_of_ble_eq_true rfl⟩) (z_rpre z_nil hK) rfl rfl hl.1 rfl (lv_room (Nat.le_of_ble_eq_true rfl)) dX6_shut_40 ⟨Nat.zero_le _, Nat.zero_le _⟩) ?_
    obtain ⟨e9a, e9b⟩ := Prod.mk.inj (zin hF)
    exact z_wi hx hb hr hlk hP hD hS (congrArg (fun z => some (Value.int z)) e9a) (by rw [e9b]) dX6_shut_43
  · have hF := zif c1 hF
    refine lv_iconst (v := (-1)) hx hb dX6_shut_8 (by decide) ?_
    obtain ⟨e9a, e9b⟩ := Prod.mk.inj (zin hF)
    exact z_wi hx hb hr hlk hP hD hS (congrArg (fun z => some (Value.int z)) e9a) (by rw [e9b]) dX6_shut_9
noncomputable def f6_step (C : Cs) : Option (Int32 × Cs) := (f5_push (C.2.1, C.2.2.1) (C.1 0)).bind fun P1 => bd (cRo (cRM C P1.1) P1.2) (fun (C3 : Cs) => bd (α := Int32) ((C3.1 0).1 5) (fun (v4 : Int32) => (f2_advance (C3.1 0) ((C3.2.2.2.2.2.1).1)).bind fun M5 => bd (cM C3 0 M5) (fun (C6 : Cs) => some ((((C6.1 0).1 5) &&& (v4 ^^^ (-1))), C6))))
abbrev rmX6_step : Room := { frames := 5, cells := 0, slots := 0, locals := 118 }
set_option maxHeartbeats 4000000 in
set_option maxRecDepth 100000 in
theorem c6_step (l : Launch) (g : zG) (q : Nat → Nat) (C : Cs) (ro : Int32) (C_o : Cs) (hF : f6_step C = some (ro, C_o)) : zRW l g yX6_step wsX6_step rmX6_step [.ref (q 0)] (CW g q C) (some (.int ro)) (CW g q C_o) := by
  refine zRW_of (cc := cX6_step) (maxL := 2) (ret := (some .int)) (by decide) rfl (Nat.le_of_ble_eq_true rfl) ?_
  intro p e s m args below meth c A H locs ls hx hb hr hml hts hown hlk hK hA hP hD hS hl
  have hown : s.vm.findClass RX6 = some m.cls := hown
  have hl : lv_has ls 2 [(0, .ref (q 0))] := hl
  have inX2 : ∀ w ∈ wsX20, w ∈ wsX6_step := fun _ h => List.mem_cons_of_mem _ (List.mem_append_left _ (List.mem_append_left _ (List.mem_append_right _ h)))
  have inX6 : ∀ w ∈ wsX60, w ∈ wsX6_step := fun _ h => List.mem_cons_of_mem _ (List.mem_append_left _ (List.mem_append_left _ (List.mem_append_left _ (List.mem_append_right _ h))))
  unfold f6_step at hF
  refine lv_aload_n hx hb dX6_step_0 rfl (lv_at hl 0 rfl) ?_
  refine z_get (ci := 6) (v := .ref (q 34)) (C := RX6) (T := TX6) (N := 13) hx hb hts inX6 hown hK hP 0 (cwp_0 g q C) rfl 7 (by decide) (List.mem_of_getElem? (i := 1) rfl) rfl rfl dX6_step_1 ?_
  refine lv_aload_n hx hb dX6_step_4 rfl (lv_at hl 0 rfl) ?_
  refine z_get (ci := 6) (v := .ref (q 23)) (C := RX6) (T := TX6) (N := 13) hx hb hts inX6 hown hK hP 0 (cwp_0 g q C) rfl 4 (by decide) (List.mem_of_getElem? (i := 2) rfl) rfl rfl dX6_step_5 ?_
  obtain ⟨X2, hX2⟩ := cw_perm g q C
  obtain ⟨P1, hP1, hF⟩ := zob hF
  refine z_wgoP (wn := CW g q (cRo (cRM C P1.1) P1.2)) (va_runV (As := [.ref (q 23)]) (rest := []) ⟨hx, hb, hml, hown, hts⟩ ((c5_push l g q (C.2.1, C.2.2.1) (C.1 0) P1 hP1) H.size) (cwV 1 hts gX6_step_X5_push rfl rfl rfl (by decide +kernel) ⟨Nat.le_of_ble_eq_true rfl, Nat.le_of_ble_eq_true rfl⟩) (z_wpreV (ci := 5) (q := (RX5, TX5, 2)) (q0 := 0) (zP_left (zP_perm hP (cw_perm0 hX2))) hK (z_any (zD_left (zD_perm hD (cw_perm0 hX2)))) rfl rfl) rfl rfl hl.1 rfl (lv_room (Nat.le_of_ble_eq_true rfl)) dX6_step_8 ⟨Nat.zero_le _, Nat.zero_le _⟩) hP hD hS hA X2 (cw_perm0 hX2) rfl (cw_perm1 hX2 P1) (fun H locs hP hD hS => ?_)
  show W p l e (headSpec wsX6_step rmX6_step).room s m args below meth c H locs 0 0 (MQ below (zWQ g A (CW g q C_o) (some (.int ro))) args s 0 0 A) (F0 m 11 ls [])
  obtain ⟨C3, eC3⟩ : ∃ y : Cs, y = (cRo (cRM C P1.1) P1.2) := ⟨_, rfl⟩
  rw [← eC3] at hP hD
  have hF := bd_eq eC3 hF
  refine lv_aload_n hx hb dX6_step_11 rfl (lv_at hl 0 rfl) ?_
  refine z_get (ci := 6) (v := .ref (q 23)) (C := RX6) (T := TX6) (N := 13) hx hb hts inX6 hown hK hP 0 (cwp_0 g q C3) rfl 4 (by decide) (List.mem_of_getElem? (i := 2) rfl) rfl rfl dX6_step_12 ?_
  refine z_get (ci := 2) (v := .int ((C3.1 0).1 5)) (C := RX2) (T := TX2) (N := 9) hx hb hts inX2 hown hK hP 23 (cwp_23 g q C3) rfl 5 (by decide) (List.mem_of_getElem? (i := 3) rfl) rfl rfl dX6_step_15 ?_
  refine lv_topi (fun v4 ev4 => ?_)
  have hF := bd_eq ev4 hF
  refine lv_istore_n (lv' := [(1, .int v4), (0, .ref (q 0))]) hx hb dX6_step_18 rfl hl (by decide) rfl (fun ls hl => ?_)
  refine lv_aload_n hx hb dX6_step_19 rfl (lv_at hl 1 rfl) ?_
  refine z_get (ci := 6) (v := .ref (q 23)) (C := RX6) (T := TX6) (N := 13) hx hb hts inX6 hown hK hP 0 (cwp_0 g q C3) rfl 4 (by decide) (List.mem_of_getElem? (i := 2) rfl) rfl rfl dX6_step_20 ?_
  refine lv_aload_n hx hb dX6_step_23 rfl (lv_at hl 1 rfl) ?_
  refine z_get (ci := 6) (v := .ref (q (13 + 2))) (C := RX6) (T := TX6) (N := 13) hx hb hts inX6 hown hK hP 0 (cwp_0 g q C3) rfl 3 (by decide) (List.mem_of_getElem? (i := 4) rfl) rfl rfl dX6_step_24 ?_
  obtain ⟨M5, hM5, hF⟩ := zob hF
  refine z_wgo (wn := CW g q (cM C3 0 M5)) (va_runV (As := [.ref (q (13 + 2))]) (rest := []) ⟨hx, hb, hml, hown, hts⟩ ((c2_advance l g q 23 q (13 + 2) (C3.1 0) ((C3.2.2.2.2.2.1).1)   M5 hM5) H.size) (cwV 1 hts gX6_step_X2_advance rfl rfl rfl (by decide +kernel) ⟨Nat.le_of_ble_eq_true rfl, Nat.le_of_ble_eq_true rfl⟩) (z_wpreV (ci := 2) (q := (RX2, TX2, 9)) (q0 := 0) (z_Psub hP _ (cwm_23_13_22 g q C3)) hK (z_any (hD.sub _ (by decide) (cwm_23_13_22 g q C3))) rfl rfl) rfl rfl hl.1 rfl (lv_room (Nat.le_of_ble_eq_true rfl)) dX6_step_27 ⟨Nat.zero_le _, Nat.zero_le _⟩) hP hD hS hA _ (cwm_23_13_22 g q C3) (by decide) rfl (cww_23_13_22 g q C3 M5) (fun H locs hP hD hS => ?_)
  show W p l e (headSpec wsX6_step rmX6_step).room s m args below meth c H locs 0 0 (MQ below (zWQ g A (CW g q C_o) (some (.int ro))) args s 0 0 A) (F0 m 30 ls [])
  obtain ⟨C6, eC6⟩ : ∃ y : Cs, y = (cM C3 0 M5) := ⟨_, rfl⟩
  rw [← eC6] at hP hD
  have hF := bd_eq eC6 hF
  refine lv_aload_n hx hb dX6_step_30 rfl (lv_at hl 1 rfl) ?_
  refine z_get (ci := 6) (v := .ref (q 23)) (C := RX6) (T := TX6) (N := 13) hx hb hts inX6 hown hK hP 0 (cwp_0 g q C6) rfl 4 (by decide) (List.mem_of_getElem? (i := 2) rfl) rfl rfl dX6_step_31 ?_
  refine z_get (ci := 2) (v := .int ((C6.1 0).1 5)) (C := RX2) (T := TX2) (N := 9) hx hb hts inX2 hown hK hP 23 (cwp_23 g q C6) rfl 5 (by decide) (List.mem_of_getElem? (i := 3) rfl) rfl rfl dX6_step_34 ?_
  refine lv_iload_n hx hb dX6_step_37 rfl (lv_at hl 0 rfl) ?_
  refine lv_iconst (v := (-1)) hx hb dX6_step_38 (by decide) ?_
  refine lv_ixor hx hb dX6_step_39 ?_
  refine lv_iand hx hb dX6_step_40 ?_
  obtain ⟨e9a, e9b⟩ := Prod.mk.inj (zin hF)
  exact z_wi hx hb hr hlk hP hD hS (congrArg (fun z => some (Value.int z)) e9a) (by rw [e9b]) dX6_step_41
def f6_turning_l31 (x1 : Int32) : Nat → Int32 → Int32 → Cs → Option (Int32 × Cs)
  | 0, _, _, _ => none
  | n31 + 1, y3, y4, C5 => if 4 ≤ y4 then some (y3, C5) else (f6_isAsHeard C5 x1 y4).bind fun (v8, C7) => if v8 = 0 then f6_turning_l31 x1 n31 y3 (y4 + 1) C7 else bd (α := Int32) (y3 ||| (f6_bit y4)) (fun (v10 : Int32) => f6_turning_l31 x1 n31 v10 (y4 + 1) C7)
def f6_turning (C : Cs) (x1 : Int32) : Option (Int32 × Cs) := if (f6_isNoWalker C x1) = 0 then if (f6_has ((C.1 0).1 5) x1) = 0 then f6_turning_l31 x1 FU 0 0 C else some ((-3), C) else some ((-1), C)
abbrev rmX6_turning : Room := { frames := 6, cells := 0, slots := 0, locals := 141 }
set_option maxHeartbeats 4000000 in
set_option maxRecDepth 100000 in
theorem c6_turning (l : Launch) (g : zG) (q : Nat → Nat) (C : Cs) (x1 : Int32) (ro : Int32) (C_o : Cs) (hF : f6_turning C x1 = some (ro, C_o)) : zRW l g yX6_turning wsX6_turning rmX6_turning [.ref (q 0), .int x1] (CW g q C) (some (.int ro)) (CW g q C_o) := by
  refine zRW_of (cc := cX6_turning) (maxL := 4) (ret := (some .int)) (by decide) rfl (Nat.le_of_ble_eq_true rfl) ?_
  intro p e s m args below meth c A H locs ls hx hb hr hml hts hown hlk hK hA hP hD hS hl
  have hown : s.vm.findClass RX6 = some m.cls := hown
  have hl : lv_has ls 4 [(0, .ref (q 0)), (1, .int x1)] := hl
  have inX2 : ∀ w ∈ wsX20, w ∈ wsX6_turning := fun _ h => List.mem_cons_of_mem _ (List.mem_append_left _ (List.mem_append_left _ (List.mem_append_right _ h)))
  have inX6 : ∀ w ∈ wsX60, w ∈ wsX6_turning := fun _ h => List.mem_cons_of_mem _ (List.mem_append_left _ (List.mem_append_left _ (List.mem_append_left _ (List.mem_append_right _ h))))
  unfold f6_turning at hF
  refine lv_aload_n hx hb dX6_turning_0 rfl (lv_at hl 0 rfl) ?_
  refine lv_iload_n hx hb dX6_turning_1 rfl (lv_at hl 1 rfl) ?_
  refine z_rgo (va_runV (As := [.int x1]) (rest := []) ⟨hx, hb, hml, hown, hts⟩ (c6_isNoWalker l g q C x1) (cwV 1 hts gX6_turning_X6_isNoWalker rfl rfl rfl (by decide +kernel) ⟨Nat.le_of_ble_eq_true rfl, Nat.le_of_ble_eq_true rfl⟩) (z_rpreV (ci := 6) (q := (RX6, TX6, 13)) (q0 := 0) hP hK rfl rfl) rfl rfl hl.1 rfl (lv_room (Nat.le_of_ble_eq_true rfl)) dX6_turning_2 ⟨Nat.zero_le _, Nat.zero_le _⟩) ?_
  refine lv_if_eq (tgt := 10) hx hb dX6_turning_5 (by decide) (fun c1 => ?_) (fun c1 => ?_)
  · have hF := zit c1 hF
    refine lv_aload_n hx hb dX6_turning_10 rfl (lv_at hl 0 rfl) ?_
    refine z_get (ci := 6) (v := .ref (q 23)) (C := RX6) (T := TX6) (N := 13) hx hb hts inX6 hown hK hP 0 (cwp_0 g q C) rfl 4 (by decide) (List.mem_of_getElem? (i := 1) rfl) rfl rfl dX6_turning_11 ?_
    refine z_get (ci := 2) (v := .int ((C.1 0).1 5)) (C := RX2) (T := TX2) (N := 9) hx hb hts inX2 hown hK hP 23 (cwp_23 g q C) rfl 5 (by decide) (List.mem_of_getElem? (i := 2) rfl) rfl rfl dX6_turning_14 ?_
    refine lv_iload_n hx hb dX6_turning_17 rfl (lv_at hl 1 rfl) ?_
    refine z_rgo (va_runS (As := [.int ((C.1 0).1 5), .int x1]) (rest := []) ⟨hx, hb, hml, hown, hts⟩ (c6_has l g   ((C.1 0).1 5) x1) (va_cwS 2 hts gX6_turning_X6_has rfl rfl rfl (by decide +kernel) ⟨Nat.le_of_ble_eq_true rfl, Nat.le_of_ble_eq_true rfl⟩) (z_rpre z_nil hK) rfl rfl hl.1 rfl (lv_room (Nat.le_of_ble_eq_true rfl)) dX6_turning_18 ⟨Nat.zero_le _, Nat.zero_le _⟩) ?_
    refine lv_if_eq (tgt := 27) hx hb dX6_turning_21 (by decide) (fun c2 => ?_) (fun c2 => ?_)
    · have hF := zit c2 hF
      refine lv_iconst (v := 0) hx hb dX6_turning_27 (by decide) ?_
      refine lv_istore_n (lv' := [(2, .int 0), (0, .ref (q 0)), (1, .int x1)]) hx hb dX6_turning_28 rfl hl (by decide) rfl (fun ls hl => ?_)
      refine lv_iconst (v := 0) hx hb dX6_turning_29 (by decide) ?_
      refine lv_istore_n (lv' := [(3, .int 0), (2, .int 0), (0, .ref (q 0)), (1, .int x1)]) hx hb dX6_turning_30 rfl hl (by decide) rfl (fun ls hl => ?_)
      have L31 : ∀ (n31 : Nat) (y3 : Int32) (y4 : Int32) (C5 : Cs) (H : Heap) (locs : List Loc) (ls : Array Slot), f6_turning_l31 x1 n31 y3 y4 C5 = some (ro, C_o) → va_P (zD g) vwCl (CW g q C5) H → va_D A (CW g q C5) → va_S A s.heap H locs → lv_has ls 4 [(0, .ref (q 0)), (1, .int x1), (2, .int y3), (3, .int y4)] → W p l e (headSpec wsX6_turning rmX6_turning).room s m args below meth c H locs 0 0 (MQ below (zWQ g A (CW g q C_o) (some (.int ro))) args s 0 0 A) (F0 m 31 ls []) := by
        intro n31
        induction n31 with
        | zero =>
          intro y3 y4 C5 H locs ls hF hP hD hS hl
          exact absurd (show (none : Option (Int32 × Cs)) = some _ from hF) (fun h9 => by cases h9)
        | succ n31 ih31 =>
          intro y3 y4 C5 H locs ls hF hP hD hS hl
          rw [f6_turning_l31] at hF
          refine lv_iload_n hx hb dX6_turning_31 rfl (lv_at hl 3 rfl) ?_
          refine lv_iconst (v := 4) hx hb dX6_turning_32 (by decide) ?_
          refine lv_icmp_ge (tgt := 58) hx hb dX6_turning_33 (by decide) (fun c6 => ?_) (fun c6 => ?_)
          · have hF := zit c6 hF
            refine lv_iload_n hx hb dX6_turning_58 rfl (lv_at hl 2 rfl) ?_
            obtain ⟨e9a, e9b⟩ := Prod.mk.inj (zin hF)
            exact z_wi hx hb hr hlk hP hD hS (congrArg (fun z => some (Value.int z)) e9a) (by rw [e9b]) dX6_turning_59
          · have hF := zif c6 hF
            refine lv_aload_n hx hb dX6_turning_36 rfl (lv_at hl 0 rfl) ?_
            refine lv_iload_n hx hb dX6_turning_37 rfl (lv_at hl 1 rfl) ?_
            refine lv_iload_n hx hb dX6_turning_38 rfl (lv_at hl 3 rfl) ?_
            obtain ⟨⟨v8, C7⟩, hC7, hF⟩ := zob hF
            refine z_wgoW (va_runV (As := [.int x1, .int y4]) (rest := []) ⟨hx, hb, hml, hown, hts⟩ ((c6_isAsHeard l g q C5 x1 y4 v8  C7 hC7) H.size) (cwV 2 hts gX6_turning_X6_isAsHeard rfl rfl rfl (by decide +kernel) ⟨Nat.le_of_ble_eq_true rfl, Nat.le_of_ble_eq_true rfl⟩) (z_wpreV (ci := 6) (q := (RX6, TX6, 13)) (q0 := 0) hP hK (z_any hD) rfl rfl) rfl rfl hl.1 rfl (lv_room (Nat.le_of_ble_eq_true rfl)) dX6_turning_39 ⟨Nat.zero_le _, Nat.zero_le _⟩) hP hD hS hA (fun H locs hP hD hS => ?_)
            show W p l e (headSpec wsX6_turning rmX6_turning).room s m args below meth c H locs 0 0 (MQ below (zWQ g A (CW g q C_o) (some (.int ro))) args s 0 0 A) (F0 m 42 ls [.int v8])
            refine lv_if_eq (tgt := 52) hx hb dX6_turning_42 (by decide) (fun c9 => ?_) (fun c9 => ?_)
            · have hF := zit c9 hF
              refine lv_iinc (v := (y4 + 1)) (lv' := [(3, .int (y4 + 1)), (0, .ref (q 0)), (1, .int x1), (2, .int y3)]) hx hb dX6_turning_52 hl (k := 3) rfl rfl (by decide) rfl (fun ls hl => ?_)
              refine lv_goto (tgt := 31) hx hb dX6_turning_55 (by decide) ?_
              exact ih31 y3 (y4 + 1) C7 H locs ls hF hP hD hS (lv_sub hl [1, 2, 3, 0] rfl)
            · have hF := zif c9 hF
              refine lv_iload_n hx hb dX6_turning_45 rfl (lv_at hl 2 rfl) ?_
              refine lv_iload_n hx hb dX6_turning_46 rfl (lv_at hl 3 rfl) ?_
              refine z_rgo (va_runS (As := [.int y4]) (rest := [.int y3]) ⟨hx, hb, hml, hown, hts⟩ (c6_bit l g   y4) (va_cwS 1 hts gX6_turning_X6_bit rfl rfl rfl (by decide +kernel) ⟨Nat.le_of_ble_eq_true rfl, Nat.le_of_ble_eq_true rfl⟩) (z_rpre z_nil hK) rfl rfl hl.1 rfl (lv_room (Nat.le_of_ble_eq_true rfl)) dX6_turning_47 ⟨Nat.zero_le _, Nat.zero_le _⟩) ?_
              refine lv_ior hx hb dX6_turning_50 ?_
              refine lv_topi (fun v10 ev10 => ?_)
              have hF := bd_eq ev10 hF
              refine lv_istore_n (lv' := [(2, .int v10), (0, .ref (q 0)), (1, .int x1), (3, .int y4)]) hx hb dX6_turning_51 rfl hl (by decide) rfl (fun ls hl => ?_)
              refine lv_iinc (v := (y4 + 1)) (lv' := [(3, .int (y4 + 1)), (2, .int v10), (0, .ref (q 0)), (1, .int x1)]) hx hb dX6_turning_52 hl (k := 3) rfl rfl (by decide) rfl (fun ls hl => ?_)
              refine lv_goto (tgt := 31) hx hb dX6_turning_55 (by decide) ?_
              exact ih31 v10 (y4 + 1) C7 H locs ls hF hP hD hS (lv_sub hl [2, 3, 1, 0] rfl)
      exact L31 FU 0 0 C H locs ls hF hP hD hS (lv_sub hl [2, 3, 1, 0] rfl)
    · have hF := zif c2 hF
      refine lv_bipush (v := (-3)) hx hb dX6_turning_24 (by decide) ?_
      obtain ⟨e9a, e9b⟩ := Prod.mk.inj (zin hF)
      exact z_wi hx hb hr hlk hP hD hS (congrArg (fun z => some (Value.int z)) e9a) (by rw [e9b]) dX6_turning_26
  · have hF := zif c1 hF
    refine lv_iconst (v := (-1)) hx hb dX6_turning_8 (by decide) ?_
    obtain ⟨e9a, e9b⟩ := Prod.mk.inj (zin hF)
    exact z_wi hx hb hr hlk hP hD hS (congrArg (fun z => some (Value.int z)) e9a) (by rw [e9b]) dX6_turning_9
noncomputable def f6_undo (C : Cs) : Option (Int32 × Cs) := if 0 < (C.2.2.1.2) then (f5_pop (C.2.1, C.2.2.1) (C.1 0)).bind fun (P2, M4) => bd (cM (cRo (cRM C P2.1) P2.2) 0 M4) (fun (C5 : Cs) => some ((C5.2.2.1.2), C5)) else some ((-3), C)
abbrev rmX6_undo : Room := { frames := 3, cells := 0, slots := 0, locals := 66 }
set_option maxHeartbeats 4000000 in
set_option maxRecDepth 100000 in
theorem c6_undo (l : Launch) (g : zG) (q : Nat → Nat) (C : Cs) (ro : Int32) (C_o : Cs) (hF : f6_undo C = some (ro, C_o)) : zRW l g yX6_undo wsX6_undo rmX6_undo [.ref (q 0)] (CW g q C) (some (.int ro)) (CW g q C_o) := by
  refine zRW_of (cc := cX6_undo) (maxL := 1) (ret := (some .int)) (by decide) rfl (Nat.le_of_ble_eq_true rfl) ?_
  intro p e s m args below meth c A H locs ls hx hb hr hml hts hown hlk hK hA hP hD hS hl
  have hown : s.vm.findClass RX6 = some m.cls := hown
  have hl : lv_has ls 1 [(0, .ref (q 0))] := hl
  have inX5 : ∀ w ∈ wsX50, w ∈ wsX6_undo := fun _ h => List.mem_cons_of_mem _ (List.mem_append_left _ (List.mem_append_right _ h))
  have inX6 : ∀ w ∈ wsX60, w ∈ wsX6_undo := fun _ h => List.mem_cons_of_mem _ (List.mem_append_left _ (List.mem_append_left _ (List.mem_append_right _ h)))
  unfold f6_undo at hF
  refine lv_aload_n hx hb dX6_undo_0 rfl (lv_at hl 0 rfl) ?_
  refine z_get (ci := 6) (v := .ref (q 34)) (C := RX6) (T := TX6) (N := 13) hx hb hts inX6 hown hK hP 0 (cwp_0 g q C) rfl 7 (by decide) (List.mem_of_getElem? (i := 1) rfl) rfl rfl dX6_undo_1 ?_
  refine z_get (ci := 5) (v := .int (C.2.2.1.2)) (C := RX5) (T := TX5) (N := 2) hx hb hts inX5 hown hK hP 34 (cwp_34 g q C) rfl 1 (by decide) (List.mem_of_getElem? (i := 2) rfl) rfl rfl dX6_undo_4 ?_
  refine lv_if_gt (tgt := 13) hx hb dX6_undo_7 (by decide) (fun c1 => ?_) (fun c1 => ?_)
  · have hF := zit c1 hF
    refine lv_aload_n hx hb dX6_undo_13 rfl (lv_at hl 0 rfl) ?_
    refine z_get (ci := 6) (v := .ref (q 34)) (C := RX6) (T := TX6) (N := 13) hx hb hts inX6 hown hK hP 0 (cwp_0 g q C) rfl 7 (by decide) (List.mem_of_getElem? (i := 1) rfl) rfl rfl dX6_undo_14 ?_
    refine lv_aload_n hx hb dX6_undo_17 rfl (lv_at hl 0 rfl) ?_
    refine z_get (ci := 6) (v := .ref (q 23)) (C := RX6) (T := TX6) (N := 13) hx hb hts inX6 hown hK hP 0 (cwp_0 g q C) rfl 4 (by decide) (List.mem_of_getElem? (i := 3) rfl) rfl rfl dX6_undo_18 ?_
    obtain ⟨X3, hX3⟩ := cw_perm g q C
    obtain ⟨⟨P2, M4⟩, hP2, hF⟩ := zob hF
    refine z_wgoP (wn := CW g q (cM (cRo (cRM C P2.1) P2.2) 0 M4)) (va_runV (As := [.ref (q 23)]) (rest := []) ⟨hx, hb, hml, hown, hts⟩ ((c5_popInto l g q (C.2.1, C.2.2.1) (C.1 0) P2 M4 hP2) H.size) (cwV 1 hts gX6_undo_X5_popInto rfl rfl rfl (by decide +kernel) ⟨Nat.le_of_ble_eq_true rfl, Nat.le_of_ble_eq_true rfl⟩) (z_wpreV (ci := 5) (q := (RX5, TX5, 2)) (q0 := 0) (zP_left (zP_perm hP (cw_perm0 hX3))) hK (z_any (zD_left (zD_perm hD (cw_perm0 hX3)))) rfl rfl) rfl rfl hl.1 rfl (lv_room (Nat.le_of_ble_eq_true rfl)) dX6_undo_21 ⟨Nat.zero_le _, Nat.zero_le _⟩) hP hD hS hA X3 (cw_perm0 hX3) rfl (hX3 P2 M4).symm (fun H locs hP hD hS => ?_)
    show W p l e (headSpec wsX6_undo rmX6_undo).room s m args below meth c H locs 0 0 (MQ below (zWQ g A (CW g q C_o) (some (.int ro))) args s 0 0 A) (F0 m 24 ls [])
    obtain ⟨C5, eC5⟩ : ∃ y : Cs, y = (cM (cRo (cRM C P2.1) P2.2) 0 M4) := ⟨_, rfl⟩
    rw [← eC5] at hP hD
    have hF := bd_eq eC5 hF
    refine lv_aload_n hx hb dX6_undo_24 rfl (lv_at hl 0 rfl) ?_
    refine z_get (ci := 6) (v := .ref (q 34)) (C := RX6) (T := TX6) (N := 13) hx hb hts inX6 hown hK hP 0 (cwp_0 g q C5) rfl 7 (by decide) (List.mem_of_getElem? (i := 1) rfl) rfl rfl dX6_undo_25 ?_
    refine z_get (ci := 5) (v := .int (C5.2.2.1.2)) (C := RX5) (T := TX5) (N := 2) hx hb hts inX5 hown hK hP 34 (cwp_34 g q C5) rfl 1 (by decide) (List.mem_of_getElem? (i := 2) rfl) rfl rfl dX6_undo_28 ?_
    obtain ⟨e9a, e9b⟩ := Prod.mk.inj (zin hF)
    exact z_wi hx hb hr hlk hP hD hS (congrArg (fun z => some (Value.int z)) e9a) (by rw [e9b]) dX6_undo_31
  · have hF := zif c1 hF
    refine lv_bipush (v := (-3)) hx hb dX6_undo_10 (by decide) ?_
    obtain ⟨e9a, e9b⟩ := Prod.mk.inj (zin hF)
    exact z_wi hx hb hr hlk hP hD hS (congrArg (fun z => some (Value.int z)) e9a) (by rw [e9b]) dX6_undo_12
def f6_unhear (C : Cs) : Option (Int32 × Cs) := bd (α := Int32) ((C.2.2.2.2.2.2.2.1).2) (fun (v1 : Int32) => bd (cHd C (uL (C.2.2.2.2.2.2.2.1) 0)) (fun (C2 : Cs) => some (v1, C2)))
abbrev rmX6_unhear : Room := { frames := 0, cells := 0, slots := 0, locals := 0 }
set_option maxHeartbeats 4000000 in
set_option maxRecDepth 100000 in
theorem c6_unhear (l : Launch) (g : zG) (q : Nat → Nat) (C : Cs) (ro : Int32) (C_o : Cs) (hF : f6_unhear C = some (ro, C_o)) : zRW l g yX6_unhear wsX6_unhear rmX6_unhear [.ref (q 0)] (CW g q C) (some (.int ro)) (CW g q C_o) := by
  refine zRW_of (cc := cX6_unhear) (maxL := 2) (ret := (some .int)) (by decide) rfl (Nat.le_of_ble_eq_true rfl) ?_
  intro p e s m args below meth c A H locs ls hx hb hr hml hts hown hlk hK hA hP hD hS hl
  have hown : s.vm.findClass RX6 = some m.cls := hown
  have hl : lv_has ls 2 [(0, .ref (q 0))] := hl
  have inX0 : ∀ w ∈ wsX00, w ∈ wsX6_unhear := fun _ h => List.mem_cons_of_mem _ (List.mem_append_right _ h)
  have inX6 : ∀ w ∈ wsX60, w ∈ wsX6_unhear := fun _ h => List.mem_cons_of_mem _ (List.mem_append_left _ (List.mem_append_right _ h))
  unfold f6_unhear at hF
  refine lv_aload_n hx hb dX6_unhear_0 rfl (lv_at hl 0 rfl) ?_
  refine z_get (ci := 6) (v := .ref (q 46)) (C := RX6) (T := TX6) (N := 13) hx hb hts inX6 hown hK hP 0 (cwp_0 g q C) rfl 10 (by decide) (List.mem_of_getElem? (i := 1) rfl) rfl rfl dX6_unhear_1 ?_
  refine z_get (ci := 0) (v := .int ((C.2.2.2.2.2.2.2.1).2)) (C := RX0) (T := TX0) (N := 4) hx hb hts inX0 hown hK hP 46 (cwp_46 g q C) rfl 3 (by decide) (List.mem_of_getElem? (i := 2) rfl) rfl rfl dX6_unhear_4 ?_
  refine lv_topi (fun v1 ev1 => ?_)
  have hF := bd_eq ev1 hF
  refine lv_istore_n (lv' := [(1, .int v1), (0, .ref (q 0))]) hx hb dX6_unhear_7 rfl hl (by decide) rfl (fun ls hl => ?_)
  refine lv_aload_n hx hb dX6_unhear_8 rfl (lv_at hl 1 rfl) ?_
  refine z_get (ci := 6) (v := .ref (q 46)) (C := RX6) (T := TX6) (N := 13) hx hb hts inX6 hown hK hP 0 (cwp_0 g q C) rfl 10 (by decide) (List.mem_of_getElem? (i := 1) rfl) rfl rfl dX6_unhear_9 ?_
  refine lv_iconst (v := 0) hx hb dX6_unhear_12 (by decide) ?_
  refine z_put (ci := 0) (v := .int 0) (C := RX0) (T := TX0) (N := 4) (ws' := CW g q (cHd C (uL (C.2.2.2.2.2.2.2.1) 0))) hx hb hts inX0 tyX0 tyX0_ok nmX0 hown hK hP hD hS 46 (cwp_46 g q C) rfl 3 (by decide) (List.mem_of_getElem? (i := 2) rfl) rfl rfl rfl rfl (Nat.le_of_ble_eq_true rfl) (cwst_46_3 g q C 0) dX6_unhear_13 (fun H locs hP hD hS => ?_)
  obtain ⟨C2, eC2⟩ : ∃ y : Cs, y = (cHd C (uL (C.2.2.2.2.2.2.2.1) 0)) := ⟨_, rfl⟩
  rw [← eC2] at hP hD
  have hF := bd_eq eC2 hF
  refine lv_iload_n hx hb dX6_unhear_16 rfl (lv_at hl 0 rfl) ?_
  obtain ⟨e9a, e9b⟩ := Prod.mk.inj (zin hF)
  exact z_wi hx hb hr hlk hP hD hS (congrArg (fun z => some (Value.int z)) e9a) (by rw [e9b]) dX6_unhear_17
def f6_walker (C : Cs) (x1 : Int32) (x2 : Int32) : Option (Int32) := if (f6_isNoWalker C x1) = 0 then if x2 = 0 then some (f6_cell 4 ((C.1 0).2 0) x1) else if x2 = 1 then some (f6_cell 4 ((C.1 0).2 1) x1) else if x2 = 2 then some (f6_cell 4 ((C.1 0).2 2) x1) else if x2 = 3 then some (f6_cell 4 (((C.2.2.2.2.2.1).1).2 11) x1) else if x2 = 4 then some (f6_cell 4 (((C.2.2.2.2.2.1).1).2 12) x1) else if x2 = 5 then some (f6_flag (f6_has ((C.1 0).1 5) x1)) else if x2 = 6 then (f2_nextOf (C.1 0) ((C.2.2.2.2.2.1).1) x1 (f3_tide ((C.2.2.2.2.2.1).1) ((C.1 0).1 8))).bind fun v9 => some v9 else if x2 = 7 then some (f6_cell 4 (((C.2.2.2.2.2.1).1).2 10) x1) else some (-2) else some (-1)
abbrev rmX6_walker : Room := { frames := 3, cells := 0, slots := 0, locals := 74 }
set_option maxHeartbeats 4000000 in
set_option maxRecDepth 100000 in
theorem c6_walker (l : Launch) (g : zG) (q : Nat → Nat) (C : Cs) (x1 : Int32) (x2 : Int32) (ro : Int32) (hF : f6_walker C x1 x2 = some ro) : zRO l g yX6_walker wsX6_walker rmX6_walker [.ref (q 0), .int x1, .int x2] (CW g q C) (some (.int ro)) := by
  refine zRO_of (cc := cX6_walker) (maxL := 3) (ret := (some .int)) (by decide) rfl (Nat.le_of_ble_eq_true rfl) ?_
  intro p e s m args below meth c ls hx hb hr hml hts hown hlk hK hP hl
  have hown : s.vm.findClass RX6 = some m.cls := hown
  have hl : lv_has ls 3 [(0, .ref (q 0)), (1, .int x1), (2, .int x2)] := hl
  have inX2 : ∀ w ∈ wsX20, w ∈ wsX6_walker := fun _ h => List.mem_cons_of_mem _ (List.mem_append_left _ (List.mem_append_right _ h))
  have inX3 : ∀ w ∈ wsX30, w ∈ wsX6_walker := fun _ h => List.mem_cons_of_mem _ (List.mem_append_right _ h)
  have inX6 : ∀ w ∈ wsX60, w ∈ wsX6_walker := fun _ h => List.mem_cons_of_mem _ (List.mem_append_left _ (List.mem_append_left _ (List.mem_append_right _ h)))
  unfold f6_walker at hF
  refine lv_aload_n hx hb dX6_walker_0 rfl (lv_at hl 0 rfl) ?_
  refine lv_iload_n hx hb dX6_walker_1 rfl (lv_at hl 1 rfl) ?_
  refine z_rgo (va_runV (As := [.int x1]) (rest := []) ⟨hx, hb, hml, hown, hts⟩ (c6_isNoWalker l g q C x1) (cwV 1 hts gX6_walker_X6_isNoWalker rfl rfl rfl (by decide +kernel) ⟨Nat.le_of_ble_eq_true rfl, Nat.le_of_ble_eq_true rfl⟩) (z_rpreV (ci := 6) (q := (RX6, TX6, 13)) (q0 := 0) hP hK rfl rfl) rfl rfl hl.1 rfl (lv_room (Nat.le_of_ble_eq_true rfl)) dX6_walker_2 ⟨Nat.zero_le _, Nat.zero_le _⟩) ?_
  refine lv_if_eq (tgt := 10) hx hb dX6_walker_5 (by decide) (fun c1 => ?_) (fun c1 => ?_)
  · have hF := zit c1 hF
    refine lv_iload_n hx hb dX6_walker_10 rfl (lv_at hl 2 rfl) ?_
    by_cases c2 : x2 = 0
    · have hF := zit c2 hF
      refine z_tin (k := 0) (tgt := 56) hx hb dX6_walker_11 c2 ⟨by decide, by decide, rfl, by decide⟩ ?_
      refine lv_aload_n hx hb dX6_walker_56 rfl (lv_at hl 0 rfl) ?_
      refine z_get (ci := 6) (v := .ref (q 23)) (C := RX6) (T := TX6) (N := 13) hx hb hts inX6 hown hK hP 0 (cwp_0 g q C) rfl 4 (by decide) (List.mem_of_getElem? (i := 1) rfl) rfl rfl dX6_walker_57 ?_
      refine z_get (ci := 2) (v := .ref (q (23 + 1))) (C := RX2) (T := TX2) (N := 9) hx hb hts inX2 hown hK hP 23 (cwp_23 g q C) rfl 0 (by decide) (List.mem_of_getElem? (i := 2) rfl) rfl rfl dX6_walker_60 ?_
      refine lv_iload_n hx hb dX6_walker_63 rfl (lv_at hl 1 rfl) ?_
      refine z_rgo (va_runS (As := [.ref (q (23 + 1)), .int x1]) (rest := []) ⟨hx, hb, hml, hown, hts⟩ (c6_cell l g (q (23 + 1)) 4 (by decide) ((C.1 0).2 0) x1) (va_cwS 2 hts gX6_walker_X6_cell rfl rfl rfl (by decide +kernel) ⟨Nat.le_of_ble_eq_true rfl, Nat.le_of_ble_eq_true rfl⟩) (z_rpre (z_Psub hP _ (cwm_24_1_24 g q C)) hK) rfl rfl hl.1 rfl (lv_room (Nat.le_of_ble_eq_true rfl)) dX6_walker_64 ⟨Nat.zero_le _, Nat.zero_le _⟩) ?_
      have e9a := zin hF
      exact z_ri hx hb hr hlk (congrArg (fun z => some (Value.int z)) e9a) dX6_walker_67
    · have hF := zif c2 hF
      by_cases c3 : x2 = 1
      · have hF := zit c3 hF
        refine z_tin (k := 1) (tgt := 68) hx hb dX6_walker_11 c3 ⟨by decide, by decide, rfl, by decide⟩ ?_
        refine lv_aload_n hx hb dX6_walker_68 rfl (lv_at hl 0 rfl) ?_
        refine z_get (ci := 6) (v := .ref (q 23)) (C := RX6) (T := TX6) (N := 13) hx hb hts inX6 hown hK hP 0 (cwp_0 g q C) rfl 4 (by decide) (List.mem_of_getElem? (i := 1) rfl) rfl rfl dX6_walker_69 ?_
        refine z_get (ci := 2) (v := .ref (q (23 + 2))) (C := RX2) (T := TX2) (N := 9) hx hb hts inX2 hown hK hP 23 (cwp_23 g q C) rfl 1 (by decide) (List.mem_of_getElem? (i := 3) rfl) rfl rfl dX6_walker_72 ?_
        refine lv_iload_n hx hb dX6_walker_75 rfl (lv_at hl 1 rfl) ?_
        refine z_rgo (va_runS (As := [.ref (q (23 + 2)), .int x1]) (rest := []) ⟨hx, hb, hml, hown, hts⟩ (c6_cell l g (q (23 + 2)) 4 (by decide) ((C.1 0).2 1) x1) (va_cwS 2 hts gX6_walker_X6_cell rfl rfl rfl (by decide +kernel) ⟨Nat.le_of_ble_eq_true rfl, Nat.le_of_ble_eq_true rfl⟩) (z_rpre (z_Psub hP _ (cwm_25_1_25 g q C)) hK) rfl rfl hl.1 rfl (lv_room (Nat.le_of_ble_eq_true rfl)) dX6_walker_76 ⟨Nat.zero_le _, Nat.zero_le _⟩) ?_
        have e9a := zin hF
        exact z_ri hx hb hr hlk (congrArg (fun z => some (Value.int z)) e9a) dX6_walker_79
      · have hF := zif c3 hF
        by_cases c4 : x2 = 2
        · have hF := zit c4 hF
          refine z_tin (k := 2) (tgt := 80) hx hb dX6_walker_11 c4 ⟨by decide, by decide, rfl, by decide⟩ ?_
          refine lv_aload_n hx hb dX6_walker_80 rfl (lv_at hl 0 rfl) ?_
          refine z_get (ci := 6) (v := .ref (q 23)) (C := RX6) (T := TX6) (N := 13) hx hb hts inX6 hown hK hP 0 (cwp_0 g q C) rfl 4 (by decide) (List.mem_of_getElem? (i := 1) rfl) rfl rfl dX6_walker_81 ?_
          refine z_get (ci := 2) (v := .ref (q (23 + 3))) (C := RX2) (T := TX2) (N := 9) hx hb hts inX2 hown hK hP 23 (cwp_23 g q C) rfl 2 (by decide) (List.mem_of_getElem? (i := 4) rfl) rfl rfl dX6_walker_84 ?_
          refine lv_iload_n hx hb dX6_walker_87 rfl (lv_at hl 1 rfl) ?_
          refine z_rgo (va_runS (As := [.ref (q (23 + 3)), .int x1]) (rest := []) ⟨hx, hb, hml, hown, hts⟩ (c6_cell l g (q (23 + 3)) 4 (by decide) ((C.1 0).2 2) x1) (va_cwS 2 hts gX6_walker_X6_cell rfl rfl rfl (by decide +kernel) ⟨Nat.le_of_ble_eq_true rfl, Nat.le_of_ble_eq_true rfl⟩) (z_rpre (z_Psub hP _ (cwm_26_1_26 g q C)) hK) rfl rfl hl.1 rfl (lv_room (Nat.le_of_ble_eq_true rfl)) dX6_walker_88 ⟨Nat.zero_le _, Nat.zero_le _⟩) ?_
          have e9a := zin hF
          exact z_ri hx hb hr hlk (congrArg (fun z => some (Value.int z)) e9a) dX6_walker_91
        · have hF := zif c4 hF
          by_cases c5 : x2 = 3
          · have hF := zit c5 hF
            refine z_tin (k := 3) (tgt := 92) hx hb dX6_walker_11 c5 ⟨by decide, by decide, rfl, by decide⟩ ?_
            refine lv_aload_n hx hb dX6_walker_92 rfl (lv_at hl 0 rfl) ?_
            refine z_get (ci := 6) (v := .ref (q (13 + 2))) (C := RX6) (T := TX6) (N := 13) hx hb hts inX6 hown hK hP 0 (cwp_0 g q C) rfl 3 (by decide) (List.mem_of_getElem? (i := 5) rfl) rfl rfl dX6_walker_93 ?_
            refine z_get (ci := 3) (v := .ref (q ((13 + 2) + 6))) (C := RX3) (T := TX3) (N := 13) hx hb hts inX3 hown hK hP 15 (cwp_15 g q C) rfl 11 (by decide) (List.mem_of_getElem? (i := 6) rfl) rfl rfl dX6_walker_96 ?_
            refine lv_iload_n hx hb dX6_walker_99 rfl (lv_at hl 1 rfl) ?_
            refine z_rgo (va_runS (As := [.ref (q ((13 + 2) + 6)), .int x1]) (rest := []) ⟨hx, hb, hml, hown, hts⟩ (c6_cell l g (q ((13 + 2) + 6)) 4 (by decide) (((C.2.2.2.2.2.1).1).2 11) x1) (va_cwS 2 hts gX6_walker_X6_cell rfl rfl rfl (by decide +kernel) ⟨Nat.le_of_ble_eq_true rfl, Nat.le_of_ble_eq_true rfl⟩) (z_rpre (z_Psub hP _ (cwm_21_1_21 g q C)) hK) rfl rfl hl.1 rfl (lv_room (Nat.le_of_ble_eq_true rfl)) dX6_walker_100 ⟨Nat.zero_le _, Nat.zero_le _⟩) ?_
            have e9a := zin hF
            exact z_ri hx hb hr hlk (congrArg (fun z => some (Value.int z)) e9a) dX6_walker_103
          · have hF := zif c5 hF
            by_cases c6 : x2 = 4
            · have hF := zit c6 hF
              refine z_tin (k := 4) (tgt := 104) hx hb dX6_walker_11 c6 ⟨by decide, by decide, rfl, by decide⟩ ?_
              refine lv_aload_n hx hb dX6_walker_104 rfl (lv_at hl 0 rfl) ?_
              refine z_get (ci := 6) (v := .ref (q (13 + 2))) (C := RX6) (T := TX6) (N := 13) hx hb hts inX6 hown hK hP 0 (cwp_0 g q C) rfl 3 (by decide) (List.mem_of_getElem? (i := 5) rfl) rfl rfl dX6_walker_105 ?_
              refine z_get (ci := 3) (v := .ref (q ((13 + 2) + 7))) (C := RX3) (T := TX3) (N := 13) hx hb hts inX3 hown hK hP 15 (cwp_15 g q C) rfl 12 (by decide) (List.mem_of_getElem? (i := 7) rfl) rfl rfl dX6_walker_108 ?_
              refine lv_iload_n hx hb dX6_walker_111 rfl (lv_at hl 1 rfl) ?_
              refine z_rgo (va_runS (As := [.ref (q ((13 + 2) + 7)), .int x1]) (rest := []) ⟨hx, hb, hml, hown, hts⟩ (c6_cell l g (q ((13 + 2) + 7)) 4 (by decide) (((C.2.2.2.2.2.1).1).2 12) x1) (va_cwS 2 hts gX6_walker_X6_cell rfl rfl rfl (by decide +kernel) ⟨Nat.le_of_ble_eq_true rfl, Nat.le_of_ble_eq_true rfl⟩) (z_rpre (z_Psub hP _ (cwm_22_1_22 g q C)) hK) rfl rfl hl.1 rfl (lv_room (Nat.le_of_ble_eq_true rfl)) dX6_walker_112 ⟨Nat.zero_le _, Nat.zero_le _⟩) ?_
              have e9a := zin hF
              exact z_ri hx hb hr hlk (congrArg (fun z => some (Value.int z)) e9a) dX6_walker_115
            · have hF := zif c6 hF
              by_cases c7 : x2 = 5
              · have hF := zit c7 hF
                refine z_tin (k := 5) (tgt := 116) hx hb dX6_walker_11 c7 ⟨by decide, by decide, rfl, by decide⟩ ?_
                refine lv_aload_n hx hb dX6_walker_116 rfl (lv_at hl 0 rfl) ?_
                refine z_get (ci := 6) (v := .ref (q 23)) (C := RX6) (T := TX6) (N := 13) hx hb hts inX6 hown hK hP 0 (cwp_0 g q C) rfl 4 (by decide) (List.mem_of_getElem? (i := 1) rfl) rfl rfl dX6_walker_117 ?_
                refine z_get (ci := 2) (v := .int ((C.1 0).1 5)) (C := RX2) (T := TX2) (N := 9) hx hb hts inX2 hown hK hP 23 (cwp_23 g q C) rfl 5 (by decide) (List.mem_of_getElem? (i := 8) rfl) rfl rfl dX6_walker_120 ?_
                refine lv_iload_n hx hb dX6_walker_123 rfl (lv_at hl 1 rfl) ?_
                refine z_rgo (va_runS (As := [.int ((C.1 0).1 5), .int x1]) (rest := []) ⟨hx, hb, hml, hown, hts⟩ (c6_has l g   ((C.1 0).1 5) x1) (va_cwS 2 hts gX6_walker_X6_has rfl rfl rfl (by decide +kernel) ⟨Nat.le_of_ble_eq_true rfl, Nat.le_of_ble_eq_true rfl⟩) (z_rpre z_nil hK) rfl rfl hl.1 rfl (lv_room (Nat.le_of_ble_eq_true rfl)) dX6_walker_124 ⟨Nat.zero_le _, Nat.zero_le _⟩) ?_
                refine z_rgo (va_runS (As := [.int (f6_has ((C.1 0).1 5) x1)]) (rest := []) ⟨hx, hb, hml, hown, hts⟩ (c6_flag l g   (f6_has ((C.1 0).1 5) x1)) (va_cwS 1 hts gX6_walker_X6_flag rfl rfl rfl (by decide +kernel) ⟨Nat.le_of_ble_eq_true rfl, Nat.le_of_ble_eq_true rfl⟩) (z_rpre z_nil hK) rfl rfl hl.1 rfl (lv_room (Nat.le_of_ble_eq_true rfl)) dX6_walker_127 ⟨Nat.zero_le _, Nat.zero_le _⟩) ?_
                have e9a := zin hF
                exact z_ri hx hb hr hlk (congrArg (fun z => some (Value.int z)) e9a) dX6_walker_130
              · have hF := zif c7 hF
                by_cases c8 : x2 = 6
                · have hF := zit c8 hF
                  refine z_tin (k := 6) (tgt := 131) hx hb dX6_walker_11 c8 ⟨by decide, by decide, rfl, by decide⟩ ?_
                  refine lv_aload_n hx hb dX6_walker_131 rfl (lv_at hl 0 rfl) ?_
                  refine z_get (ci := 6) (v := .ref (q 23)) (C := RX6) (T := TX6) (N := 13) hx hb hts inX6 hown hK hP 0 (cwp_0 g q C) rfl 4 (by decide) (List.mem_of_getElem? (i := 1) rfl) rfl rfl dX6_walker_132 ?_
                  refine lv_iload_n hx hb dX6_walker_135 rfl (lv_at hl 1 rfl) ?_
                  refine lv_aload_n hx hb dX6_walker_136 rfl (lv_at hl 0 rfl) ?_
                  refine z_get (ci := 6) (v := .ref (q (13 + 2))) (C := RX6) (T := TX6) (N := 13) hx hb hts inX6 hown hK hP 0 (cwp_0 g q C) rfl 3 (by decide) (List.mem_of_getElem? (i := 5) rfl) rfl rfl dX6_walker_137 ?_
                  refine lv_aload_n hx hb dX6_walker_140 rfl (lv_at hl 0 rfl) ?_
                  refine z_get (ci := 6) (v := .ref (q (13 + 2))) (C := RX6) (T := TX6) (N := 13) hx hb hts inX6 hown hK hP 0 (cwp_0 g q C) rfl 3 (by decide) (List.mem_of_getElem? (i := 5) rfl) rfl rfl dX6_walker_141 ?_
                  refine lv_aload_n hx hb dX6_walker_144 rfl (lv_at hl 0 rfl) ?_
                  refine z_get (ci := 6) (v := .ref (q 23)) (C := RX6) (T := TX6) (N := 13) hx hb hts inX6 hown hK hP 0 (cwp_0 g q C) rfl 4 (by decide) (List.mem_of_getElem? (i := 1) rfl) rfl rfl dX6_walker_145 ?_
                  refine z_get (ci := 2) (v := .int ((C.1 0).1 8)) (C := RX2) (T := TX2) (N := 9) hx hb hts inX2 hown hK hP 23 (cwp_23 g q C) rfl 8 (by decide) (List.mem_of_getElem? (i := 9) rfl) rfl rfl dX6_walker_148 ?_
                  refine z_rgo (va_runV (As := [.int ((C.1 0).1 8)]) (rest := [.ref (q (13 + 2)), .int x1, .ref (q 23)]) ⟨hx, hb, hml, hown, hts⟩ (c3_tide l g q (13 + 2) ((C.2.2.2.2.2.1).1) ((C.1 0).1 8)) (cwV 1 hts gX6_walker_X3_tide rfl rfl rfl (by decide +kernel) ⟨Nat.le_of_ble_eq_true rfl, Nat.le_of_ble_eq_true rfl⟩) (z_rpreV (ci := 3) (q := (RX3, TX3, 13)) (q0 := 0) (z_Psub hP _ (cwm_15_8_22 g q C)) hK rfl rfl) rfl rfl hl.1 rfl (lv_room (Nat.le_of_ble_eq_true rfl)) dX6_walker_151 ⟨Nat.zero_le _, Nat.zero_le _⟩) ?_
                  obtain ⟨v9, hv9, hF⟩ := zob hF
                  refine z_rgo (va_runV (As := [.int x1, .ref (q (13 + 2)), .int (f3_tide ((C.2.2.2.2.2.1).1) ((C.1 0).1 8))]) (rest := []) ⟨hx, hb, hml, hown, hts⟩ (c2_nextOf l g q 23 q (13 + 2) (C.1 0) ((C.2.2.2.2.2.1).1) x1 (f3_tide ((C.2.2.2.2.2.1).1) ((C.1 0).1 8)) v9 hv9) (cwV 3 hts gX6_walker_X2_nextOf rfl rfl rfl (by decide +kernel) ⟨Nat.le_of_ble_eq_true rfl, Nat.le_of_ble_eq_true rfl⟩) (z_rpreV (ci := 2) (q := (RX2, TX2, 9)) (q0 := 0) (z_Psub hP _ (cwm_23_13_22 g q C)) hK rfl rfl) rfl rfl hl.1 rfl (lv_room (Nat.le_of_ble_eq_true rfl)) dX6_walker_154 ⟨Nat.zero_le _, Nat.zero_le _⟩) ?_
                  have e9a := zin hF
                  exact z_ri hx hb hr hlk (congrArg (fun z => some (Value.int z)) e9a) dX6_walker_157
                · have hF := zif c8 hF
                  by_cases c10 : x2 = 7
                  · have hF := zit c10 hF
                    refine z_tin (k := 7) (tgt := 158) hx hb dX6_walker_11 c10 ⟨by decide, by decide, rfl, by decide⟩ ?_
                    refine lv_aload_n hx hb dX6_walker_158 rfl (lv_at hl 0 rfl) ?_
                    refine z_get (ci := 6) (v := .ref (q (13 + 2))) (C := RX6) (T := TX6) (N := 13) hx hb hts inX6 hown hK hP 0 (cwp_0 g q C) rfl 3 (by decide) (List.mem_of_getElem? (i := 5) rfl) rfl rfl dX6_walker_159 ?_
                    refine z_get (ci := 3) (v := .ref (q ((13 + 2) + 5))) (C := RX3) (T := TX3) (N := 13) hx hb hts inX3 hown hK hP 15 (cwp_15 g q C) rfl 10 (by decide) (List.mem_of_getElem? (i := 10) rfl) rfl rfl dX6_walker_162 ?_
                    refine lv_iload_n hx hb dX6_walker_165 rfl (lv_at hl 1 rfl) ?_
                    refine z_rgo (va_runS (As := [.ref (q ((13 + 2) + 5)), .int x1]) (rest := []) ⟨hx, hb, hml, hown, hts⟩ (c6_cell l g (q ((13 + 2) + 5)) 4 (by decide) (((C.2.2.2.2.2.1).1).2 10) x1) (va_cwS 2 hts gX6_walker_X6_cell rfl rfl rfl (by decide +kernel) ⟨Nat.le_of_ble_eq_true rfl, Nat.le_of_ble_eq_true rfl⟩) (z_rpre (z_Psub hP _ (cwm_20_1_20 g q C)) hK) rfl rfl hl.1 rfl (lv_room (Nat.le_of_ble_eq_true rfl)) dX6_walker_166 ⟨Nat.zero_le _, Nat.zero_le _⟩) ?_
                    have e9a := zin hF
                    exact z_ri hx hb hr hlk (congrArg (fun z => some (Value.int z)) e9a) dX6_walker_169
                  · have hF := zif c10 hF
                    refine z_tout hx hb dX6_walker_11 [0, 1, 2, 3, 4, 5, 6, 7] (fun k hk => ?_) rfl (tgt := 170) (by decide) ?_
                    · simp only [List.mem_cons, List.not_mem_nil, or_false] at hk
                      rcases hk with rfl | rfl | rfl | rfl | rfl | rfl | rfl | rfl <;> assumption
                    · refine lv_bipush (v := (-2)) hx hb dX6_walker_170 (by decide) ?_
                      have e9a := zin hF
                      exact z_ri hx hb hr hlk (congrArg (fun z => some (Value.int z)) e9a) dX6_walker_172
  · have hF := zif c1 hF
    refine lv_iconst (v := (-1)) hx hb dX6_walker_8 (by decide) ?_
    have e9a := zin hF
    exact z_ri hx hb hr hlk (congrArg (fun z => some (Value.int z)) e9a) dX6_walker_9
def f6_watch_l17 : Nat → Int32 → Int32 → Cs → Option (Int32 × Cs)
  | 0, _, _, _ => none
  | n17 + 1, y3, y4, C5 => if y4 < 0 then some (y3, C5) else if (f6_bitCount_0f7a4 y3) < (f6_bitCount_0f7a4 y4) then f6_watch_l17 n17 y3 (y4 + (-1)) C5 else (f6_meetsAll C5 y4).bind fun v8 => if v8 = 0 then f6_watch_l17 n17 y3 (y4 + (-1)) C5 else f6_watch_l17 n17 y4 (y4 + (-1)) C5
def f6_watch (C : Cs) : Option (Int32 × Cs) := (f6_findPassed C).bind fun C1 => bd (α := Int32) (f6_all (((C1.2.2.2.2.2.1).1).1 2)) (fun (v2 : Int32) => f6_watch_l17 FU v2 v2 C1)
abbrev rmX6_watch : Room := { frames := 6, cells := 0, slots := 0, locals := 140 }
set_option maxHeartbeats 4000000 in
set_option maxRecDepth 100000 in
theorem c6_watch (l : Launch) (g : zG) (q : Nat → Nat) (C : Cs) (ro : Int32) (C_o : Cs) (hF : f6_watch C = some (ro, C_o)) : zRW l g yX6_watch wsX6_watch rmX6_watch [.ref (q 0)] (CW g q C) (some (.int ro)) (CW g q C_o) := by
  refine zRW_of (cc := cX6_watch) (maxL := 3) (ret := (some .int)) (by decide) rfl (Nat.le_of_ble_eq_true rfl) ?_
  intro p e s m args below meth c A H locs ls hx hb hr hml hts hown hlk hK hA hP hD hS hl
  have hown : s.vm.findClass RX6 = some m.cls := hown
  have hl : lv_has ls 3 [(0, .ref (q 0))] := hl
  have inX3 : ∀ w ∈ wsX30, w ∈ wsX6_watch := fun _ h => List.mem_cons_of_mem _ (List.mem_append_left _ (List.mem_append_right _ h))
  have inX6 : ∀ w ∈ wsX60, w ∈ wsX6_watch := fun _ h => List.mem_cons_of_mem _ (List.mem_append_left _ (List.mem_append_left _ (List.mem_append_right _ h)))
  unfold f6_watch at hF
  refine lv_aload_n hx hb dX6_watch_0 rfl (lv_at hl 0 rfl) ?_
  obtain ⟨C1, hC1, hF⟩ := zob hF
  refine z_wgoW (va_runV (As := []) (rest := []) ⟨hx, hb, hml, hown, hts⟩ ((c6_findPassed l g q C   C1 hC1) H.size) (cwV 0 hts gX6_watch_X6_findPassed rfl rfl rfl (by decide +kernel) ⟨Nat.le_of_ble_eq_true rfl, Nat.le_of_ble_eq_true rfl⟩) (z_wpreV (ci := 6) (q := (RX6, TX6, 13)) (q0 := 0) hP hK (z_any hD) rfl rfl) rfl rfl hl.1 rfl (lv_room (Nat.le_of_ble_eq_true rfl)) dX6_watch_1 ⟨Nat.zero_le _, Nat.zero_le _⟩) hP hD hS hA (fun H locs hP hD hS => ?_)
  show W p l e (headSpec wsX6_watch rmX6_watch).room s m args below meth c H locs 0 0 (MQ below (zWQ g A (CW g q C_o) (some (.int ro))) args s 0 0 A) (F0 m 4 ls [])
  refine lv_aload_n hx hb dX6_watch_4 rfl (lv_at hl 0 rfl) ?_
  refine z_get (ci := 6) (v := .ref (q (13 + 2))) (C := RX6) (T := TX6) (N := 13) hx hb hts inX6 hown hK hP 0 (cwp_0 g q C1) rfl 3 (by decide) (List.mem_of_getElem? (i := 1) rfl) rfl rfl dX6_watch_5 ?_
  refine z_get (ci := 3) (v := .int (((C1.2.2.2.2.2.1).1).1 2)) (C := RX3) (T := TX3) (N := 13) hx hb hts inX3 hown hK hP 15 (cwp_15 g q C1) rfl 2 (by decide) (List.mem_of_getElem? (i := 2) rfl) rfl rfl dX6_watch_8 ?_
  refine z_rgo (va_runS (As := [.int (((C1.2.2.2.2.2.1).1).1 2)]) (rest := []) ⟨hx, hb, hml, hown, hts⟩ (c6_all l g   (((C1.2.2.2.2.2.1).1).1 2)) (va_cwS 1 hts gX6_watch_X6_all rfl rfl rfl (by decide +kernel) ⟨Nat.le_of_ble_eq_true rfl, Nat.le_of_ble_eq_true rfl⟩) (z_rpre z_nil hK) rfl rfl hl.1 rfl (lv_room (Nat.le_of_ble_eq_true rfl)) dX6_watch_11 ⟨Nat.zero_le _, Nat.zero_le _⟩) ?_
  refine lv_topi (fun v2 ev2 => ?_)
  have hF := bd_eq ev2 hF
  refine lv_istore_n (lv' := [(1, .int v2), (0, .ref (q 0))]) hx hb dX6_watch_14 rfl hl (by decide) rfl (fun ls hl => ?_)
  refine lv_iload_n hx hb dX6_watch_15 rfl (lv_at hl 0 rfl) ?_
  refine lv_istore_n (lv' := [(2, .int v2), (1, .int v2), (0, .ref (q 0))]) hx hb dX6_watch_16 rfl hl (by decide) rfl (fun ls hl => ?_)
  have L17 : ∀ (n17 : Nat) (y3 : Int32) (y4 : Int32) (C5 : Cs) (H : Heap) (locs : List Loc) (ls : Array Slot), f6_watch_l17 n17 y3 y4 C5 = some (ro, C_o) → va_P (zD g) vwCl (CW g q C5) H → va_D A (CW g q C5) → va_S A s.heap H locs → lv_has ls 3 [(0, .ref (q 0)), (1, .int y3), (2, .int y4)] → W p l e (headSpec wsX6_watch rmX6_watch).room s m args below meth c H locs 0 0 (MQ below (zWQ g A (CW g q C_o) (some (.int ro))) args s 0 0 A) (F0 m 17 ls []) := by
    intro n17
    induction n17 with
    | zero =>
      intro y3 y4 C5 H locs ls hF hP hD hS hl
      exact absurd (show (none : Option (Int32 × Cs)) = some _ from hF) (fun h9 => by cases h9)
    | succ n17 ih17 =>
      intro y3 y4 C5 H locs ls hF hP hD hS hl
      rw [f6_watch_l17] at hF
      refine lv_iload_n hx hb dX6_watch_17 rfl (lv_at hl 2 rfl) ?_
      refine lv_if_lt (tgt := 48) hx hb dX6_watch_18 (by decide) (fun c6 => ?_) (fun c6 => ?_)
      · have hF := zit c6 hF
        refine lv_iload_n hx hb dX6_watch_48 rfl (lv_at hl 1 rfl) ?_
        obtain ⟨e9a, e9b⟩ := Prod.mk.inj (zin hF)
        exact z_wi hx hb hr hlk hP hD hS (congrArg (fun z => some (Value.int z)) e9a) (by rw [e9b]) dX6_watch_49
      · have hF := zif c6 hF
        refine lv_iload_n hx hb dX6_watch_21 rfl (lv_at hl 2 rfl) ?_
        refine z_rgo (va_runS (As := [.int y4]) (rest := []) ⟨hx, hb, hml, hown, hts⟩ (c6_bitCount_0f7a4 l g   y4) (va_cwS 1 hts gX6_watch_J6_bitCount_0f7a4 rfl rfl rfl (by decide +kernel) ⟨Nat.le_of_ble_eq_true rfl, Nat.le_of_ble_eq_true rfl⟩) (z_rpre z_nil hK) rfl rfl hl.1 rfl (lv_room (Nat.le_of_ble_eq_true rfl)) dX6_watch_22 ⟨Nat.zero_le _, Nat.zero_le _⟩) ?_
        refine lv_iload_n hx hb dX6_watch_25 rfl (lv_at hl 1 rfl) ?_
        refine z_rgo (va_runS (As := [.int y3]) (rest := [.int (f6_bitCount_0f7a4 y4)]) ⟨hx, hb, hml, hown, hts⟩ (c6_bitCount_0f7a4 l g   y3) (va_cwS 1 hts gX6_watch_J6_bitCount_0f7a4 rfl rfl rfl (by decide +kernel) ⟨Nat.le_of_ble_eq_true rfl, Nat.le_of_ble_eq_true rfl⟩) (z_rpre z_nil hK) rfl rfl hl.1 rfl (lv_room (Nat.le_of_ble_eq_true rfl)) dX6_watch_26 ⟨Nat.zero_le _, Nat.zero_le _⟩) ?_
        refine lv_icmp_gt (tgt := 42) hx hb dX6_watch_29 (by decide) (fun c7 => ?_) (fun c7 => ?_)
        · have hF := zit c7 hF
          refine lv_iinc (v := (y4 + (-1))) (lv' := [(2, .int (y4 + (-1))), (0, .ref (q 0)), (1, .int y3)]) hx hb dX6_watch_42 hl (k := 2) rfl rfl (by decide) rfl (fun ls hl => ?_)
          refine lv_goto (tgt := 17) hx hb dX6_watch_45 (by decide) ?_
          exact ih17 y3 (y4 + (-1)) C5 H locs ls hF hP hD hS (lv_sub hl [1, 2, 0] rfl)
        · have hF := zif c7 hF
          refine lv_aload_n hx hb dX6_watch_32 rfl (lv_at hl 0 rfl) ?_
          refine lv_iload_n hx hb dX6_watch_33 rfl (lv_at hl 2 rfl) ?_
          obtain ⟨v8, hv8, hF⟩ := zob hF
          refine z_rgo (va_runV (As := [.int y4]) (rest := []) ⟨hx, hb, hml, hown, hts⟩ (c6_meetsAll l g q C5 y4 v8 hv8) (cwV 1 hts gX6_watch_X6_meetsAll rfl rfl rfl (by decide +kernel) ⟨Nat.le_of_ble_eq_true rfl, Nat.le_of_ble_eq_true rfl⟩) (z_rpreV (ci := 6) (q := (RX6, TX6, 13)) (q0 := 0) hP hK rfl rfl) rfl rfl hl.1 rfl (lv_room (Nat.le_of_ble_eq_true rfl)) dX6_watch_34 ⟨Nat.zero_le _, Nat.zero_le _⟩) ?_
          refine lv_if_eq (tgt := 42) hx hb dX6_watch_37 (by decide) (fun c9 => ?_) (fun c9 => ?_)
          · have hF := zit c9 hF
            refine lv_iinc (v := (y4 + (-1))) (lv' := [(2, .int (y4 + (-1))), (0, .ref (q 0)), (1, .int y3)]) hx hb dX6_watch_42 hl (k := 2) rfl rfl (by decide) rfl (fun ls hl => ?_)
            refine lv_goto (tgt := 17) hx hb dX6_watch_45 (by decide) ?_
            exact ih17 y3 (y4 + (-1)) C5 H locs ls hF hP hD hS (lv_sub hl [1, 2, 0] rfl)
          · have hF := zif c9 hF
            refine lv_iload_n hx hb dX6_watch_40 rfl (lv_at hl 2 rfl) ?_
            refine lv_istore_n (lv' := [(1, .int y4), (0, .ref (q 0)), (2, .int y4)]) hx hb dX6_watch_41 rfl hl (by decide) rfl (fun ls hl => ?_)
            refine lv_iinc (v := (y4 + (-1))) (lv' := [(2, .int (y4 + (-1))), (1, .int y4), (0, .ref (q 0))]) hx hb dX6_watch_42 hl (k := 2) rfl rfl (by decide) rfl (fun ls hl => ?_)
            refine lv_goto (tgt := 17) hx hb dX6_watch_45 (by decide) ?_
            exact ih17 y4 (y4 + (-1)) C5 H locs ls hF hP hD hS (lv_sub hl [2, 1, 0] rfl)
  exact L17 FU v2 v2 C1 H locs ls hF hP hD hS (lv_sub hl [2, 1, 0] rfl)
def f6_way (C : Cs) (x1 : Int32) (x2 : Int32) : Option (Int32) := if (f6_isNoJoint C x1) = 0 then if (f6_isNoJoint C x2) = 0 then (f3_stepsBetween ((C.2.2.2.2.2.1).1) x1 x2 ((C.1 0).1 6)).bind fun v3 => some v3 else some (-1) else some (-1)
abbrev rmX6_way : Room := { frames := 4, cells := 0, slots := 0, locals := 96 }
set_option maxHeartbeats 4000000 in
set_option maxRecDepth 100000 in
theorem c6_way (l : Launch) (g : zG) (q : Nat → Nat) (C : Cs) (x1 : Int32) (x2 : Int32) (ro : Int32) (hF : f6_way C x1 x2 = some ro) : zRO l g yX6_way wsX6_way rmX6_way [.ref (q 0), .int x1, .int x2] (CW g q C) (some (.int ro)) := by
  refine zRO_of (cc := cX6_way) (maxL := 3) (ret := (some .int)) (by decide) rfl (Nat.le_of_ble_eq_true rfl) ?_
  intro p e s m args below meth c ls hx hb hr hml hts hown hlk hK hP hl
  have hown : s.vm.findClass RX6 = some m.cls := hown
  have hl : lv_has ls 3 [(0, .ref (q 0)), (1, .int x1), (2, .int x2)] := hl
  have inX2 : ∀ w ∈ wsX20, w ∈ wsX6_way := fun _ h => List.mem_cons_of_mem _ (List.mem_append_left _ (List.mem_append_right _ h))
  have inX6 : ∀ w ∈ wsX60, w ∈ wsX6_way := fun _ h => List.mem_cons_of_mem _ (List.mem_append_left _ (List.mem_append_left _ (List.mem_append_right _ h)))
  unfold f6_way at hF
  refine lv_aload_n hx hb dX6_way_0 rfl (lv_at hl 0 rfl) ?_
  refine lv_iload_n hx hb dX6_way_1 rfl (lv_at hl 1 rfl) ?_
  refine z_rgo (va_runV (As := [.int x1]) (rest := []) ⟨hx, hb, hml, hown, hts⟩ (c6_isNoJoint l g q C x1) (cwV 1 hts gX6_way_X6_isNoJoint rfl rfl rfl (by decide +kernel) ⟨Nat.le_of_ble_eq_true rfl, Nat.le_of_ble_eq_true rfl⟩) (z_rpreV (ci := 6) (q := (RX6, TX6, 13)) (q0 := 0) hP hK rfl rfl) rfl rfl hl.1 rfl (lv_room (Nat.le_of_ble_eq_true rfl)) dX6_way_2 ⟨Nat.zero_le _, Nat.zero_le _⟩) ?_
  refine lv_if_ne (tgt := 16) hx hb dX6_way_5 (by decide) (fun c1 => ?_) (fun c1 => ?_)
  · have hF := zif c1 hF
    refine lv_iconst (v := (-1)) hx hb dX6_way_16 (by decide) ?_
    have e9a := zin hF
    exact z_ri hx hb hr hlk (congrArg (fun z => some (Value.int z)) e9a) dX6_way_17
  · have hF := zit c1 hF
    refine lv_aload_n hx hb dX6_way_8 rfl (lv_at hl 0 rfl) ?_
    refine lv_iload_n hx hb dX6_way_9 rfl (lv_at hl 2 rfl) ?_
    refine z_rgo (va_runV (As := [.int x2]) (rest := []) ⟨hx, hb, hml, hown, hts⟩ (c6_isNoJoint l g q C x2) (cwV 1 hts gX6_way_X6_isNoJoint rfl rfl rfl (by decide +kernel) ⟨Nat.le_of_ble_eq_true rfl, Nat.le_of_ble_eq_true rfl⟩) (z_rpreV (ci := 6) (q := (RX6, TX6, 13)) (q0 := 0) hP hK rfl rfl) rfl rfl hl.1 rfl (lv_room (Nat.le_of_ble_eq_true rfl)) dX6_way_10 ⟨Nat.zero_le _, Nat.zero_le _⟩) ?_
    refine lv_if_eq (tgt := 18) hx hb dX6_way_13 (by decide) (fun c2 => ?_) (fun c2 => ?_)
    · have hF := zit c2 hF
      refine lv_aload_n hx hb dX6_way_18 rfl (lv_at hl 0 rfl) ?_
      refine z_get (ci := 6) (v := .ref (q (13 + 2))) (C := RX6) (T := TX6) (N := 13) hx hb hts inX6 hown hK hP 0 (cwp_0 g q C) rfl 3 (by decide) (List.mem_of_getElem? (i := 1) rfl) rfl rfl dX6_way_19 ?_
      refine lv_iload_n hx hb dX6_way_22 rfl (lv_at hl 1 rfl) ?_
      refine lv_iload_n hx hb dX6_way_23 rfl (lv_at hl 2 rfl) ?_
      refine lv_aload_n hx hb dX6_way_24 rfl (lv_at hl 0 rfl) ?_
      refine z_get (ci := 6) (v := .ref (q 23)) (C := RX6) (T := TX6) (N := 13) hx hb hts inX6 hown hK hP 0 (cwp_0 g q C) rfl 4 (by decide) (List.mem_of_getElem? (i := 2) rfl) rfl rfl dX6_way_25 ?_
      refine z_get (ci := 2) (v := .int ((C.1 0).1 6)) (C := RX2) (T := TX2) (N := 9) hx hb hts inX2 hown hK hP 23 (cwp_23 g q C) rfl 6 (by decide) (List.mem_of_getElem? (i := 3) rfl) rfl rfl dX6_way_28 ?_
      obtain ⟨v3, hv3, hF⟩ := zob hF
      refine z_rgo (va_runV (As := [.int x1, .int x2, .int ((C.1 0).1 6)]) (rest := []) ⟨hx, hb, hml, hown, hts⟩ (c3_stepsBetween l g q (13 + 2) ((C.2.2.2.2.2.1).1) x1 x2 ((C.1 0).1 6) v3 hv3) (cwV 3 hts gX6_way_X3_stepsBetween rfl rfl rfl (by decide +kernel) ⟨Nat.le_of_ble_eq_true rfl, Nat.le_of_ble_eq_true rfl⟩) (z_rpreV (ci := 3) (q := (RX3, TX3, 13)) (q0 := 0) (z_Psub hP _ (cwm_15_8_22 g q C)) hK rfl rfl) rfl rfl hl.1 rfl (lv_room (Nat.le_of_ble_eq_true rfl)) dX6_way_31 ⟨Nat.zero_le _, Nat.zero_le _⟩) ?_
      have e9a := zin hF
      exact z_ri hx hb hr hlk (congrArg (fun z => some (Value.int z)) e9a) dX6_way_34
    · have hF := zif c2 hF
      refine lv_iconst (v := (-1)) hx hb dX6_way_16 (by decide) ?_
      have e9a := zin hF
      exact z_ri hx hb hr hlk (congrArg (fun z => some (Value.int z)) e9a) dX6_way_17
def f6_wipe (C : Cs) : Option (Int32 × Cs) := bd (α := Int32) ((C.2.2.2.1).2) (fun (v1 : Int32) => bd (cT C (lL (C.2.2.2.1) 0)) (fun (C2 : Cs) => some (v1, C2)))
abbrev rmX6_wipe : Room := { frames := 0, cells := 0, slots := 0, locals := 0 }
set_option maxHeartbeats 4000000 in
set_option maxRecDepth 100000 in
theorem c6_wipe (l : Launch) (g : zG) (q : Nat → Nat) (C : Cs) (ro : Int32) (C_o : Cs) (hF : f6_wipe C = some (ro, C_o)) : zRW l g yX6_wipe wsX6_wipe rmX6_wipe [.ref (q 0)] (CW g q C) (some (.int ro)) (CW g q C_o) := by
  refine zRW_of (cc := cX6_wipe) (maxL := 2) (ret := (some .int)) (by decide) rfl (Nat.le_of_ble_eq_true rfl) ?_
  intro p e s m args below meth c A H locs ls hx hb hr hml hts hown hlk hK hA hP hD hS hl
  have hown : s.vm.findClass RX6 = some m.cls := hown
  have hl : lv_has ls 2 [(0, .ref (q 0))] := hl
  have inX1 : ∀ w ∈ wsX10, w ∈ wsX6_wipe := fun _ h => List.mem_cons_of_mem _ (List.mem_append_right _ h)
  have inX6 : ∀ w ∈ wsX60, w ∈ wsX6_wipe := fun _ h => List.mem_cons_of_mem _ (List.mem_append_left _ (List.mem_append_right _ h))
  unfold f6_wipe at hF
  refine lv_aload_n hx hb dX6_wipe_0 rfl (lv_at hl 0 rfl) ?_
  refine z_get (ci := 6) (v := .ref (q 1)) (C := RX6) (T := TX6) (N := 13) hx hb hts inX6 hown hK hP 0 (cwp_0 g q C) rfl 0 (by decide) (List.mem_of_getElem? (i := 1) rfl) rfl rfl dX6_wipe_1 ?_
  refine z_get (ci := 1) (v := .int ((C.2.2.2.1).2)) (C := RX1) (T := TX1) (N := 2) hx hb hts inX1 hown hK hP 1 (cwp_1 g q C) rfl 1 (by decide) (List.mem_of_getElem? (i := 2) rfl) rfl rfl dX6_wipe_4 ?_
  refine lv_topi (fun v1 ev1 => ?_)
  have hF := bd_eq ev1 hF
  refine lv_istore_n (lv' := [(1, .int v1), (0, .ref (q 0))]) hx hb dX6_wipe_7 rfl hl (by decide) rfl (fun ls hl => ?_)
  refine lv_aload_n hx hb dX6_wipe_8 rfl (lv_at hl 1 rfl) ?_
  refine z_get (ci := 6) (v := .ref (q 1)) (C := RX6) (T := TX6) (N := 13) hx hb hts inX6 hown hK hP 0 (cwp_0 g q C) rfl 0 (by decide) (List.mem_of_getElem? (i := 1) rfl) rfl rfl dX6_wipe_9 ?_
  refine lv_iconst (v := 0) hx hb dX6_wipe_12 (by decide) ?_
  refine z_put (ci := 1) (v := .int 0) (C := RX1) (T := TX1) (N := 2) (ws' := CW g q (cT C (lL (C.2.2.2.1) 0))) hx hb hts inX1 tyX1 tyX1_ok nmX1 hown hK hP hD hS 1 (cwp_1 g q C) rfl 1 (by decide) (List.mem_of_getElem? (i := 2) rfl) rfl rfl rfl rfl (Nat.le_of_ble_eq_true rfl) (cwst_1_1 g q C 0) dX6_wipe_13 (fun H locs hP hD hS => ?_)
  obtain ⟨C2, eC2⟩ : ∃ y : Cs, y = (cT C (lL (C.2.2.2.1) 0)) := ⟨_, rfl⟩
  rw [← eC2] at hP hD
  have hF := bd_eq eC2 hF
  refine lv_iload_n hx hb dX6_wipe_16 rfl (lv_at hl 0 rfl) ?_
  obtain ⟨e9a, e9b⟩ := Prod.mk.inj (zin hF)
  exact z_wi hx hb hr hlk hP hD hS (congrArg (fun z => some (Value.int z)) e9a) (by rw [e9b]) dX6_wipe_17
def f6_write (C : Cs) (x1 : Int32) : Option (Int32 × Cs) := if x1 < 0 then some ((-2), C) else if x1 ≤ 255 then if ((C.2.2.2.1).2) < 60 then (f1_add (C.2.2.2.1) x1).bind fun T4 => bd (cT C T4) (fun (C5 : Cs) => some (((C5.2.2.2.1).2), C5)) else some ((-4), C) else some ((-2), C)
abbrev rmX6_write : Room := { frames := 2, cells := 0, slots := 0, locals := 43 }
set_option maxHeartbeats 4000000 in
set_option maxRecDepth 100000 in
theorem c6_write (l : Launch) (g : zG) (q : Nat → Nat) (C : Cs) (x1 : Int32) (ro : Int32) (C_o : Cs) (hF : f6_write C x1 = some (ro, C_o)) : zRW l g yX6_write wsX6_write rmX6_write [.ref (q 0), .int x1] (CW g q C) (some (.int ro)) (CW g q C_o) := by
  refine zRW_of (cc := cX6_write) (maxL := 2) (ret := (some .int)) (by decide) rfl (Nat.le_of_ble_eq_true rfl) ?_
  intro p e s m args below meth c A H locs ls hx hb hr hml hts hown hlk hK hA hP hD hS hl
  have hown : s.vm.findClass RX6 = some m.cls := hown
  have hl : lv_has ls 2 [(0, .ref (q 0)), (1, .int x1)] := hl
  have inX1 : ∀ w ∈ wsX10, w ∈ wsX6_write := fun _ h => List.mem_cons_of_mem _ (List.mem_append_right _ h)
  have inX6 : ∀ w ∈ wsX60, w ∈ wsX6_write := fun _ h => List.mem_cons_of_mem _ (List.mem_append_left _ (List.mem_append_right _ h))
  unfold f6_write at hF
  refine lv_iload_n hx hb dX6_write_0 rfl (lv_at hl 1 rfl) ?_
  refine lv_if_lt (tgt := 11) hx hb dX6_write_1 (by decide) (fun c1 => ?_) (fun c1 => ?_)
  · have hF := zit c1 hF
    refine lv_bipush (v := (-2)) hx hb dX6_write_11 (by decide) ?_
    obtain ⟨e9a, e9b⟩ := Prod.mk.inj (zin hF)
    exact z_wi hx hb hr hlk hP hD hS (congrArg (fun z => some (Value.int z)) e9a) (by rw [e9b]) dX6_write_13
  · have hF := zif c1 hF
    refine lv_iload_n hx hb dX6_write_4 rfl (lv_at hl 1 rfl) ?_
    refine lv_sipush (v := 255) hx hb dX6_write_5 (by decide) ?_
    refine lv_icmp_le (tgt := 14) hx hb dX6_write_8 (by decide) (fun c2 => ?_) (fun c2 => ?_)
    · have hF := zit c2 hF
      refine lv_aload_n hx hb dX6_write_14 rfl (lv_at hl 0 rfl) ?_
      refine z_get (ci := 6) (v := .ref (q 1)) (C := RX6) (T := TX6) (N := 13) hx hb hts inX6 hown hK hP 0 (cwp_0 g q C) rfl 0 (by decide) (List.mem_of_getElem? (i := 1) rfl) rfl rfl dX6_write_15 ?_
      refine z_get (ci := 1) (v := .int ((C.2.2.2.1).2)) (C := RX1) (T := TX1) (N := 2) hx hb hts inX1 hown hK hP 1 (cwp_1 g q C) rfl 1 (by decide) (List.mem_of_getElem? (i := 2) rfl) rfl rfl dX6_write_18 ?_
      refine lv_bipush (v := 60) hx hb dX6_write_21 (by decide) ?_
      refine lv_icmp_lt (tgt := 29) hx hb dX6_write_23 (by decide) (fun c3 => ?_) (fun c3 => ?_)
      · have hF := zit c3 hF
        refine lv_aload_n hx hb dX6_write_29 rfl (lv_at hl 0 rfl) ?_
        refine z_get (ci := 6) (v := .ref (q 1)) (C := RX6) (T := TX6) (N := 13) hx hb hts inX6 hown hK hP 0 (cwp_0 g q C) rfl 0 (by decide) (List.mem_of_getElem? (i := 1) rfl) rfl rfl dX6_write_30 ?_
        refine lv_iload_n hx hb dX6_write_33 rfl (lv_at hl 1 rfl) ?_
        obtain ⟨T4, hT4, hF⟩ := zob hF
        refine z_wgo (wn := CW g q (cT C T4)) (va_runV (As := [.int x1]) (rest := []) ⟨hx, hb, hml, hown, hts⟩ ((c1_add l g q 1 (C.2.2.2.1) x1  T4 hT4) H.size) (cwV 1 hts gX6_write_X1_add rfl rfl rfl (by decide +kernel) ⟨Nat.le_of_ble_eq_true rfl, Nat.le_of_ble_eq_true rfl⟩) (z_wpreV (ci := 1) (q := (RX1, TX1, 2)) (q0 := 0) (z_Psub hP _ (cwm_1_2_2 g q C)) hK (z_any (hD.sub _ (by decide) (cwm_1_2_2 g q C))) rfl rfl) rfl rfl hl.1 rfl (lv_room (Nat.le_of_ble_eq_true rfl)) dX6_write_34 ⟨Nat.zero_le _, Nat.zero_le _⟩) hP hD hS hA _ (cwm_1_2_2 g q C) (by decide) rfl (cww_1_2_2 g q C T4) (fun H locs hP hD hS => ?_)
        show W p l e (headSpec wsX6_write rmX6_write).room s m args below meth c H locs 0 0 (MQ below (zWQ g A (CW g q C_o) (some (.int ro))) args s 0 0 A) (F0 m 37 ls [])
        obtain ⟨C5, eC5⟩ : ∃ y : Cs, y = (cT C T4) := ⟨_, rfl⟩
        rw [← eC5] at hP hD
        have hF := bd_eq eC5 hF
        refine lv_aload_n hx hb dX6_write_37 rfl (lv_at hl 0 rfl) ?_
        refine z_get (ci := 6) (v := .ref (q 1)) (C := RX6) (T := TX6) (N := 13) hx hb hts inX6 hown hK hP 0 (cwp_0 g q C5) rfl 0 (by decide) (List.mem_of_getElem? (i := 1) rfl) rfl rfl dX6_write_38 ?_
        refine z_get (ci := 1) (v := .int ((C5.2.2.2.1).2)) (C := RX1) (T := TX1) (N := 2) hx hb hts inX1 hown hK hP 1 (cwp_1 g q C5) rfl 1 (by decide) (List.mem_of_getElem? (i := 2) rfl) rfl rfl dX6_write_41 ?_
        obtain ⟨e9a, e9b⟩ := Prod.mk.inj (zin hF)
        exact z_wi hx hb hr hlk hP hD hS (congrArg (fun z => some (Value.int z)) e9a) (by rw [e9b]) dX6_write_44
      · have hF := zif c3 hF
        refine lv_bipush (v := (-4)) hx hb dX6_write_26 (by decide) ?_
        obtain ⟨e9a, e9b⟩ := Prod.mk.inj (zin hF)
        exact z_wi hx hb hr hlk hP hD hS (congrArg (fun z => some (Value.int z)) e9a) (by rw [e9b]) dX6_write_28
    · have hF := zif c2 hF
      refine lv_bipush (v := (-2)) hx hb dX6_write_11 (by decide) ?_
      obtain ⟨e9a, e9b⟩ := Prod.mk.inj (zin hF)
      exact z_wi hx hb hr hlk hP hD hS (congrArg (fun z => some (Value.int z)) e9a) (by rw [e9b]) dX6_write_13
def f6_years_l27 (x1 : Int32) : Nat → Int32 → Cs → Option (Int32 × Cs)
  | 0, _, _ => none
  | n27 + 1, y5, C6 => if x1 ≤ y5 then (f2_right (C6.1 1) ((C6.2.2.2.2.2.1).1)).bind fun v8 => some ((f6_bitCount_0f7a4 v8), C6) else bd (cCh C6 (((C6.2.2.2.2.2.2.2.2.2) * 6364136223846793005) + 1442695040888963407)) (fun (C9 : Cs) => bd (α := Int32) (((((((C9.2.2.2.2.2.2.2.2.2)).toUInt64 >>> ((33 : Int32).toInt64.toUInt64 &&& Int64.toUInt64 63)).toInt64) - ((((C9.2.2.2.2.2.2.2.2.2)).toUInt64 >>> ((33 : Int32).toInt64.toUInt64 &&& Int64.toUInt64 63)).toInt64) / 14 * 14)).toInt32) (fun (v10 : Int32) => if v10 < 8 then if (((C9.2.2.2.2.2.1).1).1 3) ≤ v10 then f6_years_l27 x1 n27 (y5 + 1) C9 else (f2_turnPipe (C9.1 1) v10).bind fun M13 => bd (cM C9 1 M13) (fun (C14 : Cs) => f6_years_l27 x1 n27 (y5 + 1) C14) else (f2_advance (C9.1 1) ((C9.2.2.2.2.2.1).1)).bind fun M15 => bd (cM C9 1 M15) (fun (C16 : Cs) => f6_years_l27 x1 n27 (y5 + 1) C16)))
def f6_years (C : Cs) (x1 : Int32) : Option (Int32 × Cs) := if x1 < 1 then some ((-2), C) else if x1 ≤ 30 then (f2_copy (C.1 1) (C.1 0)).bind fun M3 => bd (cM C 1 M3) (fun (C4 : Cs) => f6_years_l27 x1 FU 0 C4) else some ((-2), C)
abbrev rmX6_years : Room := { frames := 5, cells := 0, slots := 0, locals := 118 }
set_option maxHeartbeats 4000000 in
set_option maxRecDepth 100000 in
theorem c6_years (l : Launch) (g : zG) (q : Nat → Nat) (C : Cs) (x1 : Int32) (ro : Int32) (C_o : Cs) (hF : f6_years C x1 = some (ro, C_o)) : zRW l g yX6_years wsX6_years rmX6_years [.ref (q 0), .int x1] (CW g q C) (some (.int ro)) (CW g q C_o) := by
  refine zRW_of (cc := cX6_years) (maxL := 4) (ret := (some .int)) (by decide) rfl (Nat.le_of_ble_eq_true rfl) ?_
  intro p e s m args below meth c A H locs ls hx hb hr hml hts hown hlk hK hA hP hD hS hl
  have hown : s.vm.findClass RX6 = some m.cls := hown
  have hl : lv_has ls 4 [(0, .ref (q 0)), (1, .int x1)] := hl
  have inX3 : ∀ w ∈ wsX30, w ∈ wsX6_years := fun _ h => List.mem_cons_of_mem _ (List.mem_append_left _ (List.mem_append_right _ h))
  have inX6 : ∀ w ∈ wsX60, w ∈ wsX6_years := fun _ h => List.mem_cons_of_mem _ (List.mem_append_left _ (List.mem_append_left _ (List.mem_append_right _ h)))
  unfold f6_years at hF
  refine lv_iload_n hx hb dX6_years_0 rfl (lv_at hl 1 rfl) ?_
  refine lv_iconst (v := 1) hx hb dX6_years_1 (by decide) ?_
  refine lv_icmp_lt (tgt := 11) hx hb dX6_years_2 (by decide) (fun c1 => ?_) (fun c1 => ?_)
  · have hF := zit c1 hF
    refine lv_bipush (v := (-2)) hx hb dX6_years_11 (by decide) ?_
    obtain ⟨e9a, e9b⟩ := Prod.mk.inj (zin hF)
    exact z_wi hx hb hr hlk hP hD hS (congrArg (fun z => some (Value.int z)) e9a) (by rw [e9b]) dX6_years_13
  · have hF := zif c1 hF
    refine lv_iload_n hx hb dX6_years_5 rfl (lv_at hl 1 rfl) ?_
    refine lv_bipush (v := 30) hx hb dX6_years_6 (by decide) ?_
    refine lv_icmp_le (tgt := 14) hx hb dX6_years_8 (by decide) (fun c2 => ?_) (fun c2 => ?_)
    · have hF := zit c2 hF
      refine lv_aload_n hx hb dX6_years_14 rfl (lv_at hl 0 rfl) ?_
      refine z_get (ci := 6) (v := .ref (q 28)) (C := RX6) (T := TX6) (N := 13) hx hb hts inX6 hown hK hP 0 (cwp_0 g q C) rfl 5 (by decide) (List.mem_of_getElem? (i := 1) rfl) rfl rfl dX6_years_15 ?_
      refine lv_aload_n hx hb dX6_years_18 rfl (lv_at hl 0 rfl) ?_
      refine z_get (ci := 6) (v := .ref (q 23)) (C := RX6) (T := TX6) (N := 13) hx hb hts inX6 hown hK hP 0 (cwp_0 g q C) rfl 4 (by decide) (List.mem_of_getElem? (i := 2) rfl) rfl rfl dX6_years_19 ?_
      obtain ⟨M3, hM3, hF⟩ := zob hF
      refine z_wgo (wn := CW g q (cM C 1 M3)) (va_runV (As := [.ref (q 23)]) (rest := []) ⟨hx, hb, hml, hown, hts⟩ ((c2_copy l g q 28 q 23 (C.1 1) (C.1 0)   M3 hM3) H.size) (cwV 1 hts gX6_years_X2_copy rfl rfl rfl (by decide +kernel) ⟨Nat.le_of_ble_eq_true rfl, Nat.le_of_ble_eq_true rfl⟩) (z_wpreV (ci := 2) (q := (RX2, TX2, 9)) (q0 := 0) (z_Psub hP _ (cwm_28_10_27 g q C)) hK (z_any (hD.sub _ (by decide) (cwm_28_10_27 g q C))) rfl rfl) rfl rfl hl.1 rfl (lv_room (Nat.le_of_ble_eq_true rfl)) dX6_years_22 ⟨Nat.zero_le _, Nat.zero_le _⟩) hP hD hS hA _ (cwm_28_10_27 g q C) (by decide) rfl (cww_28_10_27 g q C M3) (fun H locs hP hD hS => ?_)
      show W p l e (headSpec wsX6_years rmX6_years).room s m args below meth c H locs 0 0 (MQ below (zWQ g A (CW g q C_o) (some (.int ro))) args s 0 0 A) (F0 m 25 ls [])
      obtain ⟨C4, eC4⟩ : ∃ y : Cs, y = (cM C 1 M3) := ⟨_, rfl⟩
      rw [← eC4] at hP hD
      have hF := bd_eq eC4 hF
      refine lv_iconst (v := 0) hx hb dX6_years_25 (by decide) ?_
      refine lv_istore_n (lv' := [(2, .int 0), (0, .ref (q 0)), (1, .int x1)]) hx hb dX6_years_26 rfl hl (by decide) rfl (fun ls hl => ?_)
      have L27 : ∀ (n27 : Nat) (y5 : Int32) (C6 : Cs) (H : Heap) (locs : List Loc) (ls : Array Slot), f6_years_l27 x1 n27 y5 C6 = some (ro, C_o) → va_P (zD g) vwCl (CW g q C6) H → va_D A (CW g q C6) → va_S A s.heap H locs → lv_has ls 4 [(0, .ref (q 0)), (1, .int x1), (2, .int y5)] → W p l e (headSpec wsX6_years rmX6_years).room s m args below meth c H locs 0 0 (MQ below (zWQ g A (CW g q C_o) (some (.int ro))) args s 0 0 A) (F0 m 27 ls []) := by
        intro n27
        induction n27 with
        | zero =>
          intro y5 C6 H locs ls hF hP hD hS hl
          exact absurd (show (none : Option (Int32 × Cs)) = some _ from hF) (fun h9 => by cases h9)
        | succ n27 ih27 =>
          intro y5 C6 H locs ls hF hP hD hS hl
          rw [f6_years_l27] at hF
          refine lv_iload_n hx hb dX6_years_27 rfl (lv_at hl 2 rfl) ?_
          refine lv_iload_n hx hb dX6_years_28 rfl (lv_at hl 1 rfl) ?_
          refine lv_icmp_ge (tgt := 106) hx hb dX6_years_29 (by decide) (fun c7 => ?_) (fun c7 => ?_)
          · have hF := zit c7 hF
            refine lv_aload_n hx hb dX6_years_106 rfl (lv_at hl 0 rfl) ?_
            refine z_get (ci := 6) (v := .ref (q 28)) (C := RX6) (T := TX6) (N := 13) hx hb hts inX6 hown hK hP 0 (cwp_0 g q C6) rfl 5 (by decide) (List.mem_of_getElem? (i := 1) rfl) rfl rfl dX6_years_107 ?_
            refine lv_aload_n hx hb dX6_years_110 rfl (lv_at hl 0 rfl) ?_
            refine z_get (ci := 6) (v := .ref (q (13 + 2))) (C := RX6) (T := TX6) (N := 13) hx hb hts inX6 hown hK hP 0 (cwp_0 g q C6) rfl 3 (by decide) (List.mem_of_getElem? (i := 7) rfl) rfl rfl dX6_years_111 ?_
            obtain ⟨v8, hv8, hF⟩ := zob hF
            refine z_rgo (va_runV (As := [.ref (q (13 + 2))]) (rest := []) ⟨hx, hb, hml, hown, hts⟩ (c2_right l g q 28 q (13 + 2) (C6.1 1) ((C6.2.2.2.2.2.1).1)  v8 hv8) (cwV 1 hts gX6_years_X2_right rfl rfl rfl (by decide +kernel) ⟨Nat.le_of_ble_eq_true rfl, Nat.le_of_ble_eq_true rfl⟩) (z_rpreV (ci := 2) (q := (RX2, TX2, 9)) (q0 := 0) (z_Psub hP _ (cwm_28_13_22 g q C6)) hK rfl rfl) rfl rfl hl.1 rfl (lv_room (Nat.le_of_ble_eq_true rfl)) dX6_years_114 ⟨Nat.zero_le _, Nat.zero_le _⟩) ?_
            refine z_rgo (va_runS (As := [.int v8]) (rest := []) ⟨hx, hb, hml, hown, hts⟩ (c6_bitCount_0f7a4 l g   v8) (va_cwS 1 hts gX6_years_J6_bitCount_0f7a4 rfl rfl rfl (by decide +kernel) ⟨Nat.le_of_ble_eq_true rfl, Nat.le_of_ble_eq_true rfl⟩) (z_rpre z_nil hK) rfl rfl hl.1 rfl (lv_room (Nat.le_of_ble_eq_true rfl)) dX6_years_117 ⟨Nat.zero_le _, Nat.zero_le _⟩) ?_
            obtain ⟨e9a, e9b⟩ := Prod.mk.inj (zin hF)
            exact z_wi hx hb hr hlk hP hD hS (congrArg (fun z => some (Value.int z)) e9a) (by rw [e9b]) dX6_years_120
          · have hF := zif c7 hF
            refine lv_aload_n hx hb dX6_years_32 rfl (lv_at hl 0 rfl) ?_
            refine lv_aload_n hx hb dX6_years_33 rfl (lv_at hl 0 rfl) ?_
            refine z_get (ci := 6) (v := .long (C6.2.2.2.2.2.2.2.2.2)) (C := RX6) (T := TX6) (N := 13) hx hb hts inX6 hown hK hP 0 (cwp_0 g q C6) rfl 12 (by decide) (List.mem_of_getElem? (i := 3) rfl) rfl rfl dX6_years_34 ?_
            refine lv_ldc2 (own := RX6) (v := 6364136223846793005) hx hb hown (hts (.constantLong RX6 319 6364136223846793005) (List.mem_of_getElem? (i := 4) rfl)) dX6_years_37 ?_
            refine lv_lmul hx hb dX6_years_40 ?_
            refine lv_ldc2 (own := RX6) (v := 1442695040888963407) hx hb hown (hts (.constantLong RX6 321 1442695040888963407) (List.mem_of_getElem? (i := 5) rfl)) dX6_years_41 ?_
            refine lv_ladd hx hb dX6_years_44 ?_
            refine z_put (ci := 6) (v := .long (((C6.2.2.2.2.2.2.2.2.2) * 6364136223846793005) + 1442695040888963407)) (C := RX6) (T := TX6) (N := 13) (ws' := CW g q (cCh C6 (((C6.2.2.2.2.2.2.2.2.2) * 6364136223846793005) + 1442695040888963407))) hx hb hts inX6 tyX6 tyX6_ok nmX6 hown hK hP hD hS 0 (cwp_0 g q C6) rfl 12 (by decide) (List.mem_of_getElem? (i := 3) rfl) rfl rfl rfl rfl (Nat.le_of_ble_eq_true rfl) (cwst_0_12 g q C6 (((C6.2.2.2.2.2.2.2.2.2) * 6364136223846793005) + 1442695040888963407)) dX6_years_45 (fun H locs hP hD hS => ?_)
            obtain ⟨C9, eC9⟩ : ∃ y : Cs, y = (cCh C6 (((C6.2.2.2.2.2.2.2.2.2) * 6364136223846793005) + 1442695040888963407)) := ⟨_, rfl⟩
            rw [← eC9] at hP hD
            have hF := bd_eq eC9 hF
            refine lv_aload_n hx hb dX6_years_48 rfl (lv_at hl 0 rfl) ?_
            refine z_get (ci := 6) (v := .long (C9.2.2.2.2.2.2.2.2.2)) (C := RX6) (T := TX6) (N := 13) hx hb hts inX6 hown hK hP 0 (cwp_0 g q C9) rfl 12 (by decide) (List.mem_of_getElem? (i := 3) rfl) rfl rfl dX6_years_49 ?_
            refine lv_bipush (v := 33) hx hb dX6_years_52 (by decide) ?_
            refine lv_lushr (v := (((C9.2.2.2.2.2.2.2.2.2)).toUInt64 >>> ((33 : Int32).toInt64.toUInt64 &&& Int64.toUInt64 63)).toInt64) hx hb dX6_years_54 rfl ?_
            refine lv_ldc2 (own := RX6) (v := 14) hx hb hown (hts (.constantLong RX6 323 14) (List.mem_of_getElem? (i := 6) rfl)) dX6_years_55 ?_
            refine lv_lrem hx hb dX6_years_58 (by decide) ?_
            refine lv_l2i (v := ((((((C9.2.2.2.2.2.2.2.2.2)).toUInt64 >>> ((33 : Int32).toInt64.toUInt64 &&& Int64.toUInt64 63)).toInt64) - ((((C9.2.2.2.2.2.2.2.2.2)).toUInt64 >>> ((33 : Int32).toInt64.toUInt64 &&& Int64.toUInt64 63)).toInt64) / 14 * 14)).toInt32) hx hb dX6_years_59 rfl ?_
            refine lv_topi (fun v10 ev10 => ?_)
            have hF := bd_eq ev10 hF
            refine lv_istore_n (lv' := [(3, .int v10), (0, .ref (q 0)), (1, .int x1), (2, .int y5)]) hx hb dX6_years_60 rfl hl (by decide) rfl (fun ls hl => ?_)
            refine lv_iload_n hx hb dX6_years_61 rfl (lv_at hl 0 rfl) ?_
            refine lv_bipush (v := 8) hx hb dX6_years_62 (by decide) ?_
            refine lv_icmp_lt (tgt := 81) hx hb dX6_years_64 (by decide) (fun c11 => ?_) (fun c11 => ?_)
            · have hF := zit c11 hF
              refine lv_iload_n hx hb dX6_years_81 rfl (lv_at hl 0 rfl) ?_
              refine lv_aload_n hx hb dX6_years_82 rfl (lv_at hl 1 rfl) ?_
              refine z_get (ci := 6) (v := .ref (q (13 + 2))) (C := RX6) (T := TX6) (N := 13) hx hb hts inX6 hown hK hP 0 (cwp_0 g q C9) rfl 3 (by decide) (List.mem_of_getElem? (i := 7) rfl) rfl rfl dX6_years_83 ?_
              refine z_get (ci := 3) (v := .int (((C9.2.2.2.2.2.1).1).1 3)) (C := RX3) (T := TX3) (N := 13) hx hb hts inX3 hown hK hP 15 (cwp_15 g q C9) rfl 3 (by decide) (List.mem_of_getElem? (i := 8) rfl) rfl rfl dX6_years_86 ?_
              refine lv_icmp_ge (tgt := 100) hx hb dX6_years_89 (by decide) (fun c12 => ?_) (fun c12 => ?_)
              · have hF := zit c12 hF
                refine lv_iinc (v := (y5 + 1)) (lv' := [(2, .int (y5 + 1)), (3, .int v10), (0, .ref (q 0)), (1, .int x1)]) hx hb dX6_years_100 hl (k := 3) rfl rfl (by decide) rfl (fun ls hl => ?_)
                refine lv_goto (tgt := 27) hx hb dX6_years_103 (by decide) ?_
                exact ih27 (y5 + 1) C9 H locs ls hF hP hD hS (lv_sub hl [2, 3, 0] rfl)
              · have hF := zif c12 hF
                refine lv_aload_n hx hb dX6_years_92 rfl (lv_at hl 1 rfl) ?_
                refine z_get (ci := 6) (v := .ref (q 28)) (C := RX6) (T := TX6) (N := 13) hx hb hts inX6 hown hK hP 0 (cwp_0 g q C9) rfl 5 (by decide) (List.mem_of_getElem? (i := 1) rfl) rfl rfl dX6_years_93 ?_
                refine lv_iload_n hx hb dX6_years_96 rfl (lv_at hl 0 rfl) ?_
                obtain ⟨M13, hM13, hF⟩ := zob hF
                refine z_wgo (wn := CW g q (cM C9 1 M13)) (va_runV (As := [.int v10]) (rest := []) ⟨hx, hb, hml, hown, hts⟩ ((c2_turnPipe l g q 28 (C9.1 1) v10  M13 hM13) H.size) (cwV 1 hts gX6_years_X2_turnPipe rfl rfl rfl (by decide +kernel) ⟨Nat.le_of_ble_eq_true rfl, Nat.le_of_ble_eq_true rfl⟩) (z_wpreV (ci := 2) (q := (RX2, TX2, 9)) (q0 := 0) (z_Psub hP _ (cwm_28_5_32 g q C9)) hK (z_any (hD.sub _ (by decide) (cwm_28_5_32 g q C9))) rfl rfl) rfl rfl hl.1 rfl (lv_room (Nat.le_of_ble_eq_true rfl)) dX6_years_97 ⟨Nat.zero_le _, Nat.zero_le _⟩) hP hD hS hA _ (cwm_28_5_32 g q C9) (by decide) rfl (cww_28_5_32 g q C9 M13) (fun H locs hP hD hS => ?_)
                show W p l e (headSpec wsX6_years rmX6_years).room s m args below meth c H locs 0 0 (MQ below (zWQ g A (CW g q C_o) (some (.int ro))) args s 0 0 A) (F0 m 100 ls [])
                obtain ⟨C14, eC14⟩ : ∃ y : Cs, y = (cM C9 1 M13) := ⟨_, rfl⟩
                rw [← eC14] at hP hD
                have hF := bd_eq eC14 hF
                refine lv_iinc (v := (y5 + 1)) (lv' := [(2, .int (y5 + 1)), (3, .int v10), (0, .ref (q 0)), (1, .int x1)]) hx hb dX6_years_100 hl (k := 3) rfl rfl (by decide) rfl (fun ls hl => ?_)
                refine lv_goto (tgt := 27) hx hb dX6_years_103 (by decide) ?_
                exact ih27 (y5 + 1) C14 H locs ls hF hP hD hS (lv_sub hl [2, 3, 0] rfl)
            · have hF := zif c11 hF
              refine lv_aload_n hx hb dX6_years_67 rfl (lv_at hl 1 rfl) ?_
              refine z_get (ci := 6) (v := .ref (q 28)) (C := RX6) (T := TX6) (N := 13) hx hb hts inX6 hown hK hP 0 (cwp_0 g q C9) rfl 5 (by decide) (List.mem_of_getElem? (i := 1) rfl) rfl rfl dX6_years_68 ?_
              refine lv_aload_n hx hb dX6_years_71 rfl (lv_at hl 1 rfl) ?_
              refine z_get (ci := 6) (v := .ref (q (13 + 2))) (C := RX6) (T := TX6) (N := 13) hx hb hts inX6 hown hK hP 0 (cwp_0 g q C9) rfl 3 (by decide) (List.mem_of_getElem? (i := 7) rfl) rfl rfl dX6_years_72 ?_
              obtain ⟨M15, hM15, hF⟩ := zob hF
              refine z_wgo (wn := CW g q (cM C9 1 M15)) (va_runV (As := [.ref (q (13 + 2))]) (rest := []) ⟨hx, hb, hml, hown, hts⟩ ((c2_advance l g q 28 q (13 + 2) (C9.1 1) ((C9.2.2.2.2.2.1).1)   M15 hM15) H.size) (cwV 1 hts gX6_years_X2_advance rfl rfl rfl (by decide +kernel) ⟨Nat.le_of_ble_eq_true rfl, Nat.le_of_ble_eq_true rfl⟩) (z_wpreV (ci := 2) (q := (RX2, TX2, 9)) (q0 := 0) (z_Psub hP _ (cwm_28_13_22 g q C9)) hK (z_any (hD.sub _ (by decide) (cwm_28_13_22 g q C9))) rfl rfl) rfl rfl hl.1 rfl (lv_room (Nat.le_of_ble_eq_true rfl)) dX6_years_75 ⟨Nat.zero_le _, Nat.zero_le _⟩) hP hD hS hA _ (cwm_28_13_22 g q C9) (by decide) rfl (cww_28_13_22 g q C9 M15) (fun H locs hP hD hS => ?_)
              show W p l e (headSpec wsX6_years rmX6_years).room s m args below meth c H locs 0 0 (MQ below (zWQ g A (CW g q C_o) (some (.int ro))) args s 0 0 A) (F0 m 78 ls [])
              obtain ⟨C16, eC16⟩ : ∃ y : Cs, y = (cM C9 1 M15) := ⟨_, rfl⟩
              rw [← eC16] at hP hD
              have hF := bd_eq eC16 hF
              refine lv_goto (tgt := 100) hx hb dX6_years_78 (by decide) ?_
              refine lv_iinc (v := (y5 + 1)) (lv' := [(2, .int (y5 + 1)), (3, .int v10), (0, .ref (q 0)), (1, .int x1)]) hx hb dX6_years_100 hl (k := 3) rfl rfl (by decide) rfl (fun ls hl => ?_)
              refine lv_goto (tgt := 27) hx hb dX6_years_103 (by decide) ?_
              exact ih27 (y5 + 1) C16 H locs ls hF hP hD hS (lv_sub hl [2, 3, 0] rfl)
      exact L27 FU 0 C4 H locs ls hF hP hD hS (lv_sub hl [1, 2, 0] rfl)
    · have hF := zif c2 hF
      refine lv_bipush (v := (-2)) hx hb dX6_years_11 (by decide) ?_
      obtain ⟨e9a, e9b⟩ := Prod.mk.inj (zin hF)
      exact z_wi hx hb hr hlk hP hD hS (congrArg (fun z => some (Value.int z)) e9a) (by rw [e9b]) dX6_years_13

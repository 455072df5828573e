def f6_isNoChoice (x0 : Int32) : Int32 := if x0 < 0 then 1 else if x0 ≤ 1 then 0 else 1
abbrev rmX6_isNoChoice : Room := { frames := 0, cells := 0, slots := 0, locals := 0 }
set_option maxHeartbeats 4000000 in
set_option maxRecDepth 100000 in
theorem c6_isNoChoice (l : Launch) (g : zG)  (x0 : Int32) : zRO l g yX6_isNoChoice wsX6_isNoChoice rmX6_isNoChoice [.int x0] [] (some (.int (f6_isNoChoice x0))) := by
  obtain ⟨ro, hF⟩ : ∃ y : Int32, f6_isNoChoice x0 = y := ⟨_, rfl⟩
  rw [hF]
  refine zRO_of (cc := cX6_isNoChoice) (maxL := 1) (ret := (some .boolean)) (by decide) rfl (Nat.le_of_ble_eq_true rfl) ?_
  intro p e s m args below meth c ls hx hb hr hml hts hown hlk hK hP hl
  have hown : s.vm.findClass RX6 = some m.cls := hown
  have hl : lv_has ls 1 [(0, .int x0)] := hl
  unfold f6_isNoChoice at hF
  refine lv_iload_n hx hb dX6_isNoChoice_0 rfl (lv_at hl 0 rfl) ?_
  refine lv_if_lt (tgt := 9) hx hb dX6_isNoChoice_1 (by decide) (fun c1 => ?_) (fun c1 => ?_)
  · have hF := zit c1 hF
    refine lv_iconst (v := 1) hx hb dX6_isNoChoice_9 (by decide) ?_
    refine lv_goto (tgt := 14) hx hb dX6_isNoChoice_10 (by decide) ?_
    exact z_rz hx hb hr hlk rfl (congrArg (fun z => some (Value.int z)) hF) dX6_isNoChoice_14
  · have hF := zif c1 hF
    refine lv_iload_n hx hb dX6_isNoChoice_4 rfl (lv_at hl 0 rfl) ?_
    refine lv_iconst (v := 1) hx hb dX6_isNoChoice_5 (by decide) ?_
    refine lv_icmp_le (tgt := 13) hx hb dX6_isNoChoice_6 (by decide) (fun c2 => ?_) (fun c2 => ?_)
    · have hF := zit c2 hF
      refine lv_iconst (v := 0) hx hb dX6_isNoChoice_13 (by decide) ?_
      exact z_rz hx hb hr hlk rfl (congrArg (fun z => some (Value.int z)) hF) dX6_isNoChoice_14
    · have hF := zif c2 hF
      refine lv_iconst (v := 1) hx hb dX6_isNoChoice_9 (by decide) ?_
      refine lv_goto (tgt := 14) hx hb dX6_isNoChoice_10 (by decide) ?_
      exact z_rz hx hb hr hlk rfl (congrArg (fun z => some (Value.int z)) hF) dX6_isNoChoice_14
theorem b6_isNoChoice (x0 : Int32) : narrow .boolean (.int (f6_isNoChoice x0)) = .int (f6_isNoChoice x0) := by
  unfold f6_isNoChoice
  repeat' split
  all_goals first | rfl | exact rfl
def f6_again (C : Cs) (x1 : Int32) : Option (Int32 × Cs) := if (f6_isNoChoice x1) = 0 then if (f6_has (C.2.2.2.2.2.2.2.2.1) x1) = 0 then some ((-3), C) else if x1 = 0 then (f2_copy (C.1 0) (C.1 2)).bind fun M4 => bd (cM C 0 M4) (fun (C5 : Cs) => bd (cRn C5 0) (fun (C6 : Cs) => some (((C6.1 0).1 8), C6))) else (f2_copy (C.1 0) (C.1 3)).bind fun M7 => bd (cM C 0 M7) (fun (C8 : Cs) => bd (cRn C8 0) (fun (C9 : Cs) => some (((C9.1 0).1 8), C9))) else some ((-1), C)
abbrev rmX6_again : Room := { frames := 2, cells := 0, slots := 0, locals := 44 }
set_option maxHeartbeats 4000000 in
set_option maxRecDepth 100000 in
theorem c6_again (l : Launch) (g : zG) (q : Nat → Nat) (C : Cs) (x1 : Int32) (ro : Int32) (C_o : Cs) (hF : f6_again C x1 = some (ro, C_o)) : zRW l g yX6_again wsX6_again rmX6_again [.ref (q 0), .int x1] (CW g q C) (some (.int ro)) (CW g q C_o) := by
  refine zRW_of (cc := cX6_again) (maxL := 2) (ret := (some .int)) (by decide) rfl (Nat.le_of_ble_eq_true rfl) ?_
  intro p e s m args below meth c A H locs ls hx hb hr hml hts hown hlk hK hA hP hD hS hl
  have hown : s.vm.findClass RX6 = some m.cls := hown
  have hl : lv_has ls 2 [(0, .ref (q 0)), (1, .int x1)] := hl
  have inX2 : ∀ w ∈ wsX20, w ∈ wsX6_again := fun _ h => List.mem_cons_of_mem _ (List.mem_append_right _ h)
  have inX5 : ∀ w ∈ wsX50, w ∈ wsX6_again := fun _ h => List.mem_cons_of_mem _ (List.mem_append_left _ (List.mem_append_right _ h))
  have inX6 : ∀ w ∈ wsX60, w ∈ wsX6_again := fun _ h => List.mem_cons_of_mem _ (List.mem_append_left _ (List.mem_append_left _ (List.mem_append_right _ h)))
  unfold f6_again at hF
  refine lv_iload_n hx hb dX6_again_0 rfl (lv_at hl 1 rfl) ?_
  refine z_rgo (va_runS (As := [.int x1]) (rest := []) ⟨hx, hb, hml, hown, hts⟩ (c6_isNoChoice l g   x1) (va_cwS 1 hts gX6_again_X6_isNoChoice rfl rfl rfl (by decide +kernel) ⟨Nat.le_of_ble_eq_true rfl, Nat.le_of_ble_eq_true rfl⟩) (z_rpre z_nil hK) rfl rfl hl.1 rfl (lv_room (Nat.le_of_ble_eq_true rfl)) dX6_again_1 ⟨Nat.zero_le _, Nat.zero_le _⟩) ?_
  refine lv_if_eq (tgt := 9) hx hb dX6_again_4 (by decide) (fun c1 => ?_) (fun c1 => ?_)
  · have hF := zit c1 hF
    refine lv_aload_n hx hb dX6_again_9 rfl (lv_at hl 0 rfl) ?_
    refine z_get (ci := 6) (v := .int (C.2.2.2.2.2.2.2.2.1)) (C := RX6) (T := TX6) (N := 13) hx hb hts inX6 hown hK hP 0 (cwp_0 g q C) rfl 11 (by decide) (List.mem_of_getElem? (i := 1) rfl) rfl rfl dX6_again_10 ?_
    refine lv_iload_n hx hb dX6_again_13 rfl (lv_at hl 1 rfl) ?_
    refine z_rgo (va_runS (As := [.int (C.2.2.2.2.2.2.2.2.1), .int x1]) (rest := []) ⟨hx, hb, hml, hown, hts⟩ (c6_has l g   (C.2.2.2.2.2.2.2.2.1) x1) (va_cwS 2 hts gX6_again_X6_has rfl rfl rfl (by decide +kernel) ⟨Nat.le_of_ble_eq_true rfl, Nat.le_of_ble_eq_true rfl⟩) (z_rpre z_nil hK) rfl rfl hl.1 rfl (lv_room (Nat.le_of_ble_eq_true rfl)) dX6_again_14 ⟨Nat.zero_le _, Nat.zero_le _⟩) ?_
    refine lv_if_ne (tgt := 23) hx hb dX6_again_17 (by decide) (fun c2 => ?_) (fun c2 => ?_)
    · have hF := zif c2 hF
      refine lv_aload_n hx hb dX6_again_23 rfl (lv_at hl 0 rfl) ?_
      refine z_get (ci := 6) (v := .ref (q 23)) (C := RX6) (T := TX6) (N := 13) hx hb hts inX6 hown hK hP 0 (cwp_0 g q C) rfl 4 (by decide) (List.mem_of_getElem? (i := 2) rfl) rfl rfl dX6_again_24 ?_
      refine lv_aload_n hx hb dX6_again_27 rfl (lv_at hl 0 rfl) ?_
      refine lv_iload_n hx hb dX6_again_28 rfl (lv_at hl 1 rfl) ?_
      by_cases c3 : x1 = 0
      · have hF := zit c3 hF
        refine z_rgo (va_runV (As := [.int x1]) (rest := [.ref (q 23)]) ⟨hx, hb, hml, hown, hts⟩ (c6_slot0 l g q C x1 c3) (cwV 1 hts gX6_again_X6_slotOf rfl rfl rfl (by decide +kernel) ⟨Nat.le_of_ble_eq_true rfl, Nat.le_of_ble_eq_true rfl⟩) (z_rpreV (ci := 6) (q := (RX6, TX6, 13)) (q0 := 0) hP hK rfl rfl) rfl rfl hl.1 rfl (lv_room (Nat.le_of_ble_eq_true rfl)) dX6_again_29 ⟨Nat.zero_le _, Nat.zero_le _⟩) ?_
        obtain ⟨M4, hM4, hF⟩ := zob hF
        refine z_wgo (wn := CW g q (cM C 0 M4)) (va_runV (As := [.ref (q 36)]) (rest := []) ⟨hx, hb, hml, hown, hts⟩ ((c2_copy l g q 23 q 36 (C.1 0) (C.1 2)   M4 hM4) H.size) (cwV 1 hts gX6_again_X2_copy rfl rfl rfl (by decide +kernel) ⟨Nat.le_of_ble_eq_true rfl, Nat.le_of_ble_eq_true rfl⟩) (z_wpreV (ci := 2) (q := (RX2, TX2, 9)) (q0 := 0) (z_Psub hP _ (cwm_23_10_40 g q C)) hK (z_any (hD.sub _ (by decide) (cwm_23_10_40 g q C))) rfl rfl) rfl rfl hl.1 rfl (lv_room (Nat.le_of_ble_eq_true rfl)) dX6_again_32 ⟨Nat.zero_le _, Nat.zero_le _⟩) hP hD hS hA _ (cwm_23_10_40 g q C) (by decide) rfl (cww_23_10_40 g q C M4) (fun H locs hP hD hS => ?_)
        show W p l e (headSpec wsX6_again rmX6_again).room s m args below meth c H locs 0 0 (MQ below (zWQ g A (CW g q C_o) (some (.int ro))) args s 0 0 A) (F0 m 35 ls [])
        obtain ⟨C5, eC5⟩ : ∃ y : Cs, y = (cM C 0 M4) := ⟨_, rfl⟩
        rw [← eC5] at hP hD
        have hF := bd_eq eC5 hF
        refine lv_aload_n hx hb dX6_again_35 rfl (lv_at hl 0 rfl) ?_
        refine z_get (ci := 6) (v := .ref (q 34)) (C := RX6) (T := TX6) (N := 13) hx hb hts inX6 hown hK hP 0 (cwp_0 g q C5) rfl 7 (by decide) (List.mem_of_getElem? (i := 3) rfl) rfl rfl dX6_again_36 ?_
        refine lv_iconst (v := 0) hx hb dX6_again_39 (by decide) ?_
        refine z_put (ci := 5) (v := .int 0) (C := RX5) (T := TX5) (N := 2) (ws' := CW g q (cRn C5 0)) hx hb hts inX5 tyX5 tyX5_ok nmX5 hown hK hP hD hS 34 (cwp_34 g q C5) rfl 1 (by decide) (List.mem_of_getElem? (i := 4) rfl) rfl rfl rfl rfl (Nat.le_of_ble_eq_true rfl) (cwst_34_1 g q C5 0) dX6_again_40 (fun H locs hP hD hS => ?_)
        obtain ⟨C6, eC6⟩ : ∃ y : Cs, y = (cRn C5 0) := ⟨_, rfl⟩
        rw [← eC6] at hP hD
        have hF := bd_eq eC6 hF
        refine lv_aload_n hx hb dX6_again_43 rfl (lv_at hl 0 rfl) ?_
        refine z_get (ci := 6) (v := .ref (q 23)) (C := RX6) (T := TX6) (N := 13) hx hb hts inX6 hown hK hP 0 (cwp_0 g q C6) rfl 4 (by decide) (List.mem_of_getElem? (i := 2) rfl) rfl rfl dX6_again_44 ?_
        refine z_get (ci := 2) (v := .int ((C6.1 0).1 8)) (C := RX2) (T := TX2) (N := 9) hx hb hts inX2 hown hK hP 23 (cwp_23 g q C6) rfl 8 (by decide) (List.mem_of_getElem? (i := 5) rfl) rfl rfl dX6_again_47 ?_
        obtain ⟨e9a, e9b⟩ := Prod.mk.inj (zin hF)
        exact z_wi hx hb hr hlk hP hD hS (congrArg (fun z => some (Value.int z)) e9a) (by rw [e9b]) dX6_again_50
      · have hF := zif c3 hF
        refine z_rgo (va_runV (As := [.int x1]) (rest := [.ref (q 23)]) ⟨hx, hb, hml, hown, hts⟩ (c6_slot1 l g q C x1 c3) (cwV 1 hts gX6_again_X6_slotOf rfl rfl rfl (by decide +kernel) ⟨Nat.le_of_ble_eq_true rfl, Nat.le_of_ble_eq_true rfl⟩) (z_rpreV (ci := 6) (q := (RX6, TX6, 13)) (q0 := 0) hP hK rfl rfl) rfl rfl hl.1 rfl (lv_room (Nat.le_of_ble_eq_true rfl)) dX6_again_29 ⟨Nat.zero_le _, Nat.zero_le _⟩) ?_
        obtain ⟨M7, hM7, hF⟩ := zob hF
        refine z_wgo (wn := CW g q (cM C 0 M7)) (va_runV (As := [.ref (q 41)]) (rest := []) ⟨hx, hb, hml, hown, hts⟩ ((c2_copy l g q 23 q 41 (C.1 0) (C.1 3)   M7 hM7) H.size) (cwV 1 hts gX6_again_X2_copy rfl rfl rfl (by decide +kernel) ⟨Nat.le_of_ble_eq_true rfl, Nat.le_of_ble_eq_true rfl⟩) (z_wpreV (ci := 2) (q := (RX2, TX2, 9)) (q0 := 0) (z_Psub hP _ (cwm_23_10_45 g q C)) hK (z_any (hD.sub _ (by decide) (cwm_23_10_45 g q C))) rfl rfl) rfl rfl hl.1 rfl (lv_room (Nat.le_of_ble_eq_true rfl)) dX6_again_32 ⟨Nat.zero_le _, Nat.zero_le _⟩) hP hD hS hA _ (cwm_23_10_45 g q C) (by decide) rfl (cww_23_10_45 g q C M7) (fun H locs hP hD hS => ?_)
        show W p l e (headSpec wsX6_again rmX6_again).room s m args below meth c H locs 0 0 (MQ below (zWQ g A (CW g q C_o) (some (.int ro))) args s 0 0 A) (F0 m 35 ls [])
        obtain ⟨C8, eC8⟩ : ∃ y : Cs, y = (cM C 0 M7) := ⟨_, rfl⟩
        rw [← eC8] at hP hD
        have hF := bd_eq eC8 hF
        refine lv_aload_n hx hb dX6_again_35 rfl (lv_at hl 0 rfl) ?_
        refine z_get (ci := 6) (v := .ref (q 34)) (C := RX6) (T := TX6) (N := 13) hx hb hts inX6 hown hK hP 0 (cwp_0 g q C8) rfl 7 (by decide) (List.mem_of_getElem? (i := 3) rfl) rfl rfl dX6_again_36 ?_
        refine lv_iconst (v := 0) hx hb dX6_again_39 (by decide) ?_
        refine z_put (ci := 5) (v := .int 0) (C := RX5) (T := TX5) (N := 2) (ws' := CW g q (cRn C8 0)) hx hb hts inX5 tyX5 tyX5_ok nmX5 hown hK hP hD hS 34 (cwp_34 g q C8) rfl 1 (by decide) (List.mem_of_getElem? (i := 4) rfl) rfl rfl rfl rfl (Nat.le_of_ble_eq_true rfl) (cwst_34_1 g q C8 0) dX6_again_40 (fun H locs hP hD hS => ?_)
        obtain ⟨C9, eC9⟩ : ∃ y : Cs, y = (cRn C8 0) := ⟨_, rfl⟩
        rw [← eC9] at hP hD
        have hF := bd_eq eC9 hF
        refine lv_aload_n hx hb dX6_again_43 rfl (lv_at hl 0 rfl) ?_
        refine z_get (ci := 6) (v := .ref (q 23)) (C := RX6) (T := TX6) (N := 13) hx hb hts inX6 hown hK hP 0 (cwp_0 g q C9) rfl 4 (by decide) (List.mem_of_getElem? (i := 2) rfl) rfl rfl dX6_again_44 ?_
        refine z_get (ci := 2) (v := .int ((C9.1 0).1 8)) (C := RX2) (T := TX2) (N := 9) hx hb hts inX2 hown hK hP 23 (cwp_23 g q C9) rfl 8 (by decide) (List.mem_of_getElem? (i := 5) rfl) rfl rfl dX6_again_47 ?_
        obtain ⟨e9a, e9b⟩ := Prod.mk.inj (zin hF)
        exact z_wi hx hb hr hlk hP hD hS (congrArg (fun z => some (Value.int z)) e9a) (by rw [e9b]) dX6_again_50
    · have hF := zit c2 hF
      refine lv_bipush (v := (-3)) hx hb dX6_again_20 (by decide) ?_
      obtain ⟨e9a, e9b⟩ := Prod.mk.inj (zin hF)
      exact z_wi hx hb hr hlk hP hD hS (congrArg (fun z => some (Value.int z)) e9a) (by rw [e9b]) dX6_again_22
  · have hF := zif c1 hF
    refine lv_iconst (v := (-1)) hx hb dX6_again_7 (by decide) ?_
    obtain ⟨e9a, e9b⟩ := Prod.mk.inj (zin hF)
    exact z_wi hx hb hr hlk hP hD hS (congrArg (fun z => some (Value.int z)) e9a) (by rw [e9b]) dX6_again_8
def f6_tryFromNow (C : Cs) (x1 : Int32) : Option (Cs) := (f2_copy (C.1 1) (C.1 0)).bind fun M1 => bd (cM C 1 M1) (fun (C2 : Cs) => (f2_advanceTimes (C2.1 1) ((C2.2.2.2.2.2.1).1) x1).bind fun M3 => bd (cM C2 1 M3) (fun (C4 : Cs) => some C4))
abbrev rmX6_tryFromNow : Room := { frames := 5, cells := 0, slots := 0, locals := 120 }
set_option maxHeartbeats 4000000 in
set_option maxRecDepth 100000 in
theorem c6_tryFromNow (l : Launch) (g : zG) (q : Nat → Nat) (C : Cs) (x1 : Int32) (C_o : Cs) (hF : f6_tryFromNow C x1 = some C_o) : zRW l g yX6_tryFromNow wsX6_tryFromNow rmX6_tryFromNow [.ref (q 0), .int x1] (CW g q C) none (CW g q C_o) := by
  refine zRW_of (cc := cX6_tryFromNow) (maxL := 2) (ret := none) (by decide) rfl (Nat.le_of_ble_eq_true rfl) ?_
  intro p e s m args below meth c A H locs ls hx hb hr hml hts hown hlk hK hA hP hD hS hl
  have hown : s.vm.findClass RX6 = some m.cls := hown
  have hl : lv_has ls 2 [(0, .ref (q 0)), (1, .int x1)] := hl
  have inX6 : ∀ w ∈ wsX60, w ∈ wsX6_tryFromNow := fun _ h => List.mem_cons_of_mem _ (List.mem_append_left _ (List.mem_append_left _ (List.mem_append_right _ h)))
  unfold f6_tryFromNow at hF
  refine lv_aload_n hx hb dX6_tryFromNow_0 rfl (lv_at hl 0 rfl) ?_
  refine z_get (ci := 6) (v := .ref (q 28)) (C := RX6) (T := TX6) (N := 13) hx hb hts inX6 hown hK hP 0 (cwp_0 g q C) rfl 5 (by decide) (List.mem_of_getElem? (i := 1) rfl) rfl rfl dX6_tryFromNow_1 ?_
  refine lv_aload_n hx hb dX6_tryFromNow_4 rfl (lv_at hl 0 rfl) ?_
  refine z_get (ci := 6) (v := .ref (q 23)) (C := RX6) (T := TX6) (N := 13) hx hb hts inX6 hown hK hP 0 (cwp_0 g q C) rfl 4 (by decide) (List.mem_of_getElem? (i := 2) rfl) rfl rfl dX6_tryFromNow_5 ?_
  obtain ⟨M1, hM1, hF⟩ := zob hF
  refine z_wgo (wn := CW g q (cM C 1 M1)) (va_runV (As := [.ref (q 23)]) (rest := []) ⟨hx, hb, hml, hown, hts⟩ ((c2_copy l g q 28 q 23 (C.1 1) (C.1 0)   M1 hM1) H.size) (cwV 1 hts gX6_tryFromNow_X2_copy rfl rfl rfl (by decide +kernel) ⟨Nat.le_of_ble_eq_true rfl, Nat.le_of_ble_eq_true rfl⟩) (z_wpreV (ci := 2) (q := (RX2, TX2, 9)) (q0 := 0) (z_Psub hP _ (cwm_28_10_27 g q C)) hK (z_any (hD.sub _ (by decide) (cwm_28_10_27 g q C))) rfl rfl) rfl rfl hl.1 rfl (lv_room (Nat.le_of_ble_eq_true rfl)) dX6_tryFromNow_8 ⟨Nat.zero_le _, Nat.zero_le _⟩) hP hD hS hA _ (cwm_28_10_27 g q C) (by decide) rfl (cww_28_10_27 g q C M1) (fun H locs hP hD hS => ?_)
  show W p l e (headSpec wsX6_tryFromNow rmX6_tryFromNow).room s m args below meth c H locs 0 0 (MQ below (zWQ g A (CW g q C_o) none) args s 0 0 A) (F0 m 11 ls [])
  obtain ⟨C2, eC2⟩ : ∃ y : Cs, y = (cM C 1 M1) := ⟨_, rfl⟩
  rw [← eC2] at hP hD
  have hF := bd_eq eC2 hF
  refine lv_aload_n hx hb dX6_tryFromNow_11 rfl (lv_at hl 0 rfl) ?_
  refine z_get (ci := 6) (v := .ref (q 28)) (C := RX6) (T := TX6) (N := 13) hx hb hts inX6 hown hK hP 0 (cwp_0 g q C2) rfl 5 (by decide) (List.mem_of_getElem? (i := 1) rfl) rfl rfl dX6_tryFromNow_12 ?_
  refine lv_iload_n hx hb dX6_tryFromNow_15 rfl (lv_at hl 1 rfl) ?_
  refine lv_aload_n hx hb dX6_tryFromNow_16 rfl (lv_at hl 0 rfl) ?_
  refine z_get (ci := 6) (v := .ref (q (13 + 2))) (C := RX6) (T := TX6) (N := 13) hx hb hts inX6 hown hK hP 0 (cwp_0 g q C2) rfl 3 (by decide) (List.mem_of_getElem? (i := 3) rfl) rfl rfl dX6_tryFromNow_17 ?_
  obtain ⟨M3, hM3, hF⟩ := zob hF
  refine z_wgo (wn := CW g q (cM C2 1 M3)) (va_runV (As := [.int x1, .ref (q (13 + 2))]) (rest := []) ⟨hx, hb, hml, hown, hts⟩ ((c2_advanceTimes l g q 28 q (13 + 2) (C2.1 1) ((C2.2.2.2.2.2.1).1) x1  M3 hM3) H.size) (cwV 2 hts gX6_tryFromNow_X2_advanceTimes rfl rfl rfl (by decide +kernel) ⟨Nat.le_of_ble_eq_true rfl, Nat.le_of_ble_eq_true rfl⟩) (z_wpreV (ci := 2) (q := (RX2, TX2, 9)) (q0 := 0) (z_Psub hP _ (cwm_28_13_22 g q C2)) hK (z_any (hD.sub _ (by decide) (cwm_28_13_22 g q C2))) rfl rfl) rfl rfl hl.1 rfl (lv_room (Nat.le_of_ble_eq_true rfl)) dX6_tryFromNow_20 ⟨Nat.zero_le _, Nat.zero_le _⟩) hP hD hS hA _ (cwm_28_13_22 g q C2) (by decide) rfl (cww_28_13_22 g q C2 M3) (fun H locs hP hD hS => ?_)
  show W p l e (headSpec wsX6_tryFromNow rmX6_tryFromNow).room s m args below meth c H locs 0 0 (MQ below (zWQ g A (CW g q C_o) none) args s 0 0 A) (F0 m 23 ls [])
  obtain ⟨C4, eC4⟩ : ∃ y : Cs, y = (cM C2 1 M3) := ⟨_, rfl⟩
  rw [← eC4] at hP hD
  have hF := bd_eq eC4 hF
  have e9b := zin hF
  exact z_wv hx hb hr hlk hP hD hS (by rw [e9b]) dX6_tryFromNow_23
def f6_ahead (C : Cs) (x1 : Int32) (x2 : Int32) : Option (Int32 × Cs) := if x1 < 0 then some ((-2), C) else if 30 < x1 then some ((-2), C) else if (f6_isNoChoice x2) = 0 then (f6_tryFromNow C x1).bind fun C4 => if x2 = 0 then some (((C4.1 1).1 5), C4) else (f2_right (C4.1 1) ((C4.2.2.2.2.2.1).1)).bind fun v6 => some (v6, C4) else some ((-2), C)
abbrev rmX6_ahead : Room := { frames := 6, cells := 0, slots := 0, locals := 141 }
set_option maxHeartbeats 4000000 in
set_option maxRecDepth 100000 in
theorem c6_ahead (l : Launch) (g : zG) (q : Nat → Nat) (C : Cs) (x1 : Int32) (x2 : Int32) (ro : Int32) (C_o : Cs) (hF : f6_ahead C x1 x2 = some (ro, C_o)) : zRW l g yX6_ahead wsX6_ahead rmX6_ahead [.ref (q 0), .int x1, .int x2] (CW g q C) (some (.int ro)) (CW g q C_o) := by
  refine zRW_of (cc := cX6_ahead) (maxL := 3) (ret := (some .int)) (by decide) rfl (Nat.le_of_ble_eq_true rfl) ?_
  intro p e s m args below meth c A H locs ls hx hb hr hml hts hown hlk hK hA hP hD hS hl
  have hown : s.vm.findClass RX6 = some m.cls := hown
  have hl : lv_has ls 3 [(0, .ref (q 0)), (1, .int x1), (2, .int x2)] := hl
  have inX2 : ∀ w ∈ wsX20, w ∈ wsX6_ahead := fun _ h => List.mem_cons_of_mem _ (List.mem_append_left _ (List.mem_append_right _ h))
  have inX6 : ∀ w ∈ wsX60, w ∈ wsX6_ahead := fun _ h => List.mem_cons_of_mem _ (List.mem_append_left _ (List.mem_append_left _ (List.mem_append_right _ h)))
  unfold f6_ahead at hF
  refine lv_iload_n hx hb dX6_ahead_0 rfl (lv_at hl 1 rfl) ?_
  refine lv_if_lt (tgt := 17) hx hb dX6_ahead_1 (by decide) (fun c1 => ?_) (fun c1 => ?_)
  · have hF := zit c1 hF
    refine lv_bipush (v := (-2)) hx hb dX6_ahead_17 (by decide) ?_
    obtain ⟨e9a, e9b⟩ := Prod.mk.inj (zin hF)
    exact z_wi hx hb hr hlk hP hD hS (congrArg (fun z => some (Value.int z)) e9a) (by rw [e9b]) dX6_ahead_19
  · have hF := zif c1 hF
    refine lv_iload_n hx hb dX6_ahead_4 rfl (lv_at hl 1 rfl) ?_
    refine lv_bipush (v := 30) hx hb dX6_ahead_5 (by decide) ?_
    refine lv_icmp_gt (tgt := 17) hx hb dX6_ahead_7 (by decide) (fun c2 => ?_) (fun c2 => ?_)
    · have hF := zit c2 hF
      refine lv_bipush (v := (-2)) hx hb dX6_ahead_17 (by decide) ?_
      obtain ⟨e9a, e9b⟩ := Prod.mk.inj (zin hF)
      exact z_wi hx hb hr hlk hP hD hS (congrArg (fun z => some (Value.int z)) e9a) (by rw [e9b]) dX6_ahead_19
    · have hF := zif c2 hF
      refine lv_iload_n hx hb dX6_ahead_10 rfl (lv_at hl 2 rfl) ?_
      refine z_rgo (va_runS (As := [.int x2]) (rest := []) ⟨hx, hb, hml, hown, hts⟩ (c6_isNoChoice l g   x2) (va_cwS 1 hts gX6_ahead_X6_isNoChoice rfl rfl rfl (by decide +kernel) ⟨Nat.le_of_ble_eq_true rfl, Nat.le_of_ble_eq_true rfl⟩) (z_rpre z_nil hK) rfl rfl hl.1 rfl (lv_room (Nat.le_of_ble_eq_true rfl)) dX6_ahead_11 ⟨Nat.zero_le _, Nat.zero_le _⟩) ?_
      refine lv_if_eq (tgt := 20) hx hb dX6_ahead_14 (by decide) (fun c3 => ?_) (fun c3 => ?_)
      · have hF := zit c3 hF
        refine lv_aload_n hx hb dX6_ahead_20 rfl (lv_at hl 0 rfl) ?_
        refine lv_iload_n hx hb dX6_ahead_21 rfl (lv_at hl 1 rfl) ?_
        obtain ⟨C4, hC4, hF⟩ := zob hF
        refine z_wgoW (va_runV (As := [.int x1]) (rest := []) ⟨hx, hb, hml, hown, hts⟩ ((c6_tryFromNow l g q C x1  C4 hC4) H.size) (cwV 1 hts gX6_ahead_X6_tryFromNow rfl rfl rfl (by decide +kernel) ⟨Nat.le_of_ble_eq_true rfl, Nat.le_of_ble_eq_true rfl⟩) (z_wpreV (ci := 6) (q := (RX6, TX6, 13)) (q0 := 0) hP hK (z_any hD) rfl rfl) rfl rfl hl.1 rfl (lv_room (Nat.le_of_ble_eq_true rfl)) dX6_ahead_22 ⟨Nat.zero_le _, Nat.zero_le _⟩) hP hD hS hA (fun H locs hP hD hS => ?_)
        show W p l e (headSpec wsX6_ahead rmX6_ahead).room s m args below meth c H locs 0 0 (MQ below (zWQ g A (CW g q C_o) (some (.int ro))) args s 0 0 A) (F0 m 25 ls [])
        refine lv_iload_n hx hb dX6_ahead_25 rfl (lv_at hl 2 rfl) ?_
        refine lv_if_ne (tgt := 39) hx hb dX6_ahead_26 (by decide) (fun c5 => ?_) (fun c5 => ?_)
        · have hF := zif c5 hF
          refine lv_aload_n hx hb dX6_ahead_39 rfl (lv_at hl 0 rfl) ?_
          refine z_get (ci := 6) (v := .ref (q 28)) (C := RX6) (T := TX6) (N := 13) hx hb hts inX6 hown hK hP 0 (cwp_0 g q C4) rfl 5 (by decide) (List.mem_of_getElem? (i := 1) rfl) rfl rfl dX6_ahead_40 ?_
          refine lv_aload_n hx hb dX6_ahead_43 rfl (lv_at hl 0 rfl) ?_
          refine z_get (ci := 6) (v := .ref (q (13 + 2))) (C := RX6) (T := TX6) (N := 13) hx hb hts inX6 hown hK hP 0 (cwp_0 g q C4) rfl 3 (by decide) (List.mem_of_getElem? (i := 3) rfl) rfl rfl dX6_ahead_44 ?_
          obtain ⟨v6, hv6, hF⟩ := zob hF
          refine z_rgo (va_runV (As := [.ref (q (13 + 2))]) (rest := []) ⟨hx, hb, hml, hown, hts⟩ (c2_right l g q 28 q (13 + 2) (C4.1 1) ((C4.2.2.2.2.2.1).1)  v6 hv6) (cwV 1 hts gX6_ahead_X2_right rfl rfl rfl (by decide +kernel) ⟨Nat.le_of_ble_eq_true rfl, Nat.le_of_ble_eq_true rfl⟩) (z_rpreV (ci := 2) (q := (RX2, TX2, 9)) (q0 := 0) (z_Psub hP _ (cwm_28_13_22 g q C4)) hK rfl rfl) rfl rfl hl.1 rfl (lv_room (Nat.le_of_ble_eq_true rfl)) dX6_ahead_47 ⟨Nat.zero_le _, Nat.zero_le _⟩) ?_
          obtain ⟨e9a, e9b⟩ := Prod.mk.inj (zin hF)
          exact z_wi hx hb hr hlk hP hD hS (congrArg (fun z => some (Value.int z)) e9a) (by rw [e9b]) dX6_ahead_50
        · have hF := zit c5 hF
          refine lv_aload_n hx hb dX6_ahead_29 rfl (lv_at hl 0 rfl) ?_
          refine z_get (ci := 6) (v := .ref (q 28)) (C := RX6) (T := TX6) (N := 13) hx hb hts inX6 hown hK hP 0 (cwp_0 g q C4) rfl 5 (by decide) (List.mem_of_getElem? (i := 1) rfl) rfl rfl dX6_ahead_30 ?_
          refine z_get (ci := 2) (v := .int ((C4.1 1).1 5)) (C := RX2) (T := TX2) (N := 9) hx hb hts inX2 hown hK hP 28 (cwp_28 g q C4) rfl 5 (by decide) (List.mem_of_getElem? (i := 2) rfl) rfl rfl dX6_ahead_33 ?_
          refine lv_goto (tgt := 50) hx hb dX6_ahead_36 (by decide) ?_
          obtain ⟨e9a, e9b⟩ := Prod.mk.inj (zin hF)
          exact z_wi hx hb hr hlk hP hD hS (congrArg (fun z => some (Value.int z)) e9a) (by rw [e9b]) dX6_ahead_50
      · have hF := zif c3 hF
        refine lv_bipush (v := (-2)) hx hb dX6_ahead_17 (by decide) ?_
        obtain ⟨e9a, e9b⟩ := Prod.mk.inj (zin hF)
        exact z_wi hx hb hr hlk hP hD hS (congrArg (fun z => some (Value.int z)) e9a) (by rw [e9b]) dX6_ahead_19
def f6_isNoWalker (C : Cs) (x1 : Int32) : Int32 := if x1 < 0 then 1 else if x1 < (((C.2.2.2.2.2.1).1).1 4) then 0 else 1
abbrev rmX6_isNoWalker : Room := { frames := 0, cells := 0, slots := 0, locals := 0 }
set_option maxHeartbeats 4000000 in
set_option maxRecDepth 100000 in
theorem c6_isNoWalker (l : Launch) (g : zG) (q : Nat → Nat) (C : Cs) (x1 : Int32) : zRO l g yX6_isNoWalker wsX6_isNoWalker rmX6_isNoWalker [.ref (q 0), .int x1] (CW g q C) (some (.int (f6_isNoWalker C x1))) := by
  obtain ⟨ro, hF⟩ : ∃ y : Int32, f6_isNoWalker C x1 = y := ⟨_, rfl⟩
  rw [hF]
  refine zRO_of (cc := cX6_isNoWalker) (maxL := 2) (ret := (some .boolean)) (by decide) rfl (Nat.le_of_ble_eq_true rfl) ?_
  intro p e s m args below meth c ls hx hb hr hml hts hown hlk hK hP hl
  have hown : s.vm.findClass RX6 = some m.cls := hown
  have hl : lv_has ls 2 [(0, .ref (q 0)), (1, .int x1)] := hl
  have inX3 : ∀ w ∈ wsX30, w ∈ wsX6_isNoWalker := fun _ h => List.mem_cons_of_mem _ (List.mem_append_right _ h)
  have inX6 : ∀ w ∈ wsX60, w ∈ wsX6_isNoWalker := fun _ h => List.mem_cons_of_mem _ (List.mem_append_left _ (List.mem_append_right _ h))
  unfold f6_isNoWalker at hF
  refine lv_iload_n hx hb dX6_isNoWalker_0 rfl (lv_at hl 1 rfl) ?_
  refine lv_if_lt (tgt := 15) hx hb dX6_isNoWalker_1 (by decide) (fun c1 => ?_) (fun c1 => ?_)
  · have hF := zit c1 hF
    refine lv_iconst (v := 1) hx hb dX6_isNoWalker_15 (by decide) ?_
    refine lv_goto (tgt := 20) hx hb dX6_isNoWalker_16 (by decide) ?_
    exact z_rz hx hb hr hlk rfl (congrArg (fun z => some (Value.int z)) hF) dX6_isNoWalker_20
  · have hF := zif c1 hF
    refine lv_iload_n hx hb dX6_isNoWalker_4 rfl (lv_at hl 1 rfl) ?_
    refine lv_aload_n hx hb dX6_isNoWalker_5 rfl (lv_at hl 0 rfl) ?_
    refine z_get (ci := 6) (v := .ref (q (13 + 2))) (C := RX6) (T := TX6) (N := 13) hx hb hts inX6 hown hK hP 0 (cwp_0 g q C) rfl 3 (by decide) (List.mem_of_getElem? (i := 1) rfl) rfl rfl dX6_isNoWalker_6 ?_
    refine z_get (ci := 3) (v := .int (((C.2.2.2.2.2.1).1).1 4)) (C := RX3) (T := TX3) (N := 13) hx hb hts inX3 hown hK hP 15 (cwp_15 g q C) rfl 4 (by decide) (List.mem_of_getElem? (i := 2) rfl) rfl rfl dX6_isNoWalker_9 ?_
    refine lv_icmp_lt (tgt := 19) hx hb dX6_isNoWalker_12 (by decide) (fun c2 => ?_) (fun c2 => ?_)
    · have hF := zit c2 hF
      refine lv_iconst (v := 0) hx hb dX6_isNoWalker_19 (by decide) ?_
      exact z_rz hx hb hr hlk rfl (congrArg (fun z => some (Value.int z)) hF) dX6_isNoWalker_20
    · have hF := zif c2 hF
      refine lv_iconst (v := 1) hx hb dX6_isNoWalker_15 (by decide) ?_
      refine lv_goto (tgt := 20) hx hb dX6_isNoWalker_16 (by decide) ?_
      exact z_rz hx hb hr hlk rfl (congrArg (fun z => some (Value.int z)) hF) dX6_isNoWalker_20
theorem b6_isNoWalker (C : Cs) (x1 : Int32) : narrow .boolean (.int (f6_isNoWalker C x1)) = .int (f6_isNoWalker C x1) := by
  unfold f6_isNoWalker
  repeat' split
  all_goals first | rfl | exact rfl
noncomputable def f6_call (C : Cs) (x1 : Int32) : Option (Int32 × Cs) := if (f6_isNoWalker C x1) = 0 then if (f6_has ((C.1 0).1 5) x1) = 0 then (f5_push (C.2.1, C.2.2.1) (C.1 0)).bind fun P3 => bd (cRo (cRM C P3.1) P3.2) (fun (C5 : Cs) => bd (α := Int32) (f6_cell 4 ((C5.1 0).2 2) x1) (fun (v6 : Int32) => (f2_callBack (C5.1 0) x1).bind fun M7 => bd (cM C5 0 M7) (fun (C8 : Cs) => some (v6, C8)))) else some ((-3), C) else some ((-1), C)
abbrev rmX6_call : Room := { frames := 3, cells := 0, slots := 0, locals := 66 }
set_option maxHeartbeats 4000000 in
set_option maxRecDepth 100000 in
theorem c6_call (l : Launch) (g : zG) (q : Nat → Nat) (C : Cs) (x1 : Int32) (ro : Int32) (C_o : Cs) (hF : f6_call C x1 = some (ro, C_o)) : zRW l g yX6_call wsX6_call rmX6_call [.ref (q 0), .int x1] (CW g q C) (some (.int ro)) (CW g q C_o) := by
  refine zRW_of (cc := cX6_call) (maxL := 3) (ret := (some .int)) (by decide) rfl (Nat.le_of_ble_eq_true rfl) ?_
  intro p e s m args below meth c A H locs ls hx hb hr hml hts hown hlk hK hA hP hD hS hl
  have hown : s.vm.findClass RX6 = some m.cls := hown
  have hl : lv_has ls 3 [(0, .ref (q 0)), (1, .int x1)] := hl
  have inX2 : ∀ w ∈ wsX20, w ∈ wsX6_call := fun _ h => List.mem_cons_of_mem _ (List.mem_append_left _ (List.mem_append_left _ (List.mem_append_right _ h)))
  have inX6 : ∀ w ∈ wsX60, w ∈ wsX6_call := fun _ h => List.mem_cons_of_mem _ (List.mem_append_left _ (List.mem_append_left _ (List.mem_append_left _ (List.mem_append_right _ h))))
  unfold f6_call at hF
  refine lv_aload_n hx hb dX6_call_0 rfl (lv_at hl 0 rfl) ?_
  refine lv_iload_n hx hb dX6_call_1 rfl (lv_at hl 1 rfl) ?_
  refine z_rgo (va_runV (As := [.int x1]) (rest := []) ⟨hx, hb, hml, hown, hts⟩ (c6_isNoWalker l g q C x1) (cwV 1 hts gX6_call_X6_isNoWalker rfl rfl rfl (by decide +kernel) ⟨Nat.le_of_ble_eq_true rfl, Nat.le_of_ble_eq_true rfl⟩) (z_rpreV (ci := 6) (q := (RX6, TX6, 13)) (q0 := 0) hP hK rfl rfl) rfl rfl hl.1 rfl (lv_room (Nat.le_of_ble_eq_true rfl)) dX6_call_2 ⟨Nat.zero_le _, Nat.zero_le _⟩) ?_
  refine lv_if_eq (tgt := 10) hx hb dX6_call_5 (by decide) (fun c1 => ?_) (fun c1 => ?_)
  · have hF := zit c1 hF
    refine lv_aload_n hx hb dX6_call_10 rfl (lv_at hl 0 rfl) ?_
    refine z_get (ci := 6) (v := .ref (q 23)) (C := RX6) (T := TX6) (N := 13) hx hb hts inX6 hown hK hP 0 (cwp_0 g q C) rfl 4 (by decide) (List.mem_of_getElem? (i := 1) rfl) rfl rfl dX6_call_11 ?_
    refine z_get (ci := 2) (v := .int ((C.1 0).1 5)) (C := RX2) (T := TX2) (N := 9) hx hb hts inX2 hown hK hP 23 (cwp_23 g q C) rfl 5 (by decide) (List.mem_of_getElem? (i := 2) rfl) rfl rfl dX6_call_14 ?_
    refine lv_iload_n hx hb dX6_call_17 rfl (lv_at hl 1 rfl) ?_
    refine z_rgo (va_runS (As := [.int ((C.1 0).1 5), .int x1]) (rest := []) ⟨hx, hb, hml, hown, hts⟩ (c6_has l g   ((C.1 0).1 5) x1) (va_cwS 2 hts gX6_call_X6_has rfl rfl rfl (by decide +kernel) ⟨Nat.le_of_ble_eq_true rfl, Nat.le_of_ble_eq_true rfl⟩) (z_rpre z_nil hK) rfl rfl hl.1 rfl (lv_room (Nat.le_of_ble_eq_true rfl)) dX6_call_18 ⟨Nat.zero_le _, Nat.zero_le _⟩) ?_
    refine lv_if_eq (tgt := 27) hx hb dX6_call_21 (by decide) (fun c2 => ?_) (fun c2 => ?_)
    · have hF := zit c2 hF
      refine lv_aload_n hx hb dX6_call_27 rfl (lv_at hl 0 rfl) ?_
      refine z_get (ci := 6) (v := .ref (q 34)) (C := RX6) (T := TX6) (N := 13) hx hb hts inX6 hown hK hP 0 (cwp_0 g q C) rfl 7 (by decide) (List.mem_of_getElem? (i := 3) rfl) rfl rfl dX6_call_28 ?_
      refine lv_aload_n hx hb dX6_call_31 rfl (lv_at hl 0 rfl) ?_
      refine z_get (ci := 6) (v := .ref (q 23)) (C := RX6) (T := TX6) (N := 13) hx hb hts inX6 hown hK hP 0 (cwp_0 g q C) rfl 4 (by decide) (List.mem_of_getElem? (i := 1) rfl) rfl rfl dX6_call_32 ?_
      obtain ⟨X4, hX4⟩ := cw_perm g q C
      obtain ⟨P3, hP3, hF⟩ := zob hF
      refine z_wgoP (wn := CW g q (cRo (cRM C P3.1) P3.2)) (va_runV (As := [.ref (q 23)]) (rest := []) ⟨hx, hb, hml, hown, hts⟩ ((c5_push l g q (C.2.1, C.2.2.1) (C.1 0) P3 hP3) H.size) (cwV 1 hts gX6_call_X5_push rfl rfl rfl (by decide +kernel) ⟨Nat.le_of_ble_eq_true rfl, Nat.le_of_ble_eq_true rfl⟩) (z_wpreV (ci := 5) (q := (RX5, TX5, 2)) (q0 := 0) (zP_left (zP_perm hP (cw_perm0 hX4))) hK (z_any (zD_left (zD_perm hD (cw_perm0 hX4)))) rfl rfl) rfl rfl hl.1 rfl (lv_room (Nat.le_of_ble_eq_true rfl)) dX6_call_35 ⟨Nat.zero_le _, Nat.zero_le _⟩) hP hD hS hA X4 (cw_perm0 hX4) rfl (cw_perm1 hX4 P3) (fun H locs hP hD hS => ?_)
      show W p l e (headSpec wsX6_call rmX6_call).room s m args below meth c H locs 0 0 (MQ below (zWQ g A (CW g q C_o) (some (.int ro))) args s 0 0 A) (F0 m 38 ls [])
      obtain ⟨C5, eC5⟩ : ∃ y : Cs, y = (cRo (cRM C P3.1) P3.2) := ⟨_, rfl⟩
      rw [← eC5] at hP hD
      have hF := bd_eq eC5 hF
      refine lv_aload_n hx hb dX6_call_38 rfl (lv_at hl 0 rfl) ?_
      refine z_get (ci := 6) (v := .ref (q 23)) (C := RX6) (T := TX6) (N := 13) hx hb hts inX6 hown hK hP 0 (cwp_0 g q C5) rfl 4 (by decide) (List.mem_of_getElem? (i := 1) rfl) rfl rfl dX6_call_39 ?_
      refine z_get (ci := 2) (v := .ref (q (23 + 3))) (C := RX2) (T := TX2) (N := 9) hx hb hts inX2 hown hK hP 23 (cwp_23 g q C5) rfl 2 (by decide) (List.mem_of_getElem? (i := 4) rfl) rfl rfl dX6_call_42 ?_
      refine lv_iload_n hx hb dX6_call_45 rfl (lv_at hl 1 rfl) ?_
      refine z_rgo (va_runS (As := [.ref (q (23 + 3)), .int x1]) (rest := []) ⟨hx, hb, hml, hown, hts⟩ (c6_cell l g (q (23 + 3)) 4 (by decide) ((C5.1 0).2 2) x1) (va_cwS 2 hts gX6_call_X6_cell rfl rfl rfl (by decide +kernel) ⟨Nat.le_of_ble_eq_true rfl, Nat.le_of_ble_eq_true rfl⟩) (z_rpre (z_Psub hP _ (cwm_26_1_26 g q C5)) hK) rfl rfl hl.1 rfl (lv_room (Nat.le_of_ble_eq_true rfl)) dX6_call_46 ⟨Nat.zero_le _, Nat.zero_le _⟩) ?_
      refine lv_topi (fun v6 ev6 => ?_)
      have hF := bd_eq ev6 hF
      refine lv_istore_n (lv' := [(2, .int v6), (0, .ref (q 0)), (1, .int x1)]) hx hb dX6_call_49 rfl hl (by decide) rfl (fun ls hl => ?_)
      refine lv_aload_n hx hb dX6_call_50 rfl (lv_at hl 1 rfl) ?_
      refine z_get (ci := 6) (v := .ref (q 23)) (C := RX6) (T := TX6) (N := 13) hx hb hts inX6 hown hK hP 0 (cwp_0 g q C5) rfl 4 (by decide) (List.mem_of_getElem? (i := 1) rfl) rfl rfl dX6_call_51 ?_
      refine lv_iload_n hx hb dX6_call_54 rfl (lv_at hl 2 rfl) ?_
      obtain ⟨M7, hM7, hF⟩ := zob hF
      refine z_wgo (wn := CW g q (cM C5 0 M7)) (va_runV (As := [.int x1]) (rest := []) ⟨hx, hb, hml, hown, hts⟩ ((c2_callBack l g q 23 (C5.1 0) x1  M7 hM7) H.size) (cwV 1 hts gX6_call_X2_callBack rfl rfl rfl (by decide +kernel) ⟨Nat.le_of_ble_eq_true rfl, Nat.le_of_ble_eq_true rfl⟩) (z_wpreV (ci := 2) (q := (RX2, TX2, 9)) (q0 := 0) (z_Psub hP _ (cwm_23_5_27 g q C5)) hK (z_any (hD.sub _ (by decide) (cwm_23_5_27 g q C5))) rfl rfl) rfl rfl hl.1 rfl (lv_room (Nat.le_of_ble_eq_true rfl)) dX6_call_55 ⟨Nat.zero_le _, Nat.zero_le _⟩) hP hD hS hA _ (cwm_23_5_27 g q C5) (by decide) rfl (cww_23_5_27 g q C5 M7) (fun H locs hP hD hS => ?_)
      show W p l e (headSpec wsX6_call rmX6_call).room s m args below meth c H locs 0 0 (MQ below (zWQ g A (CW g q C_o) (some (.int ro))) args s 0 0 A) (F0 m 58 ls [])
      obtain ⟨C8, eC8⟩ : ∃ y : Cs, y = (cM C5 0 M7) := ⟨_, rfl⟩
      rw [← eC8] at hP hD
      have hF := bd_eq eC8 hF
      refine lv_iload_n hx hb dX6_call_58 rfl (lv_at hl 0 rfl) ?_
      obtain ⟨e9a, e9b⟩ := Prod.mk.inj (zin hF)
      exact z_wi hx hb hr hlk hP hD hS (congrArg (fun z => some (Value.int z)) e9a) (by rw [e9b]) dX6_call_59
    · have hF := zif c2 hF
      refine lv_bipush (v := (-3)) hx hb dX6_call_24 (by decide) ?_
      obtain ⟨e9a, e9b⟩ := Prod.mk.inj (zin hF)
      exact z_wi hx hb hr hlk hP hD hS (congrArg (fun z => some (Value.int z)) e9a) (by rw [e9b]) dX6_call_26
  · have hF := zif c1 hF
    refine lv_iconst (v := (-1)) hx hb dX6_call_8 (by decide) ?_
    obtain ⟨e9a, e9b⟩ := Prod.mk.inj (zin hF)
    exact z_wi hx hb hr hlk hP hD hS (congrArg (fun z => some (Value.int z)) e9a) (by rw [e9b]) dX6_call_9
def f6_comes (C : Cs) (x1 : Int32) (x2 : Int32) : Option (Int32 × Cs) := if (f6_isNoWalker C x1) = 0 then if (f6_isNoChoice x2) = 0 then (f2_copy (C.1 1) (C.1 0)).bind fun M3 => bd (cM C 1 M3) (fun (C4 : Cs) => (f2_goUntilOut (C4.1 1) ((C4.2.2.2.2.2.1).1) x1).bind fun (v6, M5) => bd (cM C4 1 M5) (fun (C7 : Cs) => if x2 = 0 then some (v6, C7) else some ((f2_outAt (C7.1 1) x1), C7))) else some ((-2), C) else some ((-1), C)
abbrev rmX6_comes : Room := { frames := 5, cells := 0, slots := 0, locals := 120 }
set_option maxHeartbeats 4000000 in
set_option maxRecDepth 100000 in
theorem c6_comes (l : Launch) (g : zG) (q : Nat → Nat) (C : Cs) (x1 : Int32) (x2 : Int32) (ro : Int32) (C_o : Cs) (hF : f6_comes C x1 x2 = some (ro, C_o)) : zRW l g yX6_comes wsX6_comes rmX6_comes [.ref (q 0), .int x1, .int x2] (CW g q C) (some (.int ro)) (CW g q C_o) := by
  refine zRW_of (cc := cX6_comes) (maxL := 4) (ret := (some .int)) (by decide) rfl (Nat.le_of_ble_eq_true rfl) ?_
  intro p e s m args below meth c A H locs ls hx hb hr hml hts hown hlk hK hA hP hD hS hl
  have hown : s.vm.findClass RX6 = some m.cls := hown
  have hl : lv_has ls 4 [(0, .ref (q 0)), (1, .int x1), (2, .int x2)] := hl
  have inX6 : ∀ w ∈ wsX60, w ∈ wsX6_comes := fun _ h => List.mem_cons_of_mem _ (List.mem_append_left _ (List.mem_append_left _ (List.mem_append_right _ h)))
  unfold f6_comes at hF
  refine lv_aload_n hx hb dX6_comes_0 rfl (lv_at hl 0 rfl) ?_
  refine lv_iload_n hx hb dX6_comes_1 rfl (lv_at hl 1 rfl) ?_
  refine z_rgo (va_runV (As := [.int x1]) (rest := []) ⟨hx, hb, hml, hown, hts⟩ (c6_isNoWalker l g q C x1) (cwV 1 hts gX6_comes_X6_isNoWalker rfl rfl rfl (by decide +kernel) ⟨Nat.le_of_ble_eq_true rfl, Nat.le_of_ble_eq_true rfl⟩) (z_rpreV (ci := 6) (q := (RX6, TX6, 13)) (q0 := 0) hP hK rfl rfl) rfl rfl hl.1 rfl (lv_room (Nat.le_of_ble_eq_true rfl)) dX6_comes_2 ⟨Nat.zero_le _, Nat.zero_le _⟩) ?_
  refine lv_if_eq (tgt := 10) hx hb dX6_comes_5 (by decide) (fun c1 => ?_) (fun c1 => ?_)
  · have hF := zit c1 hF
    refine lv_iload_n hx hb dX6_comes_10 rfl (lv_at hl 2 rfl) ?_
    refine z_rgo (va_runS (As := [.int x2]) (rest := []) ⟨hx, hb, hml, hown, hts⟩ (c6_isNoChoice l g   x2) (va_cwS 1 hts gX6_comes_X6_isNoChoice rfl rfl rfl (by decide +kernel) ⟨Nat.le_of_ble_eq_true rfl, Nat.le_of_ble_eq_true rfl⟩) (z_rpre z_nil hK) rfl rfl hl.1 rfl (lv_room (Nat.le_of_ble_eq_true rfl)) dX6_comes_11 ⟨Nat.zero_le _, Nat.zero_le _⟩) ?_
    refine lv_if_eq (tgt := 20) hx hb dX6_comes_14 (by decide) (fun c2 => ?_) (fun c2 => ?_)
    · have hF := zit c2 hF
      refine lv_aload_n hx hb dX6_comes_20 rfl (lv_at hl 0 rfl) ?_
      refine z_get (ci := 6) (v := .ref (q 28)) (C := RX6) (T := TX6) (N := 13) hx hb hts inX6 hown hK hP 0 (cwp_0 g q C) rfl 5 (by decide) (List.mem_of_getElem? (i := 1) rfl) rfl rfl dX6_comes_21 ?_
      refine lv_aload_n hx hb dX6_comes_24 rfl (lv_at hl 0 rfl) ?_
      refine z_get (ci := 6) (v := .ref (q 23)) (C := RX6) (T := TX6) (N := 13) hx hb hts inX6 hown hK hP 0 (cwp_0 g q C) rfl 4 (by decide) (List.mem_of_getElem? (i := 2) rfl) rfl rfl dX6_comes_25 ?_
      obtain ⟨M3, hM3, hF⟩ := zob hF
      refine z_wgo (wn := CW g q (cM C 1 M3)) (va_runV (As := [.ref (q 23)]) (rest := []) ⟨hx, hb, hml, hown, hts⟩ ((c2_copy l g q 28 q 23 (C.1 1) (C.1 0)   M3 hM3) H.size) (cwV 1 hts gX6_comes_X2_copy rfl rfl rfl (by decide +kernel) ⟨Nat.le_of_ble_eq_true rfl, Nat.le_of_ble_eq_true rfl⟩) (z_wpreV (ci := 2) (q := (RX2, TX2, 9)) (q0 := 0) (z_Psub hP _ (cwm_28_10_27 g q C)) hK (z_any (hD.sub _ (by decide) (cwm_28_10_27 g q C))) rfl rfl) rfl rfl hl.1 rfl (lv_room (Nat.le_of_ble_eq_true rfl)) dX6_comes_28 ⟨Nat.zero_le _, Nat.zero_le _⟩) hP hD hS hA _ (cwm_28_10_27 g q C) (by decide) rfl (cww_28_10_27 g q C M3) (fun H locs hP hD hS => ?_)
      show W p l e (headSpec wsX6_comes rmX6_comes).room s m args below meth c H locs 0 0 (MQ below (zWQ g A (CW g q C_o) (some (.int ro))) args s 0 0 A) (F0 m 31 ls [])
      obtain ⟨C4, eC4⟩ : ∃ y : Cs, y = (cM C 1 M3) := ⟨_, rfl⟩
      rw [← eC4] at hP hD
      have hF := bd_eq eC4 hF
      refine lv_aload_n hx hb dX6_comes_31 rfl (lv_at hl 0 rfl) ?_
      refine z_get (ci := 6) (v := .ref (q 28)) (C := RX6) (T := TX6) (N := 13) hx hb hts inX6 hown hK hP 0 (cwp_0 g q C4) rfl 5 (by decide) (List.mem_of_getElem? (i := 1) rfl) rfl rfl dX6_comes_32 ?_
      refine lv_iload_n hx hb dX6_comes_35 rfl (lv_at hl 1 rfl) ?_
      refine lv_aload_n hx hb dX6_comes_36 rfl (lv_at hl 0 rfl) ?_
      refine z_get (ci := 6) (v := .ref (q (13 + 2))) (C := RX6) (T := TX6) (N := 13) hx hb hts inX6 hown hK hP 0 (cwp_0 g q C4) rfl 3 (by decide) (List.mem_of_getElem? (i := 3) rfl) rfl rfl dX6_comes_37 ?_
      obtain ⟨⟨v6, M5⟩, hM5, hF⟩ := zob hF
      refine z_wgo (wn := CW g q (cM C4 1 M5)) (va_runV (As := [.int x1, .ref (q (13 + 2))]) (rest := []) ⟨hx, hb, hml, hown, hts⟩ ((c2_goUntilOut l g q 28 q (13 + 2) (C4.1 1) ((C4.2.2.2.2.2.1).1) x1 v6  M5 hM5) H.size) (cwV 2 hts gX6_comes_X2_goUntilOut rfl rfl rfl (by decide +kernel) ⟨Nat.le_of_ble_eq_true rfl, Nat.le_of_ble_eq_true rfl⟩) (z_wpreV (ci := 2) (q := (RX2, TX2, 9)) (q0 := 0) (z_Psub hP _ (cwm_28_13_22 g q C4)) hK (z_any (hD.sub _ (by decide) (cwm_28_13_22 g q C4))) rfl rfl) rfl rfl hl.1 rfl (lv_room (Nat.le_of_ble_eq_true rfl)) dX6_comes_40 ⟨Nat.zero_le _, Nat.zero_le _⟩) hP hD hS hA _ (cwm_28_13_22 g q C4) (by decide) rfl (cww_28_13_22 g q C4 M5) (fun H locs hP hD hS => ?_)
      show W p l e (headSpec wsX6_comes rmX6_comes).room s m args below meth c H locs 0 0 (MQ below (zWQ g A (CW g q C_o) (some (.int ro))) args s 0 0 A) (F0 m 43 ls [.int v6])
      obtain ⟨C7, eC7⟩ : ∃ y : Cs, y = (cM C4 1 M5) := ⟨_, rfl⟩
      rw [← eC7] at hP hD
      have hF := bd_eq eC7 hF
      refine lv_istore_n (lv' := [(3, .int v6), (0, .ref (q 0)), (1, .int x1), (2, .int x2)]) hx hb dX6_comes_43 rfl hl (by decide) rfl (fun ls hl => ?_)
      refine lv_iload_n hx hb dX6_comes_44 rfl (lv_at hl 3 rfl) ?_
      refine lv_if_ne (tgt := 52) hx hb dX6_comes_45 (by decide) (fun c8 => ?_) (fun c8 => ?_)
      · have hF := zif c8 hF
        refine lv_aload_n hx hb dX6_comes_52 rfl (lv_at hl 1 rfl) ?_
        refine z_get (ci := 6) (v := .ref (q 28)) (C := RX6) (T := TX6) (N := 13) hx hb hts inX6 hown hK hP 0 (cwp_0 g q C7) rfl 5 (by decide) (List.mem_of_getElem? (i := 1) rfl) rfl rfl dX6_comes_53 ?_
        refine lv_iload_n hx hb dX6_comes_56 rfl (lv_at hl 2 rfl) ?_
        refine z_rgo (va_runV (As := [.int x1]) (rest := []) ⟨hx, hb, hml, hown, hts⟩ (c2_outAt l g q 28 (C7.1 1) x1) (cwV 1 hts gX6_comes_X2_outAt rfl rfl rfl (by decide +kernel) ⟨Nat.le_of_ble_eq_true rfl, Nat.le_of_ble_eq_true rfl⟩) (z_rpreV (ci := 2) (q := (RX2, TX2, 9)) (q0 := 0) (z_Psub hP _ (cwm_28_5_32 g q C7)) hK rfl rfl) rfl rfl hl.1 rfl (lv_room (Nat.le_of_ble_eq_true rfl)) dX6_comes_57 ⟨Nat.zero_le _, Nat.zero_le _⟩) ?_
        obtain ⟨e9a, e9b⟩ := Prod.mk.inj (zin hF)
        exact z_wi hx hb hr hlk hP hD hS (congrArg (fun z => some (Value.int z)) e9a) (by rw [e9b]) dX6_comes_60
      · have hF := zit c8 hF
        refine lv_iload_n hx hb dX6_comes_48 rfl (lv_at hl 0 rfl) ?_
        refine lv_goto (tgt := 60) hx hb dX6_comes_49 (by decide) ?_
        obtain ⟨e9a, e9b⟩ := Prod.mk.inj (zin hF)
        exact z_wi hx hb hr hlk hP hD hS (congrArg (fun z => some (Value.int z)) e9a) (by rw [e9b]) dX6_comes_60
    · have hF := zif c2 hF
      refine lv_bipush (v := (-2)) hx hb dX6_comes_17 (by decide) ?_
      obtain ⟨e9a, e9b⟩ := Prod.mk.inj (zin hF)
      exact z_wi hx hb hr hlk hP hD hS (congrArg (fun z => some (Value.int z)) e9a) (by rw [e9b]) dX6_comes_19
  · have hF := zif c1 hF
    refine lv_iconst (v := (-1)) hx hb dX6_comes_8 (by decide) ?_
    obtain ⟨e9a, e9b⟩ := Prod.mk.inj (zin hF)
    exact z_wi hx hb hr hlk hP hD hS (congrArg (fun z => some (Value.int z)) e9a) (by rw [e9b]) dX6_comes_9
def f6_commonDivisor_l7 : Nat → Int32 → Int32 → Int32 → Option (Int32)
  | 0, _, _, _ => none
  | n7 + 1, y1, y2, y3 => if 64 ≤ y3 then some y1 else if y2 = 0 then some y1 else (zrm y1 y2).bind fun v6 => f6_commonDivisor_l7 n7 y2 v6 (y3 + 1)
def f6_commonDivisor (x0 : Int32) (x1 : Int32) : Option (Int32) := f6_commonDivisor_l7 FU x0 x1 0
abbrev rmX6_commonDivisor : Room := { frames := 0, cells := 0, slots := 0, locals := 0 }
set_option maxHeartbeats 4000000 in
set_option maxRecDepth 100000 in
theorem c6_commonDivisor (l : Launch) (g : zG)  (x0 : Int32) (x1 : Int32) (ro : Int32) (hF : f6_commonDivisor x0 x1 = some ro) : zRO l g yX6_commonDivisor wsX6_commonDivisor rmX6_commonDivisor [.int x0, .int x1] [] (some (.int ro)) := by
  refine zRO_of (cc := cX6_commonDivisor) (maxL := 6) (ret := (some .int)) (by decide) rfl (Nat.le_of_ble_eq_true rfl) ?_
  intro p e s m args below meth c ls hx hb hr hml hts hown hlk hK hP hl
  have hown : s.vm.findClass RX6 = some m.cls := hown
  have hl : lv_has ls 6 [(0, .int x0), (1, .int x1)] := hl
  unfold f6_commonDivisor at hF
  refine lv_iload_n hx hb dX6_commonDivisor_0 rfl (lv_at hl 0 rfl) ?_
  refine lv_istore_n (lv' := [(2, .int x0), (0, .int x0), (1, .int x1)]) hx hb dX6_commonDivisor_1 rfl hl (by decide) rfl (fun ls hl => ?_)
  refine lv_iload_n hx hb dX6_commonDivisor_2 rfl (lv_at hl 2 rfl) ?_
  refine lv_istore_n (lv' := [(3, .int x1), (2, .int x0), (0, .int x0), (1, .int x1)]) hx hb dX6_commonDivisor_3 rfl hl (by decide) rfl (fun ls hl => ?_)
  refine lv_iconst (v := 0) hx hb dX6_commonDivisor_4 (by decide) ?_
  refine lv_istore (lv' := [(4, .int 0), (3, .int x1), (2, .int x0), (0, .int x0), (1, .int x1)]) hx hb dX6_commonDivisor_5 hl (by decide) rfl (fun ls hl => ?_)
  have L7 : ∀ (n7 : Nat) (y1 : Int32) (y2 : Int32) (y3 : Int32) (ls : Array Slot), f6_commonDivisor_l7 n7 y1 y2 y3 = some ro → lv_has ls 6 [(2, .int y1), (3, .int y2), (4, .int y3)] → W p l e (headSpec wsX6_commonDivisor rmX6_commonDivisor).room s m args below meth c s.heap [] 0 0 (MQ below (zRQ (some (.int ro))) args s 0 0 (fun _ => False)) (F0 m 7 ls []) := by
    intro n7
    induction n7 with
    | zero =>
      intro y1 y2 y3 ls hF hl
      exact absurd (show (none : Option (Int32)) = some _ from hF) (fun h9 => by cases h9)
    | succ n7 ih7 =>
      intro y1 y2 y3 ls hF hl
      rw [f6_commonDivisor_l7] at hF
      refine lv_iload hx hb dX6_commonDivisor_7 (lv_at hl 2 rfl) ?_
      refine lv_bipush (v := 64) hx hb dX6_commonDivisor_9 (by decide) ?_
      refine lv_icmp_ge (tgt := 34) hx hb dX6_commonDivisor_11 (by decide) (fun c4 => ?_) (fun c4 => ?_)
      · have hF := zit c4 hF
        refine lv_iload_n hx hb dX6_commonDivisor_34 rfl (lv_at hl 0 rfl) ?_
        have e9a := zin hF
        exact z_ri hx hb hr hlk (congrArg (fun z => some (Value.int z)) e9a) dX6_commonDivisor_35
      · have hF := zif c4 hF
        refine lv_iload_n hx hb dX6_commonDivisor_14 rfl (lv_at hl 1 rfl) ?_
        refine lv_if_eq (tgt := 34) hx hb dX6_commonDivisor_15 (by decide) (fun c5 => ?_) (fun c5 => ?_)
        · have hF := zit c5 hF
          refine lv_iload_n hx hb dX6_commonDivisor_34 rfl (lv_at hl 0 rfl) ?_
          have e9a := zin hF
          exact z_ri hx hb hr hlk (congrArg (fun z => some (Value.int z)) e9a) dX6_commonDivisor_35
        · have hF := zif c5 hF
          refine lv_iload_n hx hb dX6_commonDivisor_18 rfl (lv_at hl 0 rfl) ?_
          refine lv_iload_n hx hb dX6_commonDivisor_19 rfl (lv_at hl 1 rfl) ?_
          obtain ⟨v6, hv6, hF⟩ := zob hF
          refine z_irem hx hb dX6_commonDivisor_20 hv6 ?_
          refine lv_istore (lv' := [(5, .int v6), (2, .int y1), (3, .int y2), (4, .int y3)]) hx hb dX6_commonDivisor_21 hl (by decide) rfl (fun ls hl => ?_)
          refine lv_iload_n hx hb dX6_commonDivisor_23 rfl (lv_at hl 2 rfl) ?_
          refine lv_istore_n (lv' := [(2, .int y2), (5, .int v6), (3, .int y2), (4, .int y3)]) hx hb dX6_commonDivisor_24 rfl hl (by decide) rfl (fun ls hl => ?_)
          refine lv_iload hx hb dX6_commonDivisor_25 (lv_at hl 1 rfl) ?_
          refine lv_istore_n (lv' := [(3, .int v6), (2, .int y2), (5, .int v6), (4, .int y3)]) hx hb dX6_commonDivisor_27 rfl hl (by decide) rfl (fun ls hl => ?_)
          refine lv_iinc (v := (y3 + 1)) (lv' := [(4, .int (y3 + 1)), (3, .int v6), (2, .int y2), (5, .int v6)]) hx hb dX6_commonDivisor_28 hl (k := 3) rfl rfl (by decide) rfl (fun ls hl => ?_)
          refine lv_goto (tgt := 7) hx hb dX6_commonDivisor_31 (by decide) ?_
          exact ih7 y2 v6 (y3 + 1) ls hF (lv_sub hl [2, 1, 0] rfl)
  exact L7 FU x0 x1 0 ls hF (lv_sub hl [2, 1, 0] rfl)
def f6_count (C : Cs) (x1 : Int32) : Option (Int32) := if x1 = 0 then some ((C.2.2.2.1).2) else if x1 = 1 then some (((C.2.2.2.2.2.1).1).1 2) else if x1 = 2 then some (((C.2.2.2.2.2.1).1).1 3) else if x1 = 3 then some (((C.2.2.2.2.2.1).1).1 4) else if x1 = 4 then some ((C.1 0).1 8) else if x1 = 5 then some (f3_tide ((C.2.2.2.2.2.1).1) ((C.1 0).1 8)) else if x1 = 6 then some ((C.1 0).1 5) else if x1 = 7 then (f2_right (C.1 0) ((C.2.2.2.2.2.1).1)).bind fun v9 => some v9 else if x1 = 8 then some (C.2.2.1.2) else if x1 = 9 then some ((C.2.2.2.2.2.2.2.1).2) else some (-2)
abbrev rmX6_count : Room := { frames := 3, cells := 0, slots := 0, locals := 66 }
set_option maxHeartbeats 4000000 in
set_option maxRecDepth 100000 in
theorem c6_count (l : Launch) (g : zG) (q : Nat → Nat) (C : Cs) (x1 : Int32) (ro : Int32) (hF : f6_count C x1 = some ro) : zRO l g yX6_count wsX6_count rmX6_count [.ref (q 0), .int x1] (CW g q C) (some (.int ro)) := by
  refine zRO_of (cc := cX6_count) (maxL := 2) (ret := (some .int)) (by decide) rfl (Nat.le_of_ble_eq_true rfl) ?_
  intro p e s m args below meth c ls hx hb hr hml hts hown hlk hK hP hl
  have hown : s.vm.findClass RX6 = some m.cls := hown
  have hl : lv_has ls 2 [(0, .ref (q 0)), (1, .int x1)] := hl
  have inX0 : ∀ w ∈ wsX00, w ∈ wsX6_count := fun _ h => List.mem_cons_of_mem _ (List.mem_append_right _ h)
  have inX1 : ∀ w ∈ wsX10, w ∈ wsX6_count := fun _ h => List.mem_cons_of_mem _ (List.mem_append_left _ (List.mem_append_left _ (List.mem_append_left _ (List.mem_append_left _ (List.mem_append_right _ h)))))
  have inX2 : ∀ w ∈ wsX20, w ∈ wsX6_count := fun _ h => List.mem_cons_of_mem _ (List.mem_append_left _ (List.mem_append_left _ (List.mem_append_right _ h)))
  have inX3 : ∀ w ∈ wsX30, w ∈ wsX6_count := fun _ h => List.mem_cons_of_mem _ (List.mem_append_left _ (List.mem_append_left _ (List.mem_append_left _ (List.mem_append_right _ h))))
  have inX5 : ∀ w ∈ wsX50, w ∈ wsX6_count := fun _ h => List.mem_cons_of_mem _ (List.mem_append_left _ (List.mem_append_right _ h))
  have inX6 : ∀ w ∈ wsX60, w ∈ wsX6_count := fun _ h => List.mem_cons_of_mem _ (List.mem_append_left _ (List.mem_append_left _ (List.mem_append_left _ (List.mem_append_left _ (List.mem_append_left _ (List.mem_append_right _ h))))))
  unfold f6_count at hF
  refine lv_iload_n hx hb dX6_count_0 rfl (lv_at hl 1 rfl) ?_
  by_cases c1 : x1 = 0
  · have hF := zit c1 hF
    refine z_tin (k := 0) (tgt := 56) hx hb dX6_count_1 c1 ⟨by decide, by decide, rfl, by decide⟩ ?_
    refine lv_aload_n hx hb dX6_count_56 rfl (lv_at hl 0 rfl) ?_
    refine z_get (ci := 6) (v := .ref (q 1)) (C := RX6) (T := TX6) (N := 13) hx hb hts inX6 hown hK hP 0 (cwp_0 g q C) rfl 0 (by decide) (List.mem_of_getElem? (i := 1) rfl) rfl rfl dX6_count_57 ?_
    refine z_get (ci := 1) (v := .int ((C.2.2.2.1).2)) (C := RX1) (T := TX1) (N := 2) hx hb hts inX1 hown hK hP 1 (cwp_1 g q C) rfl 1 (by decide) (List.mem_of_getElem? (i := 2) rfl) rfl rfl dX6_count_60 ?_
    have e9a := zin hF
    exact z_ri hx hb hr hlk (congrArg (fun z => some (Value.int z)) e9a) dX6_count_63
  · have hF := zif c1 hF
    by_cases c2 : x1 = 1
    · have hF := zit c2 hF
      refine z_tin (k := 1) (tgt := 64) hx hb dX6_count_1 c2 ⟨by decide, by decide, rfl, by decide⟩ ?_
      refine lv_aload_n hx hb dX6_count_64 rfl (lv_at hl 0 rfl) ?_
      refine z_get (ci := 6) (v := .ref (q (13 + 2))) (C := RX6) (T := TX6) (N := 13) hx hb hts inX6 hown hK hP 0 (cwp_0 g q C) rfl 3 (by decide) (List.mem_of_getElem? (i := 3) rfl) rfl rfl dX6_count_65 ?_
      refine z_get (ci := 3) (v := .int (((C.2.2.2.2.2.1).1).1 2)) (C := RX3) (T := TX3) (N := 13) hx hb hts inX3 hown hK hP 15 (cwp_15 g q C) rfl 2 (by decide) (List.mem_of_getElem? (i := 4) rfl) rfl rfl dX6_count_68 ?_
      have e9a := zin hF
      exact z_ri hx hb hr hlk (congrArg (fun z => some (Value.int z)) e9a) dX6_count_71
    · have hF := zif c2 hF
      by_cases c3 : x1 = 2
      · have hF := zit c3 hF
        refine z_tin (k := 2) (tgt := 72) hx hb dX6_count_1 c3 ⟨by decide, by decide, rfl, by decide⟩ ?_
        refine lv_aload_n hx hb dX6_count_72 rfl (lv_at hl 0 rfl) ?_
        refine z_get (ci := 6) (v := .ref (q (13 + 2))) (C := RX6) (T := TX6) (N := 13) hx hb hts inX6 hown hK hP 0 (cwp_0 g q C) rfl 3 (by decide) (List.mem_of_getElem? (i := 3) rfl) rfl rfl dX6_count_73 ?_
        refine z_get (ci := 3) (v := .int (((C.2.2.2.2.2.1).1).1 3)) (C := RX3) (T := TX3) (N := 13) hx hb hts inX3 hown hK hP 15 (cwp_15 g q C) rfl 3 (by decide) (List.mem_of_getElem? (i := 5) rfl) rfl rfl dX6_count_76 ?_
        have e9a := zin hF
        exact z_ri hx hb hr hlk (congrArg (fun z => some (Value.int z)) e9a) dX6_count_79
      · have hF := zif c3 hF
        by_cases c4 : x1 = 3
        · have hF := zit c4 hF
          refine z_tin (k := 3) (tgt := 80) hx hb dX6_count_1 c4 ⟨by decide, by decide, rfl, by decide⟩ ?_
          refine lv_aload_n hx hb dX6_count_80 rfl (lv_at hl 0 rfl) ?_
          refine z_get (ci := 6) (v := .ref (q (13 + 2))) (C := RX6) (T := TX6) (N := 13) hx hb hts inX6 hown hK hP 0 (cwp_0 g q C) rfl 3 (by decide) (List.mem_of_getElem? (i := 3) rfl) rfl rfl dX6_count_81 ?_
          refine z_get (ci := 3) (v := .int (((C.2.2.2.2.2.1).1).1 4)) (C := RX3) (T := TX3) (N := 13) hx hb hts inX3 hown hK hP 15 (cwp_15 g q C) rfl 4 (by decide) (List.mem_of_getElem? (i := 6) rfl) rfl rfl dX6_count_84 ?_
          have e9a := zin hF
          exact z_ri hx hb hr hlk (congrArg (fun z => some (Value.int z)) e9a) dX6_count_87
        · have hF := zif c4 hF
          by_cases c5 : x1 = 4
          · have hF := zit c5 hF
            refine z_tin (k := 4) (tgt := 88) hx hb dX6_count_1 c5 ⟨by decide, by decide, rfl, by decide⟩ ?_
            refine lv_aload_n hx hb dX6_count_88 rfl (lv_at hl 0 rfl) ?_
            refine z_get (ci := 6) (v := .ref (q 23)) (C := RX6) (T := TX6) (N := 13) hx hb hts inX6 hown hK hP 0 (cwp_0 g q C) rfl 4 (by decide) (List.mem_of_getElem? (i := 7) rfl) rfl rfl dX6_count_89 ?_
            refine z_get (ci := 2) (v := .int ((C.1 0).1 8)) (C := RX2) (T := TX2) (N := 9) hx hb hts inX2 hown hK hP 23 (cwp_23 g q C) rfl 8 (by decide) (List.mem_of_getElem? (i := 8) rfl) rfl rfl dX6_count_92 ?_
            have e9a := zin hF
            exact z_ri hx hb hr hlk (congrArg (fun z => some (Value.int z)) e9a) dX6_count_95
          · have hF := zif c5 hF
            by_cases c6 : x1 = 5
            · have hF := zit c6 hF
              refine z_tin (k := 5) (tgt := 96) hx hb dX6_count_1 c6 ⟨by decide, by decide, rfl, by decide⟩ ?_
              refine lv_aload_n hx hb dX6_count_96 rfl (lv_at hl 0 rfl) ?_
              refine z_get (ci := 6) (v := .ref (q (13 + 2))) (C := RX6) (T := TX6) (N := 13) hx hb hts inX6 hown hK hP 0 (cwp_0 g q C) rfl 3 (by decide) (List.mem_of_getElem? (i := 3) rfl) rfl rfl dX6_count_97 ?_
              refine lv_aload_n hx hb dX6_count_100 rfl (lv_at hl 0 rfl) ?_
              refine z_get (ci := 6) (v := .ref (q 23)) (C := RX6) (T := TX6) (N := 13) hx hb hts inX6 hown hK hP 0 (cwp_0 g q C) rfl 4 (by decide) (List.mem_of_getElem? (i := 7) rfl) rfl rfl dX6_count_101 ?_
              refine z_get (ci := 2) (v := .int ((C.1 0).1 8)) (C := RX2) (T := TX2) (N := 9) hx hb hts inX2 hown hK hP 23 (cwp_23 g q C) rfl 8 (by decide) (List.mem_of_getElem? (i := 8) rfl) rfl rfl dX6_count_104 ?_
              refine z_rgo (va_runV (As := [.int ((C.1 0).1 8)]) (rest := []) ⟨hx, hb, hml, hown, hts⟩ (c3_tide l g q (13 + 2) ((C.2.2.2.2.2.1).1) ((C.1 0).1 8)) (cwV 1 hts gX6_count_X3_tide rfl rfl rfl (by decide +kernel) ⟨Nat.le_of_ble_eq_true rfl, Nat.le_of_ble_eq_true rfl⟩) (z_rpreV (ci := 3) (q := (RX3, TX3, 13)) (q0 := 0) (z_Psub hP _ (cwm_15_8_22 g q C)) hK rfl rfl) rfl rfl hl.1 rfl (lv_room (Nat.le_of_ble_eq_true rfl)) dX6_count_107 ⟨Nat.zero_le _, Nat.zero_le _⟩) ?_
              have e9a := zin hF
              exact z_ri hx hb hr hlk (congrArg (fun z => some (Value.int z)) e9a) dX6_count_110
            · have hF := zif c6 hF
              by_cases c7 : x1 = 6
              · have hF := zit c7 hF
                refine z_tin (k := 6) (tgt := 111) hx hb dX6_count_1 c7 ⟨by decide, by decide, rfl, by decide⟩ ?_
                refine lv_aload_n hx hb dX6_count_111 rfl (lv_at hl 0 rfl) ?_
                refine z_get (ci := 6) (v := .ref (q 23)) (C := RX6) (T := TX6) (N := 13) hx hb hts inX6 hown hK hP 0 (cwp_0 g q C) rfl 4 (by decide) (List.mem_of_getElem? (i := 7) rfl) rfl rfl dX6_count_112 ?_
                refine z_get (ci := 2) (v := .int ((C.1 0).1 5)) (C := RX2) (T := TX2) (N := 9) hx hb hts inX2 hown hK hP 23 (cwp_23 g q C) rfl 5 (by decide) (List.mem_of_getElem? (i := 9) rfl) rfl rfl dX6_count_115 ?_
                have e9a := zin hF
                exact z_ri hx hb hr hlk (congrArg (fun z => some (Value.int z)) e9a) dX6_count_118
              · have hF := zif c7 hF
                by_cases c8 : x1 = 7
                · have hF := zit c8 hF
                  refine z_tin (k := 7) (tgt := 119) hx hb dX6_count_1 c8 ⟨by decide, by decide, rfl, by decide⟩ ?_
                  refine lv_aload_n hx hb dX6_count_119 rfl (lv_at hl 0 rfl) ?_
                  refine z_get (ci := 6) (v := .ref (q 23)) (C := RX6) (T := TX6) (N := 13) hx hb hts inX6 hown hK hP 0 (cwp_0 g q C) rfl 4 (by decide) (List.mem_of_getElem? (i := 7) rfl) rfl rfl dX6_count_120 ?_
                  refine lv_aload_n hx hb dX6_count_123 rfl (lv_at hl 0 rfl) ?_
                  refine z_get (ci := 6) (v := .ref (q (13 + 2))) (C := RX6) (T := TX6) (N := 13) hx hb hts inX6 hown hK hP 0 (cwp_0 g q C) rfl 3 (by decide) (List.mem_of_getElem? (i := 3) rfl) rfl rfl dX6_count_124 ?_
                  obtain ⟨v9, hv9, hF⟩ := zob hF
                  refine z_rgo (va_runV (As := [.ref (q (13 + 2))]) (rest := []) ⟨hx, hb, hml, hown, hts⟩ (c2_right l g q 23 q (13 + 2) (C.1 0) ((C.2.2.2.2.2.1).1)  v9 hv9) (cwV 1 hts gX6_count_X2_right rfl rfl rfl (by decide +kernel) ⟨Nat.le_of_ble_eq_true rfl, Nat.le_of_ble_eq_true rfl⟩) (z_rpreV (ci := 2) (q := (RX2, TX2, 9)) (q0 := 0) (z_Psub hP _ (cwm_23_13_22 g q C)) hK rfl rfl) rfl rfl hl.1 rfl (lv_room (Nat.le_of_ble_eq_true rfl)) dX6_count_127 ⟨Nat.zero_le _, Nat.zero_le _⟩) ?_
                  have e9a := zin hF
                  exact z_ri hx hb hr hlk (congrArg (fun z => some (Value.int z)) e9a) dX6_count_130
                · have hF := zif c8 hF
                  by_cases c10 : x1 = 8
                  · have hF := zit c10 hF
                    refine z_tin (k := 8) (tgt := 131) hx hb dX6_count_1 c10 ⟨by decide, by decide, rfl, by decide⟩ ?_
                    refine lv_aload_n hx hb dX6_count_131 rfl (lv_at hl 0 rfl) ?_
                    refine z_get (ci := 6) (v := .ref (q 34)) (C := RX6) (T := TX6) (N := 13) hx hb hts inX6 hown hK hP 0 (cwp_0 g q C) rfl 7 (by decide) (List.mem_of_getElem? (i := 10) rfl) rfl rfl dX6_count_132 ?_
                    refine z_get (ci := 5) (v := .int (C.2.2.1.2)) (C := RX5) (T := TX5) (N := 2) hx hb hts inX5 hown hK hP 34 (cwp_34 g q C) rfl 1 (by decide) (List.mem_of_getElem? (i := 11) rfl) rfl rfl dX6_count_135 ?_
                    have e9a := zin hF
                    exact z_ri hx hb hr hlk (congrArg (fun z => some (Value.int z)) e9a) dX6_count_138
                  · have hF := zif c10 hF
                    by_cases c11 : x1 = 9
                    · have hF := zit c11 hF
                      refine z_tin (k := 9) (tgt := 139) hx hb dX6_count_1 c11 ⟨by decide, by decide, rfl, by decide⟩ ?_
                      refine lv_aload_n hx hb dX6_count_139 rfl (lv_at hl 0 rfl) ?_
                      refine z_get (ci := 6) (v := .ref (q 46)) (C := RX6) (T := TX6) (N := 13) hx hb hts inX6 hown hK hP 0 (cwp_0 g q C) rfl 10 (by decide) (List.mem_of_getElem? (i := 12) rfl) rfl rfl dX6_count_140 ?_
                      refine z_get (ci := 0) (v := .int ((C.2.2.2.2.2.2.2.1).2)) (C := RX0) (T := TX0) (N := 4) hx hb hts inX0 hown hK hP 46 (cwp_46 g q C) rfl 3 (by decide) (List.mem_of_getElem? (i := 13) rfl) rfl rfl dX6_count_143 ?_
                      have e9a := zin hF
                      exact z_ri hx hb hr hlk (congrArg (fun z => some (Value.int z)) e9a) dX6_count_146
                    · have hF := zif c11 hF
                      refine z_tout hx hb dX6_count_1 [0, 1, 2, 3, 4, 5, 6, 7, 8, 9] (fun k hk => ?_) rfl (tgt := 147) (by decide) ?_
                      · simp only [List.mem_cons, List.not_mem_nil, or_false] at hk
                        rcases hk with rfl | rfl | rfl | rfl | rfl | rfl | rfl | rfl | rfl | rfl <;> assumption
                      · refine lv_bipush (v := (-2)) hx hb dX6_count_147 (by decide) ?_
                        have e9a := zin hF
                        exact z_ri hx hb hr hlk (congrArg (fun z => some (Value.int z)) e9a) dX6_count_149
def f6_doingOf_l7 (x2 : Int32) : Nat → Int32 → Int32 → Option (Int32)
  | 0, _, _ => none
  | n7 + 1, y2, y3 => if y3 ≤ x2 then if 0 ≤ x2 then some (y2 - y2 / 100 * 100) else some y2 else bd (α := Int32) (y2 / 100) (fun (v6 : Int32) => f6_doingOf_l7 x2 n7 v6 (y3 + (-1)))
def f6_doingOf (x0 : Int32) (x1 : Int32) (x2 : Int32) : Option (Int32) := bd (α := Int32) (x1 - 1) (fun (v1 : Int32) => f6_doingOf_l7 x2 FU x0 v1)
abbrev rmX6_doingOf : Room := { frames := 0, cells := 0, slots := 0, locals := 0 }
set_option maxHeartbeats 4000000 in
set_option maxRecDepth 100000 in
theorem c6_doingOf (l : Launch) (g : zG)  (x0 : Int32) (x1 : Int32) (x2 : Int32) (ro : Int32) (hF : f6_doingOf x0 x1 x2 = some ro) : zRO l g yX6_doingOf wsX6_doingOf rmX6_doingOf [.int x0, .int x1, .int x2] [] (some (.int ro)) := by
  refine zRO_of (cc := cX6_doingOf) (maxL := 5) (ret := (some .int)) (by decide) rfl (Nat.le_of_ble_eq_true rfl) ?_
  intro p e s m args below meth c ls hx hb hr hml hts hown hlk hK hP hl
  have hown : s.vm.findClass RX6 = some m.cls := hown
  have hl : lv_has ls 5 [(0, .int x0), (1, .int x1), (2, .int x2)] := hl
  unfold f6_doingOf at hF
  refine lv_iload_n hx hb dX6_doingOf_0 rfl (lv_at hl 0 rfl) ?_
  refine lv_istore_n (lv' := [(3, .int x0), (0, .int x0), (1, .int x1), (2, .int x2)]) hx hb dX6_doingOf_1 rfl hl (by decide) rfl (fun ls hl => ?_)
  refine lv_iload_n hx hb dX6_doingOf_2 rfl (lv_at hl 2 rfl) ?_
  refine lv_iconst (v := 1) hx hb dX6_doingOf_3 (by decide) ?_
  refine lv_isub hx hb dX6_doingOf_4 ?_
  refine lv_topi (fun v1 ev1 => ?_)
  have hF := bd_eq ev1 hF
  refine lv_istore (lv' := [(4, .int v1), (3, .int x0), (0, .int x0), (1, .int x1), (2, .int x2)]) hx hb dX6_doingOf_5 hl (by decide) rfl (fun ls hl => ?_)
  have L7 : ∀ (n7 : Nat) (y2 : Int32) (y3 : Int32) (ls : Array Slot), f6_doingOf_l7 x2 n7 y2 y3 = some ro → lv_has ls 5 [(2, .int x2), (3, .int y2), (4, .int y3)] → W p l e (headSpec wsX6_doingOf rmX6_doingOf).room s m args below meth c s.heap [] 0 0 (MQ below (zRQ (some (.int ro))) args s 0 0 (fun _ => False)) (F0 m 7 ls []) := by
    intro n7
    induction n7 with
    | zero =>
      intro y2 y3 ls hF hl
      exact absurd (show (none : Option (Int32)) = some _ from hF) (fun h9 => by cases h9)
    | succ n7 ih7 =>
      intro y2 y3 ls hF hl
      rw [f6_doingOf_l7] at hF
      refine lv_iload hx hb dX6_doingOf_7 (lv_at hl 2 rfl) ?_
      refine lv_iload_n hx hb dX6_doingOf_9 rfl (lv_at hl 0 rfl) ?_
      refine lv_icmp_le (tgt := 24) hx hb dX6_doingOf_10 (by decide) (fun c4 => ?_) (fun c4 => ?_)
      · have hF := zit c4 hF
        refine lv_iload_n hx hb dX6_doingOf_24 rfl (lv_at hl 0 rfl) ?_
        refine lv_if_ge (tgt := 32) hx hb dX6_doingOf_25 (by decide) (fun c5 => ?_) (fun c5 => ?_)
        · have hF := zit c5 hF
          refine lv_iload_n hx hb dX6_doingOf_32 rfl (lv_at hl 1 rfl) ?_
          refine lv_bipush (v := 100) hx hb dX6_doingOf_33 (by decide) ?_
          refine lv_irem hx hb dX6_doingOf_35 (by decide) ?_
          have e9a := zin hF
          exact z_ri hx hb hr hlk (congrArg (fun z => some (Value.int z)) e9a) dX6_doingOf_36
        · have hF := zif c5 hF
          refine lv_iload_n hx hb dX6_doingOf_28 rfl (lv_at hl 1 rfl) ?_
          refine lv_goto (tgt := 36) hx hb dX6_doingOf_29 (by decide) ?_
          have e9a := zin hF
          exact z_ri hx hb hr hlk (congrArg (fun z => some (Value.int z)) e9a) dX6_doingOf_36
      · have hF := zif c4 hF
        refine lv_iload_n hx hb dX6_doingOf_13 rfl (lv_at hl 1 rfl) ?_
        refine lv_bipush (v := 100) hx hb dX6_doingOf_14 (by decide) ?_
        refine lv_idiv hx hb dX6_doingOf_16 (by decide) ?_
        refine lv_topi (fun v6 ev6 => ?_)
        have hF := bd_eq ev6 hF
        refine lv_istore_n (lv' := [(3, .int v6), (2, .int x2), (4, .int y3)]) hx hb dX6_doingOf_17 rfl hl (by decide) rfl (fun ls hl => ?_)
        refine lv_iinc (v := (y3 + (-1))) (lv' := [(4, .int (y3 + (-1))), (3, .int v6), (2, .int x2)]) hx hb dX6_doingOf_18 hl (k := 2) rfl rfl (by decide) rfl (fun ls hl => ?_)
        refine lv_goto (tgt := 7) hx hb dX6_doingOf_21 (by decide) ?_
        exact ih7 v6 (y3 + (-1)) ls hF (lv_sub hl [2, 1, 0] rfl)
  exact L7 FU x0 v1 ls hF (lv_sub hl [4, 1, 0] rfl)
def f6_fault (C : Cs) : Option (Int32 × Cs) := (f4_read (C.2.2.2.2.1) (C.2.2.2.1)).bind fun (v2, R1) => bd (cCk C R1) (fun (C3 : Cs) => some (v2, C3))
abbrev rmX6_fault : Room := { frames := 6, cells := 0, slots := 0, locals := 133 }
set_option maxHeartbeats 4000000 in
set_option maxRecDepth 100000 in
theorem c6_fault (l : Launch) (g : zG) (q : Nat → Nat) (C : Cs) (ro : Int32) (C_o : Cs) (hF : f6_fault C = some (ro, C_o)) : zRW l g yX6_fault wsX6_fault rmX6_fault [.ref (q 0)] (CW g q C) (some (.int ro)) (CW g q C_o) := by
  refine zRW_of (cc := cX6_fault) (maxL := 1) (ret := (some .int)) (by decide) rfl (Nat.le_of_ble_eq_true rfl) ?_
  intro p e s m args below meth c A H locs ls hx hb hr hml hts hown hlk hK hA hP hD hS hl
  have hown : s.vm.findClass RX6 = some m.cls := hown
  have hl : lv_has ls 1 [(0, .ref (q 0))] := hl
  have inX6 : ∀ w ∈ wsX60, w ∈ wsX6_fault := fun _ h => List.mem_cons_of_mem _ (List.mem_append_left _ (List.mem_append_left _ (List.mem_append_left _ (List.mem_append_right _ h))))
  unfold f6_fault at hF
  refine lv_aload_n hx hb dX6_fault_0 rfl (lv_at hl 0 rfl) ?_
  refine z_get (ci := 6) (v := .ref (q 3)) (C := RX6) (T := TX6) (N := 13) hx hb hts inX6 hown hK hP 0 (cwp_0 g q C) rfl 1 (by decide) (List.mem_of_getElem? (i := 1) rfl) rfl rfl dX6_fault_1 ?_
  refine lv_aload_n hx hb dX6_fault_4 rfl (lv_at hl 0 rfl) ?_
  refine z_get (ci := 6) (v := .ref (q 1)) (C := RX6) (T := TX6) (N := 13) hx hb hts inX6 hown hK hP 0 (cwp_0 g q C) rfl 0 (by decide) (List.mem_of_getElem? (i := 2) rfl) rfl rfl dX6_fault_5 ?_
  obtain ⟨⟨v2, R1⟩, hR1, hF⟩ := zob hF
  refine z_wgo (wn := CW g q (cCk C R1)) (va_runV (As := [.ref (q 1)]) (rest := []) ⟨hx, hb, hml, hown, hts⟩ ((c4_read l g q 3 q 1 (C.2.2.2.2.1) (C.2.2.2.1)  v2  R1 hR1) H.size) (cwV 1 hts gX6_fault_X4_read rfl rfl rfl (by decide +kernel) ⟨Nat.le_of_ble_eq_true rfl, Nat.le_of_ble_eq_true rfl⟩) (z_wpreV (ci := 4) (q := (RX4, TX4, 4)) (q0 := 0) (z_Psub hP _ (cwm_3_12_2 g q C)) hK (z_any (hD.sub _ (by decide) (cwm_3_12_2 g q C))) rfl rfl) rfl rfl hl.1 rfl (lv_room (Nat.le_of_ble_eq_true rfl)) dX6_fault_8 ⟨Nat.zero_le _, Nat.zero_le _⟩) hP hD hS hA _ (cwm_3_12_2 g q C) (by decide) rfl (cww_3_12_2 g q C R1) (fun H locs hP hD hS => ?_)
  show W p l e (headSpec wsX6_fault rmX6_fault).room s m args below meth c H locs 0 0 (MQ below (zWQ g A (CW g q C_o) (some (.int ro))) args s 0 0 A) (F0 m 11 ls [.int v2])
  obtain ⟨C3, eC3⟩ : ∃ y : Cs, y = (cCk C R1) := ⟨_, rfl⟩
  rw [← eC3] at hP hD
  have hF := bd_eq eC3 hF
  obtain ⟨e9a, e9b⟩ := Prod.mk.inj (zin hF)
  exact z_wi hx hb hr hlk hP hD hS (congrArg (fun z => some (Value.int z)) e9a) (by rw [e9b]) dX6_fault_11
def f7_fill_53178_l5 (x1 : Int32) : Nat → Int32 → (Nat → Int32) → Option ((Nat → Int32))
  | 0, _, _ => none
  | n5 + 1, y1, f2 => if 4 ≤ y1 then some f2 else (zwr f2 4 y1 x1).bind fun f4 => bd f4 (fun (f5 : (Nat → Int32)) => f7_fill_53178_l5 x1 n5 (y1 + 1) f5)
def f7_fill_53178 (f : (Nat → Int32)) (x1 : Int32) : Option ((Nat → Int32)) := f7_fill_53178_l5 x1 FU 0 f
abbrev rmJ7_fill_53178 : Room := { frames := 0, cells := 0, slots := 0, locals := 0 }
set_option maxHeartbeats 4000000 in
set_option maxRecDepth 100000 in
theorem c7_fill_53178 (l : Launch) (g : zG) (q : Nat → Nat) (b : Nat) (f : (Nat → Int32)) (x1 : Int32) (f_o : (Nat → Int32)) (hF : f7_fill_53178 f x1 = some f_o) : zRW l g yJ7_fill_53178 wsJ7_fill_53178 rmJ7_fill_53178 [.ref (q b), .int x1] (AW4 g q b f) none (AW4 g q b f_o) := by
  refine zRW_of (cc := cJ7_fill_53178) (maxL := 4) (ret := none) (by decide) rfl (Nat.le_of_ble_eq_true rfl) ?_
  intro p e s m args below meth c A H locs ls hx hb hr hml hts hown hlk hK hA hP hD hS hl
  have hown : s.vm.findClass RJ7 = some m.cls := hown
  have hl : lv_has ls 4 [(0, .ref (q b)), (1, .int x1)] := hl
  unfold f7_fill_53178 at hF
  refine lv_iconst (v := 0) hx hb dJ7_fill_53178_0 (by decide) ?_
  refine lv_istore_n (lv' := [(2, .int 0), (0, .ref (q b)), (1, .int x1)]) hx hb dJ7_fill_53178_1 rfl hl (by decide) rfl (fun ls hl => ?_)
  refine lv_aload_n hx hb dJ7_fill_53178_2 rfl (lv_at hl 1 rfl) ?_
  refine va_alen (v := 4) hx hb hK.1 hP 0 0 rfl rfl rfl dJ7_fill_53178_3 ?_
  refine lv_istore_n (lv' := [(3, .int 4), (2, .int 0), (0, .ref (q b)), (1, .int x1)]) hx hb dJ7_fill_53178_4 rfl hl (by decide) rfl (fun ls hl => ?_)
  have L5 : ∀ (n5 : Nat) (y1 : Int32) (f2 : (Nat → Int32)) (H : Heap) (locs : List Loc) (ls : Array Slot), f7_fill_53178_l5 x1 n5 y1 f2 = some f_o → va_P (zD g) vwCl (AW4 g q b f2) H → va_D A (AW4 g q b f2) → va_S A s.heap H locs → lv_has ls 4 [(0, .ref (q b)), (1, .int x1), (2, .int y1), (3, .int 4)] → W p l e (headSpec wsJ7_fill_53178 rmJ7_fill_53178).room s m args below meth c H locs 0 0 (MQ below (zWQ g A (AW4 g q b f_o) none) args s 0 0 A) (F0 m 5 ls []) := by
    intro n5
    induction n5 with
    | zero =>
      intro y1 f2 H locs ls hF hP hD hS hl
      exact absurd (show (none : Option ((Nat → Int32))) = some _ from hF) (fun h9 => by cases h9)
    | succ n5 ih5 =>
      intro y1 f2 H locs ls hF hP hD hS hl
      rw [f7_fill_53178_l5] at hF
      refine lv_iload_n hx hb dJ7_fill_53178_5 rfl (lv_at hl 2 rfl) ?_
      refine lv_iload_n hx hb dJ7_fill_53178_6 rfl (lv_at hl 3 rfl) ?_
      refine lv_icmp_ge (tgt := 20) hx hb dJ7_fill_53178_7 (by decide) (fun c3 => ?_) (fun c3 => ?_)
      · have hF := zit c3 hF
        have e9b := zin hF
        exact z_wv hx hb hr hlk hP hD hS (by rw [e9b]) dJ7_fill_53178_20
      · have hF := zif c3 hF
        refine lv_aload_n hx hb dJ7_fill_53178_10 rfl (lv_at hl 0 rfl) ?_
        refine lv_iload_n hx hb dJ7_fill_53178_11 rfl (lv_at hl 2 rfl) ?_
        refine lv_iload_n hx hb dJ7_fill_53178_12 rfl (lv_at hl 1 rfl) ?_
        obtain ⟨f4, hf4, hF⟩ := zob hF
        refine z_iast (ws' := AW4 g q b f4) hx hb hK hP hD hS 0 rfl hf4 rfl dJ7_fill_53178_13 (fun H locs hP hD hS => ?_)
        obtain ⟨f5, ef5⟩ : ∃ y : (Nat → Int32), y = f4 := ⟨_, rfl⟩
        rw [← ef5] at hP hD
        have hF := bd_eq ef5 hF
        refine lv_iinc (v := (y1 + 1)) (lv' := [(2, .int (y1 + 1)), (0, .ref (q b)), (1, .int x1), (3, .int 4)]) hx hb dJ7_fill_53178_14 hl (k := 2) rfl rfl (by decide) rfl (fun ls hl => ?_)
        refine lv_goto (tgt := 5) hx hb dJ7_fill_53178_17 (by decide) ?_
        exact ih5 (y1 + 1) f5 H locs ls hF hP hD hS (lv_sub hl [1, 2, 0, 3] rfl)
  exact L5 FU 0 f H locs ls hF hP hD hS (lv_sub hl [2, 3, 1, 0] rfl)
def f6_findPassed_l29 (y5 : Int32) (k21 : (Int32 → Cs → Option (Cs))) : Nat → Int32 → Cs → Option (Cs)
  | 0, _, _ => none
  | n29 + 1, y8, C9 => if (((C9.2.2.2.2.2.1).1).1 4) ≤ y8 then (f2_advance (C9.1 1) ((C9.2.2.2.2.2.1).1)).bind fun M11 => bd (cM C9 1 M11) (fun (C12 : Cs) => k21 (y5 + 1) C12) else bd (cPs C9 (f6_put 4 (C9.2.2.2.2.2.2.1) y8 ((f6_cell 4 (C9.2.2.2.2.2.2.1) y8) ||| (f6_bit (f6_cell 4 ((C9.1 1).2 0) y8))))) (fun (C13 : Cs) => f6_findPassed_l29 y5 k21 n29 (y8 + 1) C13)
def f6_findPassed_l21 : Nat → Int32 → Cs → Option (Cs)
  | 0, _, _ => none
  | n21 + 1, y5, C6 => if 8 < y5 then some C6 else f6_findPassed_l29 y5 (fun y5 C6 => f6_findPassed_l21 n21 y5 C6) FU 0 C6
def f6_findPassed (C : Cs) : Option (Cs) := (f2_copy (C.1 1) (C.1 0)).bind fun M1 => bd (cM C 1 M1) (fun (C2 : Cs) => (f7_fill_53178 (C2.2.2.2.2.2.2.1) 0).bind fun f3 => bd (cPs C2 f3) (fun (C4 : Cs) => f6_findPassed_l21 FU 0 C4))
abbrev rmX6_findPassed : Room := { frames := 5, cells := 0, slots := 0, locals := 118 }
set_option maxHeartbeats 4000000 in
set_option maxRecDepth 100000 in
theorem c6_findPassed (l : Launch) (g : zG) (q : Nat → Nat) (C : Cs) (C_o : Cs) (hF : f6_findPassed C = some C_o) : zRW l g yX6_findPassed wsX6_findPassed rmX6_findPassed [.ref (q 0)] (CW g q C) none (CW g q C_o) := by
  refine zRW_of (cc := cX6_findPassed) (maxL := 3) (ret := none) (by decide) rfl (Nat.le_of_ble_eq_true rfl) ?_
  intro p e s m args below meth c A H locs ls hx hb hr hml hts hown hlk hK hA hP hD hS hl
  have hown : s.vm.findClass RX6 = some m.cls := hown
  have hl : lv_has ls 3 [(0, .ref (q 0))] := hl
  have inX2 : ∀ w ∈ wsX20, w ∈ wsX6_findPassed := fun _ h => List.mem_cons_of_mem _ (List.mem_append_right _ h)
  have inX3 : ∀ w ∈ wsX30, w ∈ wsX6_findPassed := fun _ h => List.mem_cons_of_mem _ (List.mem_append_left _ (List.mem_append_right _ h))
  have inX6 : ∀ w ∈ wsX60, w ∈ wsX6_findPassed := fun _ h => List.mem_cons_of_mem _ (List.mem_append_left _ (List.mem_append_left _ (List.mem_append_right _ h)))
  unfold f6_findPassed at hF
  refine lv_aload_n hx hb dX6_findPassed_0 rfl (lv_at hl 0 rfl) ?_
  refine z_get (ci := 6) (v := .ref (q 28)) (C := RX6) (T := TX6) (N := 13) hx hb hts inX6 hown hK hP 0 (cwp_0 g q C) rfl 5 (by decide) (List.mem_of_getElem? (i := 1) rfl) rfl rfl dX6_findPassed_1 ?_
  refine lv_aload_n hx hb dX6_findPassed_4 rfl (lv_at hl 0 rfl) ?_
  refine z_get (ci := 6) (v := .ref (q 23)) (C := RX6) (T := TX6) (N := 13) hx hb hts inX6 hown hK hP 0 (cwp_0 g q C) rfl 4 (by decide) (List.mem_of_getElem? (i := 2) rfl) rfl rfl dX6_findPassed_5 ?_
  obtain ⟨M1, hM1, hF⟩ := zob hF
  refine z_wgo (wn := CW g q (cM C 1 M1)) (va_runV (As := [.ref (q 23)]) (rest := []) ⟨hx, hb, hml, hown, hts⟩ ((c2_copy l g q 28 q 23 (C.1 1) (C.1 0)   M1 hM1) H.size) (cwV 1 hts gX6_findPassed_X2_copy rfl rfl rfl (by decide +kernel) ⟨Nat.le_of_ble_eq_true rfl, Nat.le_of_ble_eq_true rfl⟩) (z_wpreV (ci := 2) (q := (RX2, TX2, 9)) (q0 := 0) (z_Psub hP _ (cwm_28_10_27 g q C)) hK (z_any (hD.sub _ (by decide) (cwm_28_10_27 g q C))) rfl rfl) rfl rfl hl.1 rfl (lv_room (Nat.le_of_ble_eq_true rfl)) dX6_findPassed_8 ⟨Nat.zero_le _, Nat.zero_le _⟩) hP hD hS hA _ (cwm_28_10_27 g q C) (by decide) rfl (cww_28_10_27 g q C M1) (fun H locs hP hD hS => ?_)
  show W p l e (headSpec wsX6_findPassed rmX6_findPassed).room s m args below meth c H locs 0 0 (MQ below (zWQ g A (CW g q C_o) none) args s 0 0 A) (F0 m 11 ls [])
  obtain ⟨C2, eC2⟩ : ∃ y : Cs, y = (cM C 1 M1) := ⟨_, rfl⟩
  rw [← eC2] at hP hD
  have hF := bd_eq eC2 hF
  refine lv_aload_n hx hb dX6_findPassed_11 rfl (lv_at hl 0 rfl) ?_
  refine z_get (ci := 6) (v := .ref (q 33)) (C := RX6) (T := TX6) (N := 13) hx hb hts inX6 hown hK hP 0 (cwp_0 g q C2) rfl 6 (by decide) (List.mem_of_getElem? (i := 3) rfl) rfl rfl dX6_findPassed_12 ?_
  refine lv_iconst (v := 0) hx hb dX6_findPassed_15 (by decide) ?_
  obtain ⟨f3, hf3, hF⟩ := zob hF
  refine z_wgo (wn := CW g q (cPs C2 f3)) (va_runS (As := [.ref (q 33), .int 0]) (rest := []) ⟨hx, hb, hml, hown, hts⟩ ((c7_fill_53178 l g q 33 (C2.2.2.2.2.2.2.1) 0  f3 hf3) H.size) (va_cwS 2 hts gX6_findPassed_J7_fill_53178 rfl rfl rfl (by decide +kernel) ⟨Nat.le_of_ble_eq_true rfl, Nat.le_of_ble_eq_true rfl⟩) (z_wpre (z_Psub hP _ (cwm_33_1_33a g q C2)) hK (z_any (hD.sub _ (by decide) (cwm_33_1_33a g q C2)))) rfl rfl hl.1 rfl (lv_room (Nat.le_of_ble_eq_true rfl)) dX6_findPassed_16 ⟨Nat.zero_le _, Nat.zero_le _⟩) hP hD hS hA _ (cwm_33_1_33a g q C2) (by decide) rfl (cww_33_1_33a g q C2 f3) (fun H locs hP hD hS => ?_)
  show W p l e (headSpec wsX6_findPassed rmX6_findPassed).room s m args below meth c H locs 0 0 (MQ below (zWQ g A (CW g q C_o) none) args s 0 0 A) (F0 m 19 ls [])
  obtain ⟨C4, eC4⟩ : ∃ y : Cs, y = (cPs C2 f3) := ⟨_, rfl⟩
  rw [← eC4] at hP hD
  have hF := bd_eq eC4 hF
  refine lv_iconst (v := 0) hx hb dX6_findPassed_19 (by decide) ?_
  refine lv_istore_n (lv' := [(1, .int 0), (0, .ref (q 0))]) hx hb dX6_findPassed_20 rfl hl (by decide) rfl (fun ls hl => ?_)
  have L21 : ∀ (n21 : Nat) (y5 : Int32) (C6 : Cs) (H : Heap) (locs : List Loc) (ls : Array Slot), f6_findPassed_l21 n21 y5 C6 = some C_o → va_P (zD g) vwCl (CW g q C6) H → va_D A (CW g q C6) → va_S A s.heap H locs → lv_has ls 3 [(0, .ref (q 0)), (1, .int y5)] → W p l e (headSpec wsX6_findPassed rmX6_findPassed).room s m args below meth c H locs 0 0 (MQ below (zWQ g A (CW g q C_o) none) args s 0 0 A) (F0 m 21 ls []) := by
    intro n21
    induction n21 with
    | zero =>
      intro y5 C6 H locs ls hF hP hD hS hl
      exact absurd (show (none : Option (Cs)) = some _ from hF) (fun h9 => by cases h9)
    | succ n21 ih21 =>
      intro y5 C6 H locs ls hF hP hD hS hl
      rw [f6_findPassed_l21] at hF
      refine lv_iload_n hx hb dX6_findPassed_21 rfl (lv_at hl 1 rfl) ?_
      refine lv_bipush (v := 8) hx hb dX6_findPassed_22 (by decide) ?_
      refine lv_icmp_gt (tgt := 94) hx hb dX6_findPassed_24 (by decide) (fun c7 => ?_) (fun c7 => ?_)
      · have hF := zit c7 hF
        have e9b := zin hF
        exact z_wv hx hb hr hlk hP hD hS (by rw [e9b]) dX6_findPassed_94
      · have hF := zif c7 hF
        refine lv_iconst (v := 0) hx hb dX6_findPassed_27 (by decide) ?_
        refine lv_istore_n (lv' := [(2, .int 0), (0, .ref (q 0)), (1, .int y5)]) hx hb dX6_findPassed_28 rfl hl (by decide) rfl (fun ls hl => ?_)
        have L29 : ∀ (n29 : Nat) (y8 : Int32) (C9 : Cs) (H : Heap) (locs : List Loc) (ls : Array Slot), f6_findPassed_l29 y5 (fun y5 C6 => f6_findPassed_l21 n21 y5 C6) n29 y8 C9 = some C_o → va_P (zD g) vwCl (CW g q C9) H → va_D A (CW g q C9) → va_S A s.heap H locs → lv_has ls 3 [(0, .ref (q 0)), (1, .int y5), (2, .int y8)] → W p l e (headSpec wsX6_findPassed rmX6_findPassed).room s m args below meth c H locs 0 0 (MQ below (zWQ g A (CW g q C_o) none) args s 0 0 A) (F0 m 29 ls []) := by
          intro n29
          induction n29 with
          | zero =>
            intro y8 C9 H locs ls hF hP hD hS hl
            exact absurd (show (none : Option (Cs)) = some _ from hF) (fun h9 => by cases h9)
          | succ n29 ih29 =>
            intro y8 C9 H locs ls hF hP hD hS hl
            rw [f6_findPassed_l29] at hF
            refine lv_iload_n hx hb dX6_findPassed_29 rfl (lv_at hl 2 rfl) ?_
            refine lv_aload_n hx hb dX6_findPassed_30 rfl (lv_at hl 0 rfl) ?_
            refine z_get (ci := 6) (v := .ref (q (13 + 2))) (C := RX6) (T := TX6) (N := 13) hx hb hts inX6 hown hK hP 0 (cwp_0 g q C9) rfl 3 (by decide) (List.mem_of_getElem? (i := 4) rfl) rfl rfl dX6_findPassed_31 ?_
            refine z_get (ci := 3) (v := .int (((C9.2.2.2.2.2.1).1).1 4)) (C := RX3) (T := TX3) (N := 13) hx hb hts inX3 hown hK hP 15 (cwp_15 g q C9) rfl 4 (by decide) (List.mem_of_getElem? (i := 5) rfl) rfl rfl dX6_findPassed_34 ?_
            refine lv_icmp_ge (tgt := 77) hx hb dX6_findPassed_37 (by decide) (fun c10 => ?_) (fun c10 => ?_)
            · have hF := zit c10 hF
              refine lv_aload_n hx hb dX6_findPassed_77 rfl (lv_at hl 0 rfl) ?_
              refine z_get (ci := 6) (v := .ref (q 28)) (C := RX6) (T := TX6) (N := 13) hx hb hts inX6 hown hK hP 0 (cwp_0 g q C9) rfl 5 (by decide) (List.mem_of_getElem? (i := 1) rfl) rfl rfl dX6_findPassed_78 ?_
              refine lv_aload_n hx hb dX6_findPassed_81 rfl (lv_at hl 0 rfl) ?_
              refine z_get (ci := 6) (v := .ref (q (13 + 2))) (C := RX6) (T := TX6) (N := 13) hx hb hts inX6 hown hK hP 0 (cwp_0 g q C9) rfl 3 (by decide) (List.mem_of_getElem? (i := 4) rfl) rfl rfl dX6_findPassed_82 ?_
              obtain ⟨M11, hM11, hF⟩ := zob hF
              refine z_wgo (wn := CW g q (cM C9 1 M11)) (va_runV (As := [.ref (q (13 + 2))]) (rest := []) ⟨hx, hb, hml, hown, hts⟩ ((c2_advance l g q 28 q (13 + 2) (C9.1 1) ((C9.2.2.2.2.2.1).1)   M11 hM11) H.size) (cwV 1 hts gX6_findPassed_X2_advance rfl rfl rfl (by decide +kernel) ⟨Nat.le_of_ble_eq_true rfl, Nat.le_of_ble_eq_true rfl⟩) (z_wpreV (ci := 2) (q := (RX2, TX2, 9)) (q0 := 0) (z_Psub hP _ (cwm_28_13_22 g q C9)) hK (z_any (hD.sub _ (by decide) (cwm_28_13_22 g q C9))) rfl rfl) rfl rfl hl.1 rfl (lv_room (Nat.le_of_ble_eq_true rfl)) dX6_findPassed_85 ⟨Nat.zero_le _, Nat.zero_le _⟩) hP hD hS hA _ (cwm_28_13_22 g q C9) (by decide) rfl (cww_28_13_22 g q C9 M11) (fun H locs hP hD hS => ?_)
              show W p l e (headSpec wsX6_findPassed rmX6_findPassed).room s m args below meth c H locs 0 0 (MQ below (zWQ g A (CW g q C_o) none) args s 0 0 A) (F0 m 88 ls [])
              obtain ⟨C12, eC12⟩ : ∃ y : Cs, y = (cM C9 1 M11) := ⟨_, rfl⟩
              rw [← eC12] at hP hD
              have hF := bd_eq eC12 hF
              refine lv_iinc (v := (y5 + 1)) (lv' := [(1, .int (y5 + 1)), (0, .ref (q 0)), (2, .int y8)]) hx hb dX6_findPassed_88 hl (k := 1) rfl rfl (by decide) rfl (fun ls hl => ?_)
              refine lv_goto (tgt := 21) hx hb dX6_findPassed_91 (by decide) ?_
              exact ih21 (y5 + 1) C12 H locs ls hF hP hD hS (lv_sub hl [1, 0] rfl)
            · have hF := zif c10 hF
              refine lv_aload_n hx hb dX6_findPassed_40 rfl (lv_at hl 0 rfl) ?_
              refine z_get (ci := 6) (v := .ref (q 33)) (C := RX6) (T := TX6) (N := 13) hx hb hts inX6 hown hK hP 0 (cwp_0 g q C9) rfl 6 (by decide) (List.mem_of_getElem? (i := 3) rfl) rfl rfl dX6_findPassed_41 ?_
              refine lv_iload_n hx hb dX6_findPassed_44 rfl (lv_at hl 2 rfl) ?_
              refine lv_aload_n hx hb dX6_findPassed_45 rfl (lv_at hl 0 rfl) ?_
              refine z_get (ci := 6) (v := .ref (q 33)) (C := RX6) (T := TX6) (N := 13) hx hb hts inX6 hown hK hP 0 (cwp_0 g q C9) rfl 6 (by decide) (List.mem_of_getElem? (i := 3) rfl) rfl rfl dX6_findPassed_46 ?_
              refine lv_iload_n hx hb dX6_findPassed_49 rfl (lv_at hl 2 rfl) ?_
              refine z_rgo (va_runS (As := [.ref (q 33), .int y8]) (rest := [.int y8, .ref (q 33)]) ⟨hx, hb, hml, hown, hts⟩ (c6_cell l g (q 33) 4 (by decide) (C9.2.2.2.2.2.2.1) y8) (va_cwS 2 hts gX6_findPassed_X6_cell rfl rfl rfl (by decide +kernel) ⟨Nat.le_of_ble_eq_true rfl, Nat.le_of_ble_eq_true rfl⟩) (z_rpre (z_Psub hP _ (cwm_33_1_33 g q C9)) hK) rfl rfl hl.1 rfl (lv_room (Nat.le_of_ble_eq_true rfl)) dX6_findPassed_50 ⟨Nat.zero_le _, Nat.zero_le _⟩) ?_
              refine lv_aload_n hx hb dX6_findPassed_53 rfl (lv_at hl 0 rfl) ?_
              refine z_get (ci := 6) (v := .ref (q 28)) (C := RX6) (T := TX6) (N := 13) hx hb hts inX6 hown hK hP 0 (cwp_0 g q C9) rfl 5 (by decide) (List.mem_of_getElem? (i := 1) rfl) rfl rfl dX6_findPassed_54 ?_
              refine z_get (ci := 2) (v := .ref (q (28 + 1))) (C := RX2) (T := TX2) (N := 9) hx hb hts inX2 hown hK hP 28 (cwp_28 g q C9) rfl 0 (by decide) (List.mem_of_getElem? (i := 6) rfl) rfl rfl dX6_findPassed_57 ?_
              refine lv_iload_n hx hb dX6_findPassed_60 rfl (lv_at hl 2 rfl) ?_
              refine z_rgo (va_runS (As := [.ref (q (28 + 1)), .int y8]) (rest := [.int (f6_cell 4 (C9.2.2.2.2.2.2.1) y8), .int y8, .ref (q 33)]) ⟨hx, hb, hml, hown, hts⟩ (c6_cell l g (q (28 + 1)) 4 (by decide) ((C9.1 1).2 0) y8) (va_cwS 2 hts gX6_findPassed_X6_cell rfl rfl rfl (by decide +kernel) ⟨Nat.le_of_ble_eq_true rfl, Nat.le_of_ble_eq_true rfl⟩) (z_rpre (z_Psub hP _ (cwm_29_1_29 g q C9)) hK) rfl rfl hl.1 rfl (lv_room (Nat.le_of_ble_eq_true rfl)) dX6_findPassed_61 ⟨Nat.zero_le _, Nat.zero_le _⟩) ?_
              refine z_rgo (va_runS (As := [.int (f6_cell 4 ((C9.1 1).2 0) y8)]) (rest := [.int (f6_cell 4 (C9.2.2.2.2.2.2.1) y8), .int y8, .ref (q 33)]) ⟨hx, hb, hml, hown, hts⟩ (c6_bit l g   (f6_cell 4 ((C9.1 1).2 0) y8)) (va_cwS 1 hts gX6_findPassed_X6_bit rfl rfl rfl (by decide +kernel) ⟨Nat.le_of_ble_eq_true rfl, Nat.le_of_ble_eq_true rfl⟩) (z_rpre z_nil hK) rfl rfl hl.1 rfl (lv_room (Nat.le_of_ble_eq_true rfl)) dX6_findPassed_64 ⟨Nat.zero_le _, Nat.zero_le _⟩) ?_
              refine lv_ior hx hb dX6_findPassed_67 ?_
              refine z_wgo (wn := CW g q (cPs C9 (f6_put 4 (C9.2.2.2.2.2.2.1) y8 ((f6_cell 4 (C9.2.2.2.2.2.2.1) y8) ||| (f6_bit (f6_cell 4 ((C9.1 1).2 0) y8)))))) (va_runS (As := [.ref (q 33), .int y8, .int ((f6_cell 4 (C9.2.2.2.2.2.2.1) y8) ||| (f6_bit (f6_cell 4 ((C9.1 1).2 0) y8)))]) (rest := []) ⟨hx, hb, hml, hown, hts⟩ ((c6_put l g (q 33) 4 (by decide) (C9.2.2.2.2.2.2.1) y8 ((f6_cell 4 (C9.2.2.2.2.2.2.1) y8) ||| (f6_bit (f6_cell 4 ((C9.1 1).2 0) y8)))) H.size) (va_cwS 3 hts gX6_findPassed_X6_put rfl rfl rfl (by decide +kernel) ⟨Nat.le_of_ble_eq_true rfl, Nat.le_of_ble_eq_true rfl⟩) (z_wpre (z_Psub hP _ (cwm_33_1_33 g q C9)) hK (z_any (hD.sub _ (by decide) (cwm_33_1_33 g q C9)))) rfl rfl hl.1 rfl (lv_room (Nat.le_of_ble_eq_true rfl)) dX6_findPassed_68 ⟨Nat.zero_le _, Nat.zero_le _⟩) hP hD hS hA _ (cwm_33_1_33 g q C9) (by decide) rfl (cww_33_1_33 g q C9 (f6_put 4 (C9.2.2.2.2.2.2.1) y8 ((f6_cell 4 (C9.2.2.2.2.2.2.1) y8) ||| (f6_bit (f6_cell 4 ((C9.1 1).2 0) y8))))) (fun H locs hP hD hS => ?_)
              show W p l e (headSpec wsX6_findPassed rmX6_findPassed).room s m args below meth c H locs 0 0 (MQ below (zWQ g A (CW g q C_o) none) args s 0 0 A) (F0 m 71 ls [])
              obtain ⟨C13, eC13⟩ : ∃ y : Cs, y = (cPs C9 (f6_put 4 (C9.2.2.2.2.2.2.1) y8 ((f6_cell 4 (C9.2.2.2.2.2.2.1) y8) ||| (f6_bit (f6_cell 4 ((C9.1 1).2 0) y8))))) := ⟨_, rfl⟩
              rw [← eC13] at hP hD
              have hF := bd_eq eC13 hF
              refine lv_iinc (v := (y8 + 1)) (lv' := [(2, .int (y8 + 1)), (0, .ref (q 0)), (1, .int y5)]) hx hb dX6_findPassed_71 hl (k := 2) rfl rfl (by decide) rfl (fun ls hl => ?_)
              refine lv_goto (tgt := 29) hx hb dX6_findPassed_74 (by decide) ?_
              exact ih29 (y8 + 1) C13 H locs ls hF hP hD hS (lv_sub hl [1, 2, 0] rfl)
        exact L29 FU 0 C6 H locs ls hF hP hD hS (lv_sub hl [1, 2, 0] rfl)
  exact L21 FU 0 C4 H locs ls hF hP hD hS (lv_sub hl [1, 0] rfl)
def f6_flag (x0 : Int32) : Int32 := if x0 = 0 then 0 else 1
abbrev rmX6_flag : Room := { frames := 0, cells := 0, slots := 0, locals := 0 }
set_option maxHeartbeats 4000000 in
set_option maxRecDepth 100000 in
theorem c6_flag (l : Launch) (g : zG)  (x0 : Int32) : zRO l g yX6_flag wsX6_flag rmX6_flag [.int x0] [] (some (.int (f6_flag x0))) := by
  obtain ⟨ro, hF⟩ : ∃ y : Int32, f6_flag x0 = y := ⟨_, rfl⟩
  rw [hF]
  refine zRO_of (cc := cX6_flag) (maxL := 1) (ret := (some .int)) (by decide) rfl (Nat.le_of_ble_eq_true rfl) ?_
  intro p e s m args below meth c ls hx hb hr hml hts hown hlk hK hP hl
  have hown : s.vm.findClass RX6 = some m.cls := hown
  have hl : lv_has ls 1 [(0, .int x0)] := hl
  unfold f6_flag at hF
  refine lv_iload_n hx hb dX6_flag_0 rfl (lv_at hl 0 rfl) ?_
  refine lv_if_eq (tgt := 8) hx hb dX6_flag_1 (by decide) (fun c1 => ?_) (fun c1 => ?_)
  · have hF := zit c1 hF
    refine lv_iconst (v := 0) hx hb dX6_flag_8 (by decide) ?_
    exact z_ri hx hb hr hlk (congrArg (fun z => some (Value.int z)) hF) dX6_flag_9
  · have hF := zif c1 hF
    refine lv_iconst (v := 1) hx hb dX6_flag_4 (by decide) ?_
    refine lv_goto (tgt := 9) hx hb dX6_flag_5 (by decide) ?_
    exact z_ri hx hb hr hlk (congrArg (fun z => some (Value.int z)) hF) dX6_flag_9
def f6_weightOf_l5 (x0 : Int32) (x1 : Int32) (x2 : Int32) : Nat → Int32 → Int32 → Option (Int32)
  | 0, _, _ => none
  | n5 + 1, y1, y2 => if x1 ≤ y2 then some y1 else bd (α := Int32) (if (f6_has x0 y2) = 0 then (10 - x2) else x2) (fun (v4 : Int32) => bd (α := Int32) (y1 * v4) (fun (v6 : Int32) => f6_weightOf_l5 x0 x1 x2 n5 v6 (y2 + 1)))
def f6_weightOf (x0 : Int32) (x1 : Int32) (x2 : Int32) : Option (Int32) := f6_weightOf_l5 x0 x1 x2 FU 1 0
abbrev rmX6_weightOf : Room := { frames := 1, cells := 0, slots := 0, locals := 21 }
set_option maxHeartbeats 4000000 in
set_option maxRecDepth 100000 in
theorem c6_weightOf (l : Launch) (g : zG)  (x0 : Int32) (x1 : Int32) (x2 : Int32) (ro : Int32) (hF : f6_weightOf x0 x1 x2 = some ro) : zRO l g yX6_weightOf wsX6_weightOf rmX6_weightOf [.int x0, .int x1, .int x2] [] (some (.int ro)) := by
  refine zRO_of (cc := cX6_weightOf) (maxL := 5) (ret := (some .int)) (by decide) rfl (Nat.le_of_ble_eq_true rfl) ?_
  intro p e s m args below meth c ls hx hb hr hml hts hown hlk hK hP hl
  have hown : s.vm.findClass RX6 = some m.cls := hown
  have hl : lv_has ls 5 [(0, .int x0), (1, .int x1), (2, .int x2)] := hl
  unfold f6_weightOf at hF
  refine lv_iconst (v := 1) hx hb dX6_weightOf_0 (by decide) ?_
  refine lv_istore_n (lv' := [(3, .int 1), (0, .int x0), (1, .int x1), (2, .int x2)]) hx hb dX6_weightOf_1 rfl hl (by decide) rfl (fun ls hl => ?_)
  refine lv_iconst (v := 0) hx hb dX6_weightOf_2 (by decide) ?_
  refine lv_istore (lv' := [(4, .int 0), (3, .int 1), (0, .int x0), (1, .int x1), (2, .int x2)]) hx hb dX6_weightOf_3 hl (by decide) rfl (fun ls hl => ?_)
  have L5 : ∀ (n5 : Nat) (y1 : Int32) (y2 : Int32) (ls : Array Slot), f6_weightOf_l5 x0 x1 x2 n5 y1 y2 = some ro → lv_has ls 5 [(0, .int x0), (1, .int x1), (2, .int x2), (3, .int y1), (4, .int y2)] → W p l e (headSpec wsX6_weightOf rmX6_weightOf).room s m args below meth c s.heap [] 0 0 (MQ below (zRQ (some (.int ro))) args s 0 0 (fun _ => False)) (F0 m 5 ls []) := by
    intro n5
    induction n5 with
    | zero =>
      intro y1 y2 ls hF hl
      exact absurd (show (none : Option (Int32)) = some _ from hF) (fun h9 => by cases h9)
    | succ n5 ih5 =>
      intro y1 y2 ls hF hl
      rw [f6_weightOf_l5] at hF
      refine lv_iload hx hb dX6_weightOf_5 (lv_at hl 4 rfl) ?_
      refine lv_iload_n hx hb dX6_weightOf_7 rfl (lv_at hl 1 rfl) ?_
      refine lv_icmp_ge (tgt := 37) hx hb dX6_weightOf_8 (by decide) (fun c3 => ?_) (fun c3 => ?_)
      · have hF := zit c3 hF
        refine lv_iload_n hx hb dX6_weightOf_37 rfl (lv_at hl 3 rfl) ?_
        have e9a := zin hF
        exact z_ri hx hb hr hlk (congrArg (fun z => some (Value.int z)) e9a) dX6_weightOf_38
      · have hF := zif c3 hF
        refine lv_iload_n hx hb dX6_weightOf_11 rfl (lv_at hl 3 rfl) ?_
        refine lv_iload_n hx hb dX6_weightOf_12 rfl (lv_at hl 0 rfl) ?_
        refine lv_iload hx hb dX6_weightOf_13 (lv_at hl 4 rfl) ?_
        refine z_rgo (va_runS (As := [.int x0, .int y2]) (rest := [.int y1]) ⟨hx, hb, hml, hown, hts⟩ (c6_has l g   x0 y2) (va_cwS 2 hts gX6_weightOf_X6_has rfl rfl rfl (by decide +kernel) ⟨Nat.le_of_ble_eq_true rfl, Nat.le_of_ble_eq_true rfl⟩) (z_rpre hP hK) rfl rfl hl.1 rfl (lv_room (Nat.le_of_ble_eq_true rfl)) dX6_weightOf_15 ⟨Nat.zero_le _, Nat.zero_le _⟩) ?_
        obtain ⟨v4, hVv4⟩ : ∃ y : Int32, (if (f6_has x0 y2) = 0 then (10 - x2) else x2 : Int32) = y := ⟨_, rfl⟩
        have hF := bd_eq hVv4.symm hF
        have Jv4 : W p l e (headSpec wsX6_weightOf rmX6_weightOf).room s m args below meth c s.heap [] 0 0 (MQ below (zRQ (some (.int ro))) args s 0 0 (fun _ => False)) (F0 m 29 ls [.int v4, .int y1]) := by
          refine lv_imul hx hb dX6_weightOf_29 ?_
          refine lv_topi (fun v6 ev6 => ?_)
          have hF := bd_eq ev6 hF
          refine lv_istore_n (lv' := [(3, .int v6), (0, .int x0), (1, .int x1), (2, .int x2), (4, .int y2)]) hx hb dX6_weightOf_30 rfl hl (by decide) rfl (fun ls hl => ?_)
          refine lv_iinc (v := (y2 + 1)) (lv' := [(4, .int (y2 + 1)), (3, .int v6), (0, .int x0), (1, .int x1), (2, .int x2)]) hx hb dX6_weightOf_31 hl (k := 4) rfl rfl (by decide) rfl (fun ls hl => ?_)
          refine lv_goto (tgt := 5) hx hb dX6_weightOf_34 (by decide) ?_
          exact ih5 v6 (y2 + 1) ls hF (lv_sub hl [2, 3, 4, 1, 0] rfl)
        refine lv_if_eq (tgt := 25) hx hb dX6_weightOf_18 (by decide) (fun c5 => ?_) (fun c5 => ?_)
        · have hVv4 := zit c5 hVv4
          refine lv_bipush (v := 10) hx hb dX6_weightOf_25 (by decide) ?_
          refine lv_iload_n hx hb dX6_weightOf_27 rfl (lv_at hl 2 rfl) ?_
          refine lv_isub hx hb dX6_weightOf_28 ?_
          subst hVv4
          exact Jv4
        · have hVv4 := zif c5 hVv4
          refine lv_iload_n hx hb dX6_weightOf_21 rfl (lv_at hl 2 rfl) ?_
          refine lv_goto (tgt := 29) hx hb dX6_weightOf_22 (by decide) ?_
          subst hVv4
          exact Jv4
  exact L5 FU 1 0 ls hF (lv_sub hl [2, 3, 4, 1, 0] rfl)
def f6_isOutByTides_l14 (x1 : Int32) (x2 : Int32) (x3 : Int32) : Nat → Int32 → Cs → Option (Int32 × Cs)
  | 0, _, _ => none
  | n14 + 1, y3, C4 => if x2 ≤ y3 then some ((f6_has ((C4.1 1).1 5) x1), C4) else bd (α := Int32) (if (f6_has x3 y3) = 0 then (((C4.2.2.2.2.2.1).1).1 1) else (((C4.2.2.2.2.2.1).1).1 0)) (fun (v6 : Int32) => (f2_advanceBy (C4.1 1) ((C4.2.2.2.2.2.1).1) v6).bind fun M8 => bd (cM C4 1 M8) (fun (C9 : Cs) => f6_isOutByTides_l14 x1 x2 x3 n14 (y3 + 1) C9))
def f6_isOutByTides (C : Cs) (x1 : Int32) (x2 : Int32) (x3 : Int32) : Option (Int32 × Cs) := (f2_copy (C.1 1) (C.1 0)).bind fun M1 => bd (cM C 1 M1) (fun (C2 : Cs) => f6_isOutByTides_l14 x1 x2 x3 FU 0 C2)
abbrev rmX6_isOutByTides : Room := { frames := 4, cells := 0, slots := 0, locals := 97 }
set_option maxHeartbeats 4000000 in
set_option maxRecDepth 100000 in
theorem c6_isOutByTides (l : Launch) (g : zG) (q : Nat → Nat) (C : Cs) (x1 : Int32) (x2 : Int32) (x3 : Int32) (ro : Int32) (C_o : Cs) (hF : f6_isOutByTides C x1 x2 x3 = some (ro, C_o)) : zRW l g yX6_isOutByTides wsX6_isOutByTides rmX6_isOutByTides [.ref (q 0), .int x1, .int x2, .int x3] (CW g q C) (some (.int ro)) (CW g q C_o) := by
  refine zRW_of (cc := cX6_isOutByTides) (maxL := 5) (ret := (some .boolean)) (by decide) rfl (Nat.le_of_ble_eq_true rfl) ?_
  intro p e s m args below meth c A H locs ls hx hb hr hml hts hown hlk hK hA hP hD hS hl
  have hown : s.vm.findClass RX6 = some m.cls := hown
  have hl : lv_has ls 5 [(0, .ref (q 0)), (1, .int x1), (2, .int x2), (3, .int x3)] := hl
  have inX2 : ∀ w ∈ wsX20, w ∈ wsX6_isOutByTides := fun _ h => List.mem_cons_of_mem _ (List.mem_append_right _ h)
  have inX3 : ∀ w ∈ wsX30, w ∈ wsX6_isOutByTides := fun _ h => List.mem_cons_of_mem _ (List.mem_append_left _ (List.mem_append_right _ h))
  have inX6 : ∀ w ∈ wsX60, w ∈ wsX6_isOutByTides := fun _ h => List.mem_cons_of_mem _ (List.mem_append_left _ (List.mem_append_left _ (List.mem_append_right _ h)))
  unfold f6_isOutByTides at hF
  refine lv_aload_n hx hb dX6_isOutByTides_0 rfl (lv_at hl 0 rfl) ?_
  refine z_get (ci := 6) (v := .ref (q 28)) (C := RX6) (T := TX6) (N := 13) hx hb hts inX6 hown hK hP 0 (cwp_0 g q C) rfl 5 (by decide) (List.mem_of_getElem? (i := 1) rfl) rfl rfl dX6_isOutByTides_1 ?_
  refine lv_aload_n hx hb dX6_isOutByTides_4 rfl (lv_at hl 0 rfl) ?_
  refine z_get (ci := 6) (v := .ref (q 23)) (C := RX6) (T := TX6) (N := 13) hx hb hts inX6 hown hK hP 0 (cwp_0 g q C) rfl 4 (by decide) (List.mem_of_getElem? (i := 2) rfl) rfl rfl dX6_isOutByTides_5 ?_
  obtain ⟨M1, hM1, hF⟩ := zob hF
  refine z_wgo (wn := CW g q (cM C 1 M1)) (va_runV (As := [.ref (q 23)]) (rest := []) ⟨hx, hb, hml, hown, hts⟩ ((c2_copy l g q 28 q 23 (C.1 1) (C.1 0)   M1 hM1) H.size) (cwV 1 hts gX6_isOutByTides_X2_copy rfl rfl rfl (by decide +kernel) ⟨Nat.le_of_ble_eq_true rfl, Nat.le_of_ble_eq_true rfl⟩) (z_wpreV (ci := 2) (q := (RX2, TX2, 9)) (q0 := 0) (z_Psub hP _ (cwm_28_10_27 g q C)) hK (z_any (hD.sub _ (by decide) (cwm_28_10_27 g q C))) rfl rfl) rfl rfl hl.1 rfl (lv_room (Nat.le_of_ble_eq_true rfl)) dX6_isOutByTides_8 ⟨Nat.zero_le _, Nat.zero_le _⟩) hP hD hS hA _ (cwm_28_10_27 g q C) (by decide) rfl (cww_28_10_27 g q C M1) (fun H locs hP hD hS => ?_)
  show W p l e (headSpec wsX6_isOutByTides rmX6_isOutByTides).room s m args below meth c H locs 0 0 (MQ below (zWQ g A (CW g q C_o) (some (.int ro))) args s 0 0 A) (F0 m 11 ls [])
  obtain ⟨C2, eC2⟩ : ∃ y : Cs, y = (cM C 1 M1) := ⟨_, rfl⟩
  rw [← eC2] at hP hD
  have hF := bd_eq eC2 hF
  refine lv_iconst (v := 0) hx hb dX6_isOutByTides_11 (by decide) ?_
  refine lv_istore (lv' := [(4, .int 0), (0, .ref (q 0)), (1, .int x1), (2, .int x2), (3, .int x3)]) hx hb dX6_isOutByTides_12 hl (by decide) rfl (fun ls hl => ?_)
  have L14 : ∀ (n14 : Nat) (y3 : Int32) (C4 : Cs) (H : Heap) (locs : List Loc) (ls : Array Slot), f6_isOutByTides_l14 x1 x2 x3 n14 y3 C4 = some (ro, C_o) → va_P (zD g) vwCl (CW g q C4) H → va_D A (CW g q C4) → va_S A s.heap H locs → lv_has ls 5 [(0, .ref (q 0)), (1, .int x1), (2, .int x2), (3, .int x3), (4, .int y3)] → W p l e (headSpec wsX6_isOutByTides rmX6_isOutByTides).room s m args below meth c H locs 0 0 (MQ below (zWQ g A (CW g q C_o) (some (.int ro))) args s 0 0 A) (F0 m 14 ls []) := by
    intro n14
    induction n14 with
    | zero =>
      intro y3 C4 H locs ls hF hP hD hS hl
      exact absurd (show (none : Option (Int32 × Cs)) = some _ from hF) (fun h9 => by cases h9)
    | succ n14 ih14 =>
      intro y3 C4 H locs ls hF hP hD hS hl
      rw [f6_isOutByTides_l14] at hF
      refine lv_iload hx hb dX6_isOutByTides_14 (lv_at hl 4 rfl) ?_
      refine lv_iload_n hx hb dX6_isOutByTides_16 rfl (lv_at hl 2 rfl) ?_
      refine lv_icmp_ge (tgt := 63) hx hb dX6_isOutByTides_17 (by decide) (fun c5 => ?_) (fun c5 => ?_)
      · have hF := zit c5 hF
        refine lv_aload_n hx hb dX6_isOutByTides_63 rfl (lv_at hl 0 rfl) ?_
        refine z_get (ci := 6) (v := .ref (q 28)) (C := RX6) (T := TX6) (N := 13) hx hb hts inX6 hown hK hP 0 (cwp_0 g q C4) rfl 5 (by decide) (List.mem_of_getElem? (i := 1) rfl) rfl rfl dX6_isOutByTides_64 ?_
        refine z_get (ci := 2) (v := .int ((C4.1 1).1 5)) (C := RX2) (T := TX2) (N := 9) hx hb hts inX2 hown hK hP 28 (cwp_28 g q C4) rfl 5 (by decide) (List.mem_of_getElem? (i := 6) rfl) rfl rfl dX6_isOutByTides_67 ?_
        refine lv_iload_n hx hb dX6_isOutByTides_70 rfl (lv_at hl 1 rfl) ?_
        refine z_rgo (va_runS (As := [.int ((C4.1 1).1 5), .int x1]) (rest := []) ⟨hx, hb, hml, hown, hts⟩ (c6_has l g   ((C4.1 1).1 5) x1) (va_cwS 2 hts gX6_isOutByTides_X6_has rfl rfl rfl (by decide +kernel) ⟨Nat.le_of_ble_eq_true rfl, Nat.le_of_ble_eq_true rfl⟩) (z_rpre z_nil hK) rfl rfl hl.1 rfl (lv_room (Nat.le_of_ble_eq_true rfl)) dX6_isOutByTides_71 ⟨Nat.zero_le _, Nat.zero_le _⟩) ?_
        obtain ⟨e9a, e9b⟩ := Prod.mk.inj (zin hF)
        exact z_wz hx hb hr hlk (b6_has ((C4.1 1).1 5) x1) hP hD hS (congrArg (fun z => some (Value.int z)) e9a) (by rw [e9b]) dX6_isOutByTides_74
      · have hF := zif c5 hF
        refine lv_aload_n hx hb dX6_isOutByTides_20 rfl (lv_at hl 0 rfl) ?_
        refine z_get (ci := 6) (v := .ref (q 28)) (C := RX6) (T := TX6) (N := 13) hx hb hts inX6 hown hK hP 0 (cwp_0 g q C4) rfl 5 (by decide) (List.mem_of_getElem? (i := 1) rfl) rfl rfl dX6_isOutByTides_21 ?_
        refine lv_iload_n hx hb dX6_isOutByTides_24 rfl (lv_at hl 3 rfl) ?_
        refine lv_iload hx hb dX6_isOutByTides_25 (lv_at hl 4 rfl) ?_
        refine z_rgo (va_runS (As := [.int x3, .int y3]) (rest := [.ref (q 28)]) ⟨hx, hb, hml, hown, hts⟩ (c6_has l g   x3 y3) (va_cwS 2 hts gX6_isOutByTides_X6_has rfl rfl rfl (by decide +kernel) ⟨Nat.le_of_ble_eq_true rfl, Nat.le_of_ble_eq_true rfl⟩) (z_rpre z_nil hK) rfl rfl hl.1 rfl (lv_room (Nat.le_of_ble_eq_true rfl)) dX6_isOutByTides_27 ⟨Nat.zero_le _, Nat.zero_le _⟩) ?_
        obtain ⟨v6, hVv6⟩ : ∃ y : Int32, (if (f6_has x3 y3) = 0 then (((C4.2.2.2.2.2.1).1).1 1) else (((C4.2.2.2.2.2.1).1).1 0) : Int32) = y := ⟨_, rfl⟩
        have hF := bd_eq hVv6.symm hF
        have Jv6 : W p l e (headSpec wsX6_isOutByTides rmX6_isOutByTides).room s m args below meth c H locs 0 0 (MQ below (zWQ g A (CW g q C_o) (some (.int ro))) args s 0 0 A) (F0 m 50 ls [.int v6, .ref (q 28)]) := by
          refine lv_aload_n hx hb dX6_isOutByTides_50 rfl (lv_at hl 0 rfl) ?_
          refine z_get (ci := 6) (v := .ref (q (13 + 2))) (C := RX6) (T := TX6) (N := 13) hx hb hts inX6 hown hK hP 0 (cwp_0 g q C4) rfl 3 (by decide) (List.mem_of_getElem? (i := 3) rfl) rfl rfl dX6_isOutByTides_51 ?_
          obtain ⟨M8, hM8, hF⟩ := zob hF
          refine z_wgo (wn := CW g q (cM C4 1 M8)) (va_runV (As := [.int v6, .ref (q (13 + 2))]) (rest := []) ⟨hx, hb, hml, hown, hts⟩ ((c2_advanceBy l g q 28 q (13 + 2) (C4.1 1) ((C4.2.2.2.2.2.1).1) v6  M8 hM8) H.size) (cwV 2 hts gX6_isOutByTides_X2_advanceBy rfl rfl rfl (by decide +kernel) ⟨Nat.le_of_ble_eq_true rfl, Nat.le_of_ble_eq_true rfl⟩) (z_wpreV (ci := 2) (q := (RX2, TX2, 9)) (q0 := 0) (z_Psub hP _ (cwm_28_13_22 g q C4)) hK (z_any (hD.sub _ (by decide) (cwm_28_13_22 g q C4))) rfl rfl) rfl rfl hl.1 rfl (lv_room (Nat.le_of_ble_eq_true rfl)) dX6_isOutByTides_54 ⟨Nat.zero_le _, Nat.zero_le _⟩) hP hD hS hA _ (cwm_28_13_22 g q C4) (by decide) rfl (cww_28_13_22 g q C4 M8) (fun H locs hP hD hS => ?_)
          show W p l e (headSpec wsX6_isOutByTides rmX6_isOutByTides).room s m args below meth c H locs 0 0 (MQ below (zWQ g A (CW g q C_o) (some (.int ro))) args s 0 0 A) (F0 m 57 ls [])
          obtain ⟨C9, eC9⟩ : ∃ y : Cs, y = (cM C4 1 M8) := ⟨_, rfl⟩
          rw [← eC9] at hP hD
          have hF := bd_eq eC9 hF
          refine lv_iinc (v := (y3 + 1)) (lv' := [(4, .int (y3 + 1)), (0, .ref (q 0)), (1, .int x1), (2, .int x2), (3, .int x3)]) hx hb dX6_isOutByTides_57 hl (k := 4) rfl rfl (by decide) rfl (fun ls hl => ?_)
          refine lv_goto (tgt := 14) hx hb dX6_isOutByTides_60 (by decide) ?_
          exact ih14 (y3 + 1) C9 H locs ls hF hP hD hS (lv_sub hl [1, 2, 3, 4, 0] rfl)
        refine lv_if_eq (tgt := 43) hx hb dX6_isOutByTides_30 (by decide) (fun c7 => ?_) (fun c7 => ?_)
        · have hVv6 := zit c7 hVv6
          refine lv_aload_n hx hb dX6_isOutByTides_43 rfl (lv_at hl 0 rfl) ?_
          refine z_get (ci := 6) (v := .ref (q (13 + 2))) (C := RX6) (T := TX6) (N := 13) hx hb hts inX6 hown hK hP 0 (cwp_0 g q C4) rfl 3 (by decide) (List.mem_of_getElem? (i := 3) rfl) rfl rfl dX6_isOutByTides_44 ?_
          refine z_get (ci := 3) (v := .int (((C4.2.2.2.2.2.1).1).1 1)) (C := RX3) (T := TX3) (N := 13) hx hb hts inX3 hown hK hP 15 (cwp_15 g q C4) rfl 1 (by decide) (List.mem_of_getElem? (i := 5) rfl) rfl rfl dX6_isOutByTides_47 ?_
          subst hVv6
          exact Jv6
        · have hVv6 := zif c7 hVv6
          refine lv_aload_n hx hb dX6_isOutByTides_33 rfl (lv_at hl 0 rfl) ?_
          refine z_get (ci := 6) (v := .ref (q (13 + 2))) (C := RX6) (T := TX6) (N := 13) hx hb hts inX6 hown hK hP 0 (cwp_0 g q C4) rfl 3 (by decide) (List.mem_of_getElem? (i := 3) rfl) rfl rfl dX6_isOutByTides_34 ?_
          refine z_get (ci := 3) (v := .int (((C4.2.2.2.2.2.1).1).1 0)) (C := RX3) (T := TX3) (N := 13) hx hb hts inX3 hown hK hP 15 (cwp_15 g q C4) rfl 0 (by decide) (List.mem_of_getElem? (i := 4) rfl) rfl rfl dX6_isOutByTides_37 ?_
          refine lv_goto (tgt := 50) hx hb dX6_isOutByTides_40 (by decide) ?_
          subst hVv6
          exact Jv6
  exact L14 FU 0 C2 H locs ls hF hP hD hS (lv_sub hl [1, 2, 3, 4, 0] rfl)
def f6_fraction (x0 : Int32) (x1 : Int32) (x2 : Int32) : Option (Int32) := (f6_commonDivisor (if 0 ≤ x0 then x0 else 0 - x0) x1).bind fun v1 => if v1 = 0 then some (-9) else if x2 = 0 then (zdv x1 v1).bind fun v4 => some v4 else (zdv x0 v1).bind fun v5 => some v5
abbrev rmX6_fraction : Room := { frames := 1, cells := 0, slots := 0, locals := 25 }
set_option maxHeartbeats 4000000 in
set_option maxRecDepth 100000 in
theorem c6_fraction (l : Launch) (g : zG)  (x0 : Int32) (x1 : Int32) (x2 : Int32) (ro : Int32) (hF : f6_fraction x0 x1 x2 = some ro) : zRO l g yX6_fraction wsX6_fraction rmX6_fraction [.int x0, .int x1, .int x2] [] (some (.int ro)) := by
  refine zRO_of (cc := cX6_fraction) (maxL := 4) (ret := (some .int)) (by decide) rfl (Nat.le_of_ble_eq_true rfl) ?_
  intro p e s m args below meth c ls hx hb hr hml hts hown hlk hK hP hl
  have hown : s.vm.findClass RX6 = some m.cls := hown
  have hl : lv_has ls 4 [(0, .int x0), (1, .int x1), (2, .int x2)] := hl
  unfold f6_fraction at hF
  refine lv_iload_n hx hb dX6_fraction_0 rfl (lv_at hl 0 rfl) ?_
  refine va_mabs hx hb (hml.trans hl.1.symm) hown (hts (.methodLink RX6 329 Lib.Math.abs.name) (List.mem_of_getElem? (i := 1) rfl)) (hts (.static Lib.Math.abs.name) (List.mem_of_getElem? (i := 2) rfl)) (hts (.initialized "java/lang/Math") (List.mem_of_getElem? (i := 3) rfl)) (hts (.code Lib.Math.abs.name Lib.Math.abs.code 1 (some .int)) (List.mem_of_getElem? (i := 4) rfl)) (Nat.le_of_ble_eq_true rfl) (Nat.le_of_ble_eq_true rfl) (Nat.zero_le _) (Nat.zero_le _) dX6_fraction_1 ?_
  refine lv_iload_n hx hb dX6_fraction_4 rfl (lv_at hl 1 rfl) ?_
  obtain ⟨v1, hv1, hF⟩ := zob hF
  refine z_rgo (va_runS (As := [.int (if 0 ≤ x0 then x0 else 0 - x0), .int x1]) (rest := []) ⟨hx, hb, hml, hown, hts⟩ (c6_commonDivisor l g   (if 0 ≤ x0 then x0 else 0 - x0) x1 v1 hv1) (va_cwS 2 hts gX6_fraction_X6_commonDivisor rfl rfl rfl (by decide +kernel) ⟨Nat.le_of_ble_eq_true rfl, Nat.le_of_ble_eq_true rfl⟩) (z_rpre hP hK) rfl rfl hl.1 rfl (lv_room (Nat.le_of_ble_eq_true rfl)) dX6_fraction_5 ⟨Nat.zero_le _, Nat.zero_le _⟩) ?_
  refine lv_istore_n (lv' := [(3, .int v1), (0, .int x0), (1, .int x1), (2, .int x2)]) hx hb dX6_fraction_8 rfl hl (by decide) rfl (fun ls hl => ?_)
  refine lv_iload_n hx hb dX6_fraction_9 rfl (lv_at hl 0 rfl) ?_
  refine lv_if_ne (tgt := 16) hx hb dX6_fraction_10 (by decide) (fun c2 => ?_) (fun c2 => ?_)
  · have hF := zif c2 hF
    refine lv_iload_n hx hb dX6_fraction_16 rfl (lv_at hl 3 rfl) ?_
    refine lv_if_eq (tgt := 26) hx hb dX6_fraction_17 (by decide) (fun c3 => ?_) (fun c3 => ?_)
    · have hF := zit c3 hF
      refine lv_iload_n hx hb dX6_fraction_26 rfl (lv_at hl 2 rfl) ?_
      refine lv_iload_n hx hb dX6_fraction_27 rfl (lv_at hl 0 rfl) ?_
      obtain ⟨v4, hv4, hF⟩ := zob hF
      refine z_idiv hx hb dX6_fraction_28 hv4 ?_
      have e9a := zin hF
      exact z_ri hx hb hr hlk (congrArg (fun z => some (Value.int z)) e9a) dX6_fraction_29
    · have hF := zif c3 hF
      refine lv_iload_n hx hb dX6_fraction_20 rfl (lv_at hl 1 rfl) ?_
      refine lv_iload_n hx hb dX6_fraction_21 rfl (lv_at hl 0 rfl) ?_
      obtain ⟨v5, hv5, hF⟩ := zob hF
      refine z_idiv hx hb dX6_fraction_22 hv5 ?_
      refine lv_goto (tgt := 29) hx hb dX6_fraction_23 (by decide) ?_
      have e9a := zin hF
      exact z_ri hx hb hr hlk (congrArg (fun z => some (Value.int z)) e9a) dX6_fraction_29
  · have hF := zit c2 hF
    refine lv_bipush (v := (-9)) hx hb dX6_fraction_13 (by decide) ?_
    have e9a := zin hF
    exact z_ri hx hb hr hlk (congrArg (fun z => some (Value.int z)) e9a) dX6_fraction_15
def f6_flood_l65 (x1 : Int32) (x2 : Int32) (x3 : Int32) (x4 : Int32) (y6 : Int32) : Nat → Int32 → Int32 → Cs → Option (Int32 × Cs)
  | 0, _, _, _ => none
  | n65 + 1, y10, y11, C12 => if ((1 : Int32) <<< (x2 &&& 31)) ≤ y11 then (f6_fraction y10 y6 x4).bind fun v14 => some (v14, C12) else (f6_weightOf y11 x2 x3).bind fun v15 => if v15 ≤ 0 then f6_flood_l65 x1 x2 x3 x4 y6 n65 y10 (y11 + 1) C12 else (f6_isOutByTides C12 x1 x2 y11).bind fun (v18, C17) => if v18 = 0 then f6_flood_l65 x1 x2 x3 x4 y6 n65 y10 (y11 + 1) C17 else bd (α := Int32) (y10 + v15) (fun (v20 : Int32) => f6_flood_l65 x1 x2 x3 x4 y6 n65 v20 (y11 + 1) C17)
def f6_flood_l43 (x1 : Int32) (x2 : Int32) (x3 : Int32) (x4 : Int32) : Nat → Int32 → Int32 → Cs → Option (Int32 × Cs)
  | 0, _, _, _ => none
  | n43 + 1, y6, y7, C8 => if x2 ≤ y7 then f6_flood_l65 x1 x2 x3 x4 y6 FU 0 0 C8 else bd (α := Int32) (y6 * 10) (fun (v21 : Int32) => f6_flood_l43 x1 x2 x3 x4 n43 v21 (y7 + 1) C8)
def f6_flood (C : Cs) (x1 : Int32) (x2 : Int32) (x3 : Int32) (x4 : Int32) : Option (Int32 × Cs) := if (f6_isNoWalker C x1) = 0 then if x2 < 1 then some ((-2), C) else if 6 < x2 then some ((-2), C) else if x3 < 0 then some ((-2), C) else if x3 ≤ 10 then f6_flood_l43 x1 x2 x3 x4 FU 1 0 C else some ((-2), C) else some ((-1), C)
abbrev rmX6_flood : Room := { frames := 5, cells := 0, slots := 0, locals := 121 }
set_option maxHeartbeats 4000000 in
set_option maxRecDepth 100000 in
theorem c6_flood (l : Launch) (g : zG) (q : Nat → Nat) (C : Cs) (x1 : Int32) (x2 : Int32) (x3 : Int32) (x4 : Int32) (ro : Int32) (C_o : Cs) (hF : f6_flood C x1 x2 x3 x4 = some (ro, C_o)) : zRW l g yX6_flood wsX6_flood rmX6_flood [.ref (q 0), .int x1, .int x2, .int x3, .int x4] (CW g q C) (some (.int ro)) (CW g q C_o) := by
  refine zRW_of (cc := cX6_flood) (maxL := 9) (ret := (some .int)) (by decide) rfl (Nat.le_of_ble_eq_true rfl) ?_
  intro p e s m args below meth c A H locs ls hx hb hr hml hts hown hlk hK hA hP hD hS hl
  have hown : s.vm.findClass RX6 = some m.cls := hown
  have hl : lv_has ls 9 [(0, .ref (q 0)), (1, .int x1), (2, .int x2), (3, .int x3), (4, .int x4)] := hl
  unfold f6_flood at hF
  refine lv_aload_n hx hb dX6_flood_0 rfl (lv_at hl 0 rfl) ?_
  refine lv_iload_n hx hb dX6_flood_1 rfl (lv_at hl 1 rfl) ?_
  refine z_rgo (va_runV (As := [.int x1]) (rest := []) ⟨hx, hb, hml, hown, hts⟩ (c6_isNoWalker l g q C x1) (cwV 1 hts gX6_flood_X6_isNoWalker rfl rfl rfl (by decide +kernel) ⟨Nat.le_of_ble_eq_true rfl, Nat.le_of_ble_eq_true rfl⟩) (z_rpreV (ci := 6) (q := (RX6, TX6, 13)) (q0 := 0) hP hK rfl rfl) rfl rfl hl.1 rfl (lv_room (Nat.le_of_ble_eq_true rfl)) dX6_flood_2 ⟨Nat.zero_le _, Nat.zero_le _⟩) ?_
  refine lv_if_eq (tgt := 10) hx hb dX6_flood_5 (by decide) (fun c1 => ?_) (fun c1 => ?_)
  · have hF := zit c1 hF
    refine lv_iload_n hx hb dX6_flood_10 rfl (lv_at hl 2 rfl) ?_
    refine lv_iconst (v := 1) hx hb dX6_flood_11 (by decide) ?_
    refine lv_icmp_lt (tgt := 31) hx hb dX6_flood_12 (by decide) (fun c2 => ?_) (fun c2 => ?_)
    · have hF := zit c2 hF
      refine lv_bipush (v := (-2)) hx hb dX6_flood_31 (by decide) ?_
      obtain ⟨e9a, e9b⟩ := Prod.mk.inj (zin hF)
      exact z_wi hx hb hr hlk hP hD hS (congrArg (fun z => some (Value.int z)) e9a) (by rw [e9b]) dX6_flood_33
    · have hF := zif c2 hF
      refine lv_iload_n hx hb dX6_flood_15 rfl (lv_at hl 2 rfl) ?_
      refine lv_bipush (v := 6) hx hb dX6_flood_16 (by decide) ?_
      refine lv_icmp_gt (tgt := 31) hx hb dX6_flood_18 (by decide) (fun c3 => ?_) (fun c3 => ?_)
      · have hF := zit c3 hF
        refine lv_bipush (v := (-2)) hx hb dX6_flood_31 (by decide) ?_
        obtain ⟨e9a, e9b⟩ := Prod.mk.inj (zin hF)
        exact z_wi hx hb hr hlk hP hD hS (congrArg (fun z => some (Value.int z)) e9a) (by rw [e9b]) dX6_flood_33
      · have hF := zif c3 hF
        refine lv_iload_n hx hb dX6_flood_21 rfl (lv_at hl 3 rfl) ?_
        refine lv_if_lt (tgt := 31) hx hb dX6_flood_22 (by decide) (fun c4 => ?_) (fun c4 => ?_)
        · have hF := zit c4 hF
          refine lv_bipush (v := (-2)) hx hb dX6_flood_31 (by decide) ?_
          obtain ⟨e9a, e9b⟩ := Prod.mk.inj (zin hF)
          exact z_wi hx hb hr hlk hP hD hS (congrArg (fun z => some (Value.int z)) e9a) (by rw [e9b]) dX6_flood_33
        · have hF := zif c4 hF
          refine lv_iload_n hx hb dX6_flood_25 rfl (lv_at hl 3 rfl) ?_
          refine lv_bipush (v := 10) hx hb dX6_flood_26 (by decide) ?_
          refine lv_icmp_le (tgt := 34) hx hb dX6_flood_28 (by decide) (fun c5 => ?_) (fun c5 => ?_)
          · have hF := zit c5 hF
            refine lv_iconst (v := 0) hx hb dX6_flood_34 (by decide) ?_
            refine lv_istore (lv' := [(5, .int 0), (0, .ref (q 0)), (1, .int x1), (2, .int x2), (3, .int x3), (4, .int x4)]) hx hb dX6_flood_35 hl (by decide) rfl (fun ls hl => ?_)
            refine lv_iconst (v := 1) hx hb dX6_flood_37 (by decide) ?_
            refine lv_istore (lv' := [(6, .int 1), (5, .int 0), (0, .ref (q 0)), (1, .int x1), (2, .int x2), (3, .int x3), (4, .int x4)]) hx hb dX6_flood_38 hl (by decide) rfl (fun ls hl => ?_)
            refine lv_iconst (v := 0) hx hb dX6_flood_40 (by decide) ?_
            refine lv_istore (lv' := [(7, .int 0), (6, .int 1), (5, .int 0), (0, .ref (q 0)), (1, .int x1), (2, .int x2), (3, .int x3), (4, .int x4)]) hx hb dX6_flood_41 hl (by decide) rfl (fun ls hl => ?_)
            have L43 : ∀ (n43 : Nat) (y6 : Int32) (y7 : Int32) (C8 : Cs) (H : Heap) (locs : List Loc) (ls : Array Slot), f6_flood_l43 x1 x2 x3 x4 n43 y6 y7 C8 = some (ro, C_o) → va_P (zD g) vwCl (CW g q C8) H → va_D A (CW g q C8) → va_S A s.heap H locs → lv_has ls 9 [(0, .ref (q 0)), (1, .int x1), (2, .int x2), (3, .int x3), (4, .int x4), (5, .int 0), (6, .int y6), (7, .int y7)] → W p l e (headSpec wsX6_flood rmX6_flood).room s m args below meth c H locs 0 0 (MQ below (zWQ g A (CW g q C_o) (some (.int ro))) args s 0 0 A) (F0 m 43 ls []) := by
              intro n43
              induction n43 with
              | zero =>
                intro y6 y7 C8 H locs ls hF hP hD hS hl
                exact absurd (show (none : Option (Int32 × Cs)) = some _ from hF) (fun h9 => by cases h9)
              | succ n43 ih43 =>
                intro y6 y7 C8 H locs ls hF hP hD hS hl
                rw [f6_flood_l43] at hF
                refine lv_iload hx hb dX6_flood_43 (lv_at hl 7 rfl) ?_
                refine lv_iload_n hx hb dX6_flood_45 rfl (lv_at hl 2 rfl) ?_
                refine lv_icmp_ge (tgt := 62) hx hb dX6_flood_46 (by decide) (fun c9 => ?_) (fun c9 => ?_)
                · have hF := zit c9 hF
                  refine lv_iconst (v := 0) hx hb dX6_flood_62 (by decide) ?_
                  refine lv_istore (lv' := [(7, .int 0), (0, .ref (q 0)), (1, .int x1), (2, .int x2), (3, .int x3), (4, .int x4), (5, .int 0), (6, .int y6)]) hx hb dX6_flood_63 hl (by decide) rfl (fun ls hl => ?_)
                  have L65 : ∀ (n65 : Nat) (y10 : Int32) (y11 : Int32) (C12 : Cs) (H : Heap) (locs : List Loc) (ls : Array Slot), f6_flood_l65 x1 x2 x3 x4 y6 n65 y10 y11 C12 = some (ro, C_o) → va_P (zD g) vwCl (CW g q C12) H → va_D A (CW g q C12) → va_S A s.heap H locs → lv_has ls 9 [(0, .ref (q 0)), (1, .int x1), (2, .int x2), (3, .int x3), (4, .int x4), (5, .int y10), (6, .int y6), (7, .int y11)] → W p l e (headSpec wsX6_flood rmX6_flood).room s m args below meth c H locs 0 0 (MQ below (zWQ g A (CW g q C_o) (some (.int ro))) args s 0 0 A) (F0 m 65 ls []) := by
                    intro n65
                    induction n65 with
                    | zero =>
                      intro y10 y11 C12 H locs ls hF hP hD hS hl
                      exact absurd (show (none : Option (Int32 × Cs)) = some _ from hF) (fun h9 => by cases h9)
                    | succ n65 ih65 =>
                      intro y10 y11 C12 H locs ls hF hP hD hS hl
                      rw [f6_flood_l65] at hF
                      refine lv_iload hx hb dX6_flood_65 (lv_at hl 7 rfl) ?_
                      refine lv_iconst (v := 1) hx hb dX6_flood_67 (by decide) ?_
                      refine lv_iload_n hx hb dX6_flood_68 rfl (lv_at hl 2 rfl) ?_
                      refine lv_ishl hx hb dX6_flood_69 ?_
                      refine lv_icmp_ge (tgt := 111) hx hb dX6_flood_70 (by decide) (fun c13 => ?_) (fun c13 => ?_)
                      · have hF := zit c13 hF
                        refine lv_iload hx hb dX6_flood_111 (lv_at hl 5 rfl) ?_
                        refine lv_iload hx hb dX6_flood_113 (lv_at hl 6 rfl) ?_
                        refine lv_iload hx hb dX6_flood_115 (lv_at hl 4 rfl) ?_
                        obtain ⟨v14, hv14, hF⟩ := zob hF
                        refine z_rgo (va_runS (As := [.int y10, .int y6, .int x4]) (rest := []) ⟨hx, hb, hml, hown, hts⟩ (c6_fraction l g   y10 y6 x4 v14 hv14) (va_cwS 3 hts gX6_flood_X6_fraction rfl rfl rfl (by decide +kernel) ⟨Nat.le_of_ble_eq_true rfl, Nat.le_of_ble_eq_true rfl⟩) (z_rpre z_nil hK) rfl rfl hl.1 rfl (lv_room (Nat.le_of_ble_eq_true rfl)) dX6_flood_117 ⟨Nat.zero_le _, Nat.zero_le _⟩) ?_
                        obtain ⟨e9a, e9b⟩ := Prod.mk.inj (zin hF)
                        exact z_wi hx hb hr hlk hP hD hS (congrArg (fun z => some (Value.int z)) e9a) (by rw [e9b]) dX6_flood_120
                      · have hF := zif c13 hF
                        refine lv_iload hx hb dX6_flood_73 (lv_at hl 7 rfl) ?_
                        refine lv_iload_n hx hb dX6_flood_75 rfl (lv_at hl 2 rfl) ?_
                        refine lv_iload_n hx hb dX6_flood_76 rfl (lv_at hl 3 rfl) ?_
                        obtain ⟨v15, hv15, hF⟩ := zob hF
                        refine z_rgo (va_runS (As := [.int y11, .int x2, .int x3]) (rest := []) ⟨hx, hb, hml, hown, hts⟩ (c6_weightOf l g   y11 x2 x3 v15 hv15) (va_cwS 3 hts gX6_flood_X6_weightOf rfl rfl rfl (by decide +kernel) ⟨Nat.le_of_ble_eq_true rfl, Nat.le_of_ble_eq_true rfl⟩) (z_rpre z_nil hK) rfl rfl hl.1 rfl (lv_room (Nat.le_of_ble_eq_true rfl)) dX6_flood_77 ⟨Nat.zero_le _, Nat.zero_le _⟩) ?_
                        refine lv_istore (lv' := [(8, .int v15), (0, .ref (q 0)), (1, .int x1), (2, .int x2), (3, .int x3), (4, .int x4), (5, .int y10), (6, .int y6), (7, .int y11)]) hx hb dX6_flood_80 hl (by decide) rfl (fun ls hl => ?_)
                        refine lv_iload hx hb dX6_flood_82 (lv_at hl 0 rfl) ?_
                        refine lv_if_le (tgt := 105) hx hb dX6_flood_84 (by decide) (fun c16 => ?_) (fun c16 => ?_)
                        · have hF := zit c16 hF
                          refine lv_iinc (v := (y11 + 1)) (lv' := [(7, .int (y11 + 1)), (8, .int v15), (0, .ref (q 0)), (1, .int x1), (2, .int x2), (3, .int x3), (4, .int x4), (5, .int y10), (6, .int y6)]) hx hb dX6_flood_105 hl (k := 8) rfl rfl (by decide) rfl (fun ls hl => ?_)
                          refine lv_goto (tgt := 65) hx hb dX6_flood_108 (by decide) ?_
                          exact ih65 y10 (y11 + 1) C12 H locs ls hF hP hD hS (lv_sub hl [2, 3, 4, 5, 6, 7, 8, 0] rfl)
                        · have hF := zif c16 hF
                          refine lv_aload_n hx hb dX6_flood_87 rfl (lv_at hl 1 rfl) ?_
                          refine lv_iload_n hx hb dX6_flood_88 rfl (lv_at hl 2 rfl) ?_
                          refine lv_iload_n hx hb dX6_flood_89 rfl (lv_at hl 3 rfl) ?_
                          refine lv_iload hx hb dX6_flood_90 (lv_at hl 8 rfl) ?_
                          obtain ⟨⟨v18, C17⟩, hC17, hF⟩ := zob hF
                          refine z_wgoW (va_runV (As := [.int x1, .int x2, .int y11]) (rest := []) ⟨hx, hb, hml, hown, hts⟩ ((c6_isOutByTides l g q C12 x1 x2 y11 v18  C17 hC17) H.size) (cwV 3 hts gX6_flood_X6_isOutByTides rfl rfl rfl (by decide +kernel) ⟨Nat.le_of_ble_eq_true rfl, Nat.le_of_ble_eq_true rfl⟩) (z_wpreV (ci := 6) (q := (RX6, TX6, 13)) (q0 := 0) hP hK (z_any hD) rfl rfl) rfl rfl hl.1 rfl (lv_room (Nat.le_of_ble_eq_true rfl)) dX6_flood_92 ⟨Nat.zero_le _, Nat.zero_le _⟩) hP hD hS hA (fun H locs hP hD hS => ?_)
                          show W p l e (headSpec wsX6_flood rmX6_flood).room s m args below meth c H locs 0 0 (MQ below (zWQ g A (CW g q C_o) (some (.int ro))) args s 0 0 A) (F0 m 95 ls [.int v18])
                          refine lv_if_eq (tgt := 105) hx hb dX6_flood_95 (by decide) (fun c19 => ?_) (fun c19 => ?_)
                          · have hF := zit c19 hF
                            refine lv_iinc (v := (y11 + 1)) (lv' := [(7, .int (y11 + 1)), (8, .int v15), (0, .ref (q 0)), (1, .int x1), (2, .int x2), (3, .int x3), (4, .int x4), (5, .int y10), (6, .int y6)]) hx hb dX6_flood_105 hl (k := 8) rfl rfl (by decide) rfl (fun ls hl => ?_)
                            refine lv_goto (tgt := 65) hx hb dX6_flood_108 (by decide) ?_
                            exact ih65 y10 (y11 + 1) C17 H locs ls hF hP hD hS (lv_sub hl [2, 3, 4, 5, 6, 7, 8, 0] rfl)
                          · have hF := zif c19 hF
                            refine lv_iload hx hb dX6_flood_98 (lv_at hl 6 rfl) ?_
                            refine lv_iload hx hb dX6_flood_100 (lv_at hl 0 rfl) ?_
                            refine lv_iadd hx hb dX6_flood_102 ?_
                            refine lv_topi (fun v20 ev20 => ?_)
                            have hF := bd_eq ev20 hF
                            refine lv_istore (lv' := [(5, .int v20), (8, .int v15), (0, .ref (q 0)), (1, .int x1), (2, .int x2), (3, .int x3), (4, .int x4), (6, .int y6), (7, .int y11)]) hx hb dX6_flood_103 hl (by decide) rfl (fun ls hl => ?_)
                            refine lv_iinc (v := (y11 + 1)) (lv' := [(7, .int (y11 + 1)), (5, .int v20), (8, .int v15), (0, .ref (q 0)), (1, .int x1), (2, .int x2), (3, .int x3), (4, .int x4), (6, .int y6)]) hx hb dX6_flood_105 hl (k := 8) rfl rfl (by decide) rfl (fun ls hl => ?_)
                            refine lv_goto (tgt := 65) hx hb dX6_flood_108 (by decide) ?_
                            exact ih65 v20 (y11 + 1) C17 H locs ls hF hP hD hS (lv_sub hl [3, 4, 5, 6, 7, 1, 8, 0] rfl)
                  exact L65 FU 0 0 C8 H locs ls hF hP hD hS (lv_sub hl [1, 2, 3, 4, 5, 6, 7, 0] rfl)
                · have hF := zif c9 hF
                  refine lv_iload hx hb dX6_flood_49 (lv_at hl 6 rfl) ?_
                  refine lv_bipush (v := 10) hx hb dX6_flood_51 (by decide) ?_
                  refine lv_imul hx hb dX6_flood_53 ?_
                  refine lv_topi (fun v21 ev21 => ?_)
                  have hF := bd_eq ev21 hF
                  refine lv_istore (lv' := [(6, .int v21), (0, .ref (q 0)), (1, .int x1), (2, .int x2), (3, .int x3), (4, .int x4), (5, .int 0), (7, .int y7)]) hx hb dX6_flood_54 hl (by decide) rfl (fun ls hl => ?_)
                  refine lv_iinc (v := (y7 + 1)) (lv' := [(7, .int (y7 + 1)), (6, .int v21), (0, .ref (q 0)), (1, .int x1), (2, .int x2), (3, .int x3), (4, .int x4), (5, .int 0)]) hx hb dX6_flood_56 hl (k := 7) rfl rfl (by decide) rfl (fun ls hl => ?_)
                  refine lv_goto (tgt := 43) hx hb dX6_flood_59 (by decide) ?_
                  exact ih43 v21 (y7 + 1) C8 H locs ls hF hP hD hS (lv_sub hl [2, 3, 4, 5, 6, 7, 1, 0] rfl)
            exact L43 FU 1 0 C H locs ls hF hP hD hS (lv_sub hl [3, 4, 5, 6, 7, 2, 1, 0] rfl)
          · have hF := zif c5 hF
            refine lv_bipush (v := (-2)) hx hb dX6_flood_31 (by decide) ?_
            obtain ⟨e9a, e9b⟩ := Prod.mk.inj (zin hF)
            exact z_wi hx hb hr hlk hP hD hS (congrArg (fun z => some (Value.int z)) e9a) (by rw [e9b]) dX6_flood_33
  · have hF := zif c1 hF
    refine lv_iconst (v := (-1)) hx hb dX6_flood_8 (by decide) ?_
    obtain ⟨e9a, e9b⟩ := Prod.mk.inj (zin hF)
    exact z_wi hx hb hr hlk hP hD hS (congrArg (fun z => some (Value.int z)) e9a) (by rw [e9b]) dX6_flood_9
def f6_gain (x0 : Int32) (x1 : Int32) (x2 : Int32) (x3 : Int32) : Int32 := bd (α := Int32) (if x0 = x2 then 3 else 0) (fun (v1 : Int32) => bd (α := Int32) (if x0 = x3 then 2 else 0) (fun (v3 : Int32) => bd (α := Int32) (if x0 = x1 then 1 else 0) (fun (v5 : Int32) => ((v1 + v3) - v5))))
abbrev rmX6_gain : Room := { frames := 0, cells := 0, slots := 0, locals := 0 }
set_option maxHeartbeats 4000000 in
set_option maxRecDepth 100000 in
theorem c6_gain (l : Launch) (g : zG)  (x0 : Int32) (x1 : Int32) (x2 : Int32) (x3 : Int32) : zRO l g yX6_gain wsX6_gain rmX6_gain [.int x0, .int x1, .int x2, .int x3] [] (some (.int (f6_gain x0 x1 x2 x3))) := by
  obtain ⟨ro, hF⟩ : ∃ y : Int32, f6_gain x0 x1 x2 x3 = y := ⟨_, rfl⟩
  rw [hF]
  refine zRO_of (cc := cX6_gain) (maxL := 4) (ret := (some .int)) (by decide) rfl (Nat.le_of_ble_eq_true rfl) ?_
  intro p e s m args below meth c ls hx hb hr hml hts hown hlk hK hP hl
  have hown : s.vm.findClass RX6 = some m.cls := hown
  have hl : lv_has ls 4 [(0, .int x0), (1, .int x1), (2, .int x2), (3, .int x3)] := hl
  unfold f6_gain at hF
  refine lv_iload_n hx hb dX6_gain_0 rfl (lv_at hl 0 rfl) ?_
  refine lv_iload_n hx hb dX6_gain_1 rfl (lv_at hl 2 rfl) ?_
  obtain ⟨v1, hVv1⟩ : ∃ y : Int32, (if x0 = x2 then 3 else 0 : Int32) = y := ⟨_, rfl⟩
  have hF := bd_eq hVv1.symm hF
  have Jv1 : W p l e (headSpec wsX6_gain rmX6_gain).room s m args below meth c s.heap [] 0 0 (MQ below (zRQ (some (.int ro))) args s 0 0 (fun _ => False)) (F0 m 10 ls [.int v1]) := by
    refine lv_iload_n hx hb dX6_gain_10 rfl (lv_at hl 0 rfl) ?_
    refine lv_iload_n hx hb dX6_gain_11 rfl (lv_at hl 3 rfl) ?_
    obtain ⟨v3, hVv3⟩ : ∃ y : Int32, (if x0 = x3 then 2 else 0 : Int32) = y := ⟨_, rfl⟩
    have hF := bd_eq hVv3.symm hF
    have Jv3 : W p l e (headSpec wsX6_gain rmX6_gain).room s m args below meth c s.heap [] 0 0 (MQ below (zRQ (some (.int ro))) args s 0 0 (fun _ => False)) (F0 m 20 ls [.int v3, .int v1]) := by
      refine lv_iadd hx hb dX6_gain_20 ?_
      refine lv_iload_n hx hb dX6_gain_21 rfl (lv_at hl 0 rfl) ?_
      refine lv_iload_n hx hb dX6_gain_22 rfl (lv_at hl 1 rfl) ?_
      obtain ⟨v5, hVv5⟩ : ∃ y : Int32, (if x0 = x1 then 1 else 0 : Int32) = y := ⟨_, rfl⟩
      have hF := bd_eq hVv5.symm hF
      have Jv5 : W p l e (headSpec wsX6_gain rmX6_gain).room s m args below meth c s.heap [] 0 0 (MQ below (zRQ (some (.int ro))) args s 0 0 (fun _ => False)) (F0 m 31 ls [.int v5, .int (v1 + v3)]) := by
        refine lv_isub hx hb dX6_gain_31 ?_
        exact z_ri hx hb hr hlk (congrArg (fun z => some (Value.int z)) hF) dX6_gain_32
      refine lv_icmp_ne (tgt := 30) hx hb dX6_gain_23 (by decide) (fun c6 => ?_) (fun c6 => ?_)
      · have hVv5 := zif c6 hVv5
        refine lv_iconst (v := 0) hx hb dX6_gain_30 (by decide) ?_
        subst hVv5
        exact Jv5
      · have hVv5 := zit c6 hVv5
        refine lv_iconst (v := 1) hx hb dX6_gain_26 (by decide) ?_
        refine lv_goto (tgt := 31) hx hb dX6_gain_27 (by decide) ?_
        subst hVv5
        exact Jv5
    refine lv_icmp_ne (tgt := 19) hx hb dX6_gain_12 (by decide) (fun c4 => ?_) (fun c4 => ?_)
    · have hVv3 := zif c4 hVv3
      refine lv_iconst (v := 0) hx hb dX6_gain_19 (by decide) ?_
      subst hVv3
      exact Jv3
    · have hVv3 := zit c4 hVv3
      refine lv_iconst (v := 2) hx hb dX6_gain_15 (by decide) ?_
      refine lv_goto (tgt := 20) hx hb dX6_gain_16 (by decide) ?_
      subst hVv3
      exact Jv3
  refine lv_icmp_ne (tgt := 9) hx hb dX6_gain_2 (by decide) (fun c2 => ?_) (fun c2 => ?_)
  · have hVv1 := zif c2 hVv1
    refine lv_iconst (v := 0) hx hb dX6_gain_9 (by decide) ?_
    subst hVv1
    exact Jv1
  · have hVv1 := zit c2 hVv1
    refine lv_iconst (v := 3) hx hb dX6_gain_5 (by decide) ?_
    refine lv_goto (tgt := 10) hx hb dX6_gain_6 (by decide) ?_
    subst hVv1
    exact Jv1
def f6_isNoJoint (C : Cs) (x1 : Int32) : Int32 := if x1 < 0 then 1 else if x1 < (((C.2.2.2.2.2.1).1).1 2) then 0 else 1
abbrev rmX6_isNoJoint : Room := { frames := 0, cells := 0, slots := 0, locals := 0 }
set_option maxHeartbeats 4000000 in
set_option maxRecDepth 100000 in
theorem c6_isNoJoint (l : Launch) (g : zG) (q : Nat → Nat) (C : Cs) (x1 : Int32) : zRO l g yX6_isNoJoint wsX6_isNoJoint rmX6_isNoJoint [.ref (q 0), .int x1] (CW g q C) (some (.int (f6_isNoJoint C x1))) := by
  obtain ⟨ro, hF⟩ : ∃ y : Int32, f6_isNoJoint C x1 = y := ⟨_, rfl⟩
  rw [hF]
  refine zRO_of (cc := cX6_isNoJoint) (maxL := 2) (ret := (some .boolean)) (by decide) rfl (Nat.le_of_ble_eq_true rfl) ?_
  intro p e s m args below meth c ls hx hb hr hml hts hown hlk hK hP hl
  have hown : s.vm.findClass RX6 = some m.cls := hown
  have hl : lv_has ls 2 [(0, .ref (q 0)), (1, .int x1)] := hl
  have inX3 : ∀ w ∈ wsX30, w ∈ wsX6_isNoJoint := fun _ h => List.mem_cons_of_mem _ (List.mem_append_right _ h)
  have inX6 : ∀ w ∈ wsX60, w ∈ wsX6_isNoJoint := fun _ h => List.mem_cons_of_mem _ (List.mem_append_left _ (List.mem_append_right _ h))
  unfold f6_isNoJoint at hF
  refine lv_iload_n hx hb dX6_isNoJoint_0 rfl (lv_at hl 1 rfl) ?_
  refine lv_if_lt (tgt := 15) hx hb dX6_isNoJoint_1 (by decide) (fun c1 => ?_) (fun c1 => ?_)
  · have hF := zit c1 hF
    refine lv_iconst (v := 1) hx hb dX6_isNoJoint_15 (by decide) ?_
    refine lv_goto (tgt := 20) hx hb dX6_isNoJoint_16 (by decide) ?_
    exact z_rz hx hb hr hlk rfl (congrArg (fun z => some (Value.int z)) hF) dX6_isNoJoint_20
  · have hF := zif c1 hF
    refine lv_iload_n hx hb dX6_isNoJoint_4 rfl (lv_at hl 1 rfl) ?_
    refine lv_aload_n hx hb dX6_isNoJoint_5 rfl (lv_at hl 0 rfl) ?_
    refine z_get (ci := 6) (v := .ref (q (13 + 2))) (C := RX6) (T := TX6) (N := 13) hx hb hts inX6 hown hK hP 0 (cwp_0 g q C) rfl 3 (by decide) (List.mem_of_getElem? (i := 1) rfl) rfl rfl dX6_isNoJoint_6 ?_
    refine z_get (ci := 3) (v := .int (((C.2.2.2.2.2.1).1).1 2)) (C := RX3) (T := TX3) (N := 13) hx hb hts inX3 hown hK hP 15 (cwp_15 g q C) rfl 2 (by decide) (List.mem_of_getElem? (i := 2) rfl) rfl rfl dX6_isNoJoint_9 ?_
    refine lv_icmp_lt (tgt := 19) hx hb dX6_isNoJoint_12 (by decide) (fun c2 => ?_) (fun c2 => ?_)
    · have hF := zit c2 hF
      refine lv_iconst (v := 0) hx hb dX6_isNoJoint_19 (by decide) ?_
      exact z_rz hx hb hr hlk rfl (congrArg (fun z => some (Value.int z)) hF) dX6_isNoJoint_20
    · have hF := zif c2 hF
      refine lv_iconst (v := 1) hx hb dX6_isNoJoint_15 (by decide) ?_
      refine lv_goto (tgt := 20) hx hb dX6_isNoJoint_16 (by decide) ?_
      exact z_rz hx hb hr hlk rfl (congrArg (fun z => some (Value.int z)) hF) dX6_isNoJoint_20
theorem b6_isNoJoint (C : Cs) (x1 : Int32) : narrow .boolean (.int (f6_isNoJoint C x1)) = .int (f6_isNoJoint C x1) := by
  unfold f6_isNoJoint
  repeat' split
  all_goals first | rfl | exact rfl
def f6_hear (C : Cs) (x1 : Int32) (x2 : Int32) (x3 : Int32) : Option (Int32 × Cs) := if (f6_isNoWalker C x1) = 0 then if (f6_isNoJoint C x2) = 0 then if x3 < 1 then some ((-2), C) else if x3 ≤ 9 then if ((C.2.2.2.2.2.2.2.1).2) < 6 then (f0_add (C.2.2.2.2.2.2.2.1) x1 x2 x3).bind fun U6 => bd (cHd C U6) (fun (C7 : Cs) => some (((C7.2.2.2.2.2.2.2.1).2), C7)) else some ((-4), C) else some ((-2), C) else some ((-1), C) else some ((-1), C)
abbrev rmX6_hear : Room := { frames := 2, cells := 0, slots := 0, locals := 45 }
set_option maxHeartbeats 4000000 in
set_option maxRecDepth 100000 in
theorem c6_hear (l : Launch) (g : zG) (q : Nat → Nat) (C : Cs) (x1 : Int32) (x2 : Int32) (x3 : Int32) (ro : Int32) (C_o : Cs) (hF : f6_hear C x1 x2 x3 = some (ro, C_o)) : zRW l g yX6_hear wsX6_hear rmX6_hear [.ref (q 0), .int x1, .int x2, .int x3] (CW g q C) (some (.int ro)) (CW g q C_o) := by
  refine zRW_of (cc := cX6_hear) (maxL := 4) (ret := (some .int)) (by decide) rfl (Nat.le_of_ble_eq_true rfl) ?_
  intro p e s m args below meth c A H locs ls hx hb hr hml hts hown hlk hK hA hP hD hS hl
  have hown : s.vm.findClass RX6 = some m.cls := hown
  have hl : lv_has ls 4 [(0, .ref (q 0)), (1, .int x1), (2, .int x2), (3, .int x3)] := hl
  have inX0 : ∀ w ∈ wsX00, w ∈ wsX6_hear := fun _ h => List.mem_cons_of_mem _ (List.mem_append_left _ (List.mem_append_right _ h))
  have inX6 : ∀ w ∈ wsX60, w ∈ wsX6_hear := fun _ h => List.mem_cons_of_mem _ (List.mem_append_left _ (List.mem_append_left _ (List.mem_append_right _ h)))
  unfold f6_hear at hF
  refine lv_aload_n hx hb dX6_hear_0 rfl (lv_at hl 0 rfl) ?_
  refine lv_iload_n hx hb dX6_hear_1 rfl (lv_at hl 1 rfl) ?_
  refine z_rgo (va_runV (As := [.int x1]) (rest := []) ⟨hx, hb, hml, hown, hts⟩ (c6_isNoWalker l g q C x1) (cwV 1 hts gX6_hear_X6_isNoWalker rfl rfl rfl (by decide +kernel) ⟨Nat.le_of_ble_eq_true rfl, Nat.le_of_ble_eq_true rfl⟩) (z_rpreV (ci := 6) (q := (RX6, TX6, 13)) (q0 := 0) hP hK rfl rfl) rfl rfl hl.1 rfl (lv_room (Nat.le_of_ble_eq_true rfl)) dX6_hear_2 ⟨Nat.zero_le _, Nat.zero_le _⟩) ?_
  refine lv_if_ne (tgt := 16) hx hb dX6_hear_5 (by decide) (fun c1 => ?_) (fun c1 => ?_)
  · have hF := zif c1 hF
    refine lv_iconst (v := (-1)) hx hb dX6_hear_16 (by decide) ?_
    obtain ⟨e9a, e9b⟩ := Prod.mk.inj (zin hF)
    exact z_wi hx hb hr hlk hP hD hS (congrArg (fun z => some (Value.int z)) e9a) (by rw [e9b]) dX6_hear_17
  · have hF := zit c1 hF
    refine lv_aload_n hx hb dX6_hear_8 rfl (lv_at hl 0 rfl) ?_
    refine lv_iload_n hx hb dX6_hear_9 rfl (lv_at hl 2 rfl) ?_
    refine z_rgo (va_runV (As := [.int x2]) (rest := []) ⟨hx, hb, hml, hown, hts⟩ (c6_isNoJoint l g q C x2) (cwV 1 hts gX6_hear_X6_isNoJoint rfl rfl rfl (by decide +kernel) ⟨Nat.le_of_ble_eq_true rfl, Nat.le_of_ble_eq_true rfl⟩) (z_rpreV (ci := 6) (q := (RX6, TX6, 13)) (q0 := 0) hP hK rfl rfl) rfl rfl hl.1 rfl (lv_room (Nat.le_of_ble_eq_true rfl)) dX6_hear_10 ⟨Nat.zero_le _, Nat.zero_le _⟩) ?_
    refine lv_if_eq (tgt := 18) hx hb dX6_hear_13 (by decide) (fun c2 => ?_) (fun c2 => ?_)
    · have hF := zit c2 hF
      refine lv_iload_n hx hb dX6_hear_18 rfl (lv_at hl 3 rfl) ?_
      refine lv_iconst (v := 1) hx hb dX6_hear_19 (by decide) ?_
      refine lv_icmp_lt (tgt := 29) hx hb dX6_hear_20 (by decide) (fun c3 => ?_) (fun c3 => ?_)
      · have hF := zit c3 hF
        refine lv_bipush (v := (-2)) hx hb dX6_hear_29 (by decide) ?_
        obtain ⟨e9a, e9b⟩ := Prod.mk.inj (zin hF)
        exact z_wi hx hb hr hlk hP hD hS (congrArg (fun z => some (Value.int z)) e9a) (by rw [e9b]) dX6_hear_31
      · have hF := zif c3 hF
        refine lv_iload_n hx hb dX6_hear_23 rfl (lv_at hl 3 rfl) ?_
        refine lv_bipush (v := 9) hx hb dX6_hear_24 (by decide) ?_
        refine lv_icmp_le (tgt := 32) hx hb dX6_hear_26 (by decide) (fun c4 => ?_) (fun c4 => ?_)
        · have hF := zit c4 hF
          refine lv_aload_n hx hb dX6_hear_32 rfl (lv_at hl 0 rfl) ?_
          refine z_get (ci := 6) (v := .ref (q 46)) (C := RX6) (T := TX6) (N := 13) hx hb hts inX6 hown hK hP 0 (cwp_0 g q C) rfl 10 (by decide) (List.mem_of_getElem? (i := 1) rfl) rfl rfl dX6_hear_33 ?_
          refine z_get (ci := 0) (v := .int ((C.2.2.2.2.2.2.2.1).2)) (C := RX0) (T := TX0) (N := 4) hx hb hts inX0 hown hK hP 46 (cwp_46 g q C) rfl 3 (by decide) (List.mem_of_getElem? (i := 2) rfl) rfl rfl dX6_hear_36 ?_
          refine lv_bipush (v := 6) hx hb dX6_hear_39 (by decide) ?_
          refine lv_icmp_lt (tgt := 47) hx hb dX6_hear_41 (by decide) (fun c5 => ?_) (fun c5 => ?_)
          · have hF := zit c5 hF
            refine lv_aload_n hx hb dX6_hear_47 rfl (lv_at hl 0 rfl) ?_
            refine z_get (ci := 6) (v := .ref (q 46)) (C := RX6) (T := TX6) (N := 13) hx hb hts inX6 hown hK hP 0 (cwp_0 g q C) rfl 10 (by decide) (List.mem_of_getElem? (i := 1) rfl) rfl rfl dX6_hear_48 ?_
            refine lv_iload_n hx hb dX6_hear_51 rfl (lv_at hl 1 rfl) ?_
            refine lv_iload_n hx hb dX6_hear_52 rfl (lv_at hl 2 rfl) ?_
            refine lv_iload_n hx hb dX6_hear_53 rfl (lv_at hl 3 rfl) ?_
            obtain ⟨U6, hU6, hF⟩ := zob hF
            refine z_wgo (wn := CW g q (cHd C U6)) (va_runV (As := [.int x1, .int x2, .int x3]) (rest := []) ⟨hx, hb, hml, hown, hts⟩ ((c0_add l g q 46 (C.2.2.2.2.2.2.2.1) x1 x2 x3  U6 hU6) H.size) (cwV 3 hts gX6_hear_X0_add rfl rfl rfl (by decide +kernel) ⟨Nat.le_of_ble_eq_true rfl, Nat.le_of_ble_eq_true rfl⟩) (z_wpreV (ci := 0) (q := (RX0, TX0, 4)) (q0 := 0) (z_Psub hP _ (cwm_46_4_49 g q C)) hK (z_any (hD.sub _ (by decide) (cwm_46_4_49 g q C))) rfl rfl) rfl rfl hl.1 rfl (lv_room (Nat.le_of_ble_eq_true rfl)) dX6_hear_54 ⟨Nat.zero_le _, Nat.zero_le _⟩) hP hD hS hA _ (cwm_46_4_49 g q C) (by decide) rfl (cww_46_4_49 g q C U6) (fun H locs hP hD hS => ?_)
            show W p l e (headSpec wsX6_hear rmX6_hear).room s m args below meth c H locs 0 0 (MQ below (zWQ g A (CW g q C_o) (some (.int ro))) args s 0 0 A) (F0 m 57 ls [])
            obtain ⟨C7, eC7⟩ : ∃ y : Cs, y = (cHd C U6) := ⟨_, rfl⟩
            rw [← eC7] at hP hD
            have hF := bd_eq eC7 hF
            refine lv_aload_n hx hb dX6_hear_57 rfl (lv_at hl 0 rfl) ?_
            refine z_get (ci := 6) (v := .ref (q 46)) (C := RX6) (T := TX6) (N := 13) hx hb hts inX6 hown hK hP 0 (cwp_0 g q C7) rfl 10 (by decide) (List.mem_of_getElem? (i := 1) rfl) rfl rfl dX6_hear_58 ?_
            refine z_get (ci := 0) (v := .int ((C7.2.2.2.2.2.2.2.1).2)) (C := RX0) (T := TX0) (N := 4) hx hb hts inX0 hown hK hP 46 (cwp_46 g q C7) rfl 3 (by decide) (List.mem_of_getElem? (i := 2) rfl) rfl rfl dX6_hear_61 ?_
            obtain ⟨e9a, e9b⟩ := Prod.mk.inj (zin hF)
            exact z_wi hx hb hr hlk hP hD hS (congrArg (fun z => some (Value.int z)) e9a) (by rw [e9b]) dX6_hear_64
          · have hF := zif c5 hF
            refine lv_bipush (v := (-4)) hx hb dX6_hear_44 (by decide) ?_
            obtain ⟨e9a, e9b⟩ := Prod.mk.inj (zin hF)
            exact z_wi hx hb hr hlk hP hD hS (congrArg (fun z => some (Value.int z)) e9a) (by rw [e9b]) dX6_hear_46
        · have hF := zif c4 hF
          refine lv_bipush (v := (-2)) hx hb dX6_hear_29 (by decide) ?_
          obtain ⟨e9a, e9b⟩ := Prod.mk.inj (zin hF)
          exact z_wi hx hb hr hlk hP hD hS (congrArg (fun z => some (Value.int z)) e9a) (by rw [e9b]) dX6_hear_31
    · have hF := zif c2 hF
      refine lv_iconst (v := (-1)) hx hb dX6_hear_16 (by decide) ?_
      obtain ⟨e9a, e9b⟩ := Prod.mk.inj (zin hF)
      exact z_wi hx hb hr hlk hP hD hS (congrArg (fun z => some (Value.int z)) e9a) (by rw [e9b]) dX6_hear_17

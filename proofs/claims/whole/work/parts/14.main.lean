def f6_isNoChoice (x0 : Int32) : Int32 := if x0 < 0 then 1 else if x0 ≤ 1 then 0 else 1
abbrev rmX6_isNoChoice : Room := { frames := 0, cells := 0, slots := 0, locals := 0 }
set_option maxHeartbeats 4000000 in
set_option maxRecDepth 100000 in
theorem c6_isNoChoice (l : Launch) (g : zG)  (x0 : Int32) : zRO l g yX6_isNoChoice wsX6_isNoChoice rmX6_isNoChoice [.int x0] [] (some (.int (f6_isNoChoice x0))) := by
  obtain ⟨ro, hF⟩ : ∃ y : Int32, f6_isNoChoice x0 = y := ⟨_, rfl⟩
  rw [hF]
  refine zRO_of (cc := cX6_isNoChoice) (maxL := 1) (ret := (some .boolean)) (by decide) rfl (Nat.le_of_ble_eq_true rfl) ?_
  intro p e s m args below meth c ls hx hb hr hml hts hown hlk hK hP hl
  have hown : s.vm.findClass RX6 = some m.cls := hown
  have hl : lv_has ls 1 [(0, .int x0)] := hl
  unfold f6_isNoChoice at hF
  refine lv_iload_n hx hb dX6_isNoChoice_0 rfl (lv_at hl 0 rfl) ?_
  refine lv_if_lt (tgt := 9) hx hb dX6_isNoChoice_1 (by decide) (fun c1 => ?_) (fun c1 => ?_)
  · have hF := zit c1 hF
    refine lv_iconst (v := 1) hx hb dX6_isNoChoice_9 (by decide) ?_
    refine lv_goto (tgt := 14) hx hb dX6_isNoChoice_10 (by decide) ?_
    subst hF
    exact z_rz hx hb hr hlk rfl rfl dX6_isNoChoice_14
  · have hF := zif c1 hF
    refine lv_iload_n hx hb dX6_isNoChoice_4 rfl (lv_at hl 0 rfl) ?_
    refine lv_iconst (v := 1) hx hb dX6_isNoChoice_5 (by decide) ?_
    refine lv_icmp_le (tgt := 13) hx hb dX6_isNoChoice_6 (by decide) (fun c2 => ?_) (fun c2 => ?_)
    · have hF := zit c2 hF
      refine lv_iconst (v := 0) hx hb dX6_isNoChoice_13 (by decide) ?_
      subst hF
      exact z_rz hx hb hr hlk rfl rfl dX6_isNoChoice_14
    · have hF := zif c2 hF
      refine lv_iconst (v := 1) hx hb dX6_isNoChoice_9 (by decide) ?_
      refine lv_goto (tgt := 14) hx hb dX6_isNoChoice_10 (by decide) ?_
      subst hF
      exact z_rz hx hb hr hlk rfl rfl dX6_isNoChoice_14
theorem b6_isNoChoice (x0 : Int32) : narrow .boolean (.int (f6_isNoChoice x0)) = .int (f6_isNoChoice x0) := by
  unfold f6_isNoChoice
  repeat' split
  all_goals first | rfl | exact rfl
def f6_again (C : Cs) (x1 : Int32) : Option (Int32 × Cs) := if (f6_isNoChoice x1) = 0 then if (f6_has (C.2.2.2.2.2.2.2.2.1) x1) = 0 then some ((-3), C) else if x1 = 0 then (f2_copy (C.1 0) (C.1 2)).bind fun M4 => bd (cM C 0 M4) (fun (C5 : Cs) => bd (cRn C5 0) (fun (C6 : Cs) => some (((C6.1 0).1 8), C6))) else (f2_copy (C.1 0) (C.1 3)).bind fun M7 => bd (cM C 0 M7) (fun (C8 : Cs) => bd (cRn C8 0) (fun (C9 : Cs) => some (((C9.1 0).1 8), C9))) else some ((-1), C)
abbrev rmX6_again : Room := { frames := 2, cells := 0, slots := 0, locals := 44 }
set_option maxHeartbeats 4000000 in
set_option maxRecDepth 100000 in
theorem c6_again (l : Launch) (g : zG) (q : Nat → Nat) (C : Cs) (x1 : Int32) (ro : Int32) (C_o : Cs) (hF : f6_again C x1 = some (ro, C_o)) : zRW l g yX6_again wsX6_again rmX6_again [.ref (q 0), .int x1] (CW g q C) (some (.int ro)) (CW g q C_o) := by
  refine zRW_of (cc := cX6_again) (maxL := 2) (ret := (some .int)) (by decide) rfl (Nat.le_of_ble_eq_true rfl) ?_
  intro p e s m args below meth c A H locs ls hx hb hr hml hts hown hlk hK hA hP hD hS hl
  have hown : s.vm.findClass RX6 = some m.cls := hown
  have hl : lv_has ls 2 [(0, .ref (q 0)), (1, .int x1)] := hl
  have inX2 : ∀ w ∈ wsX20, w ∈ wsX6_again := fun _ h => List.mem_cons_of_mem _ (List.mem_append_right _ h)
  have inX5 : ∀ w ∈ wsX50, w ∈ wsX6_again := fun _ h => List.mem_cons_of_mem _ (List.mem_append_left _ (List.mem_append_right _ h))
  have inX6 : ∀ w ∈ wsX60, w ∈ wsX6_again := fun _ h => List.mem_cons_of_mem _ (List.mem_append_left _ (List.mem_append_left _ (List.mem_append_right _ h)))
  unfold f6_again at hF
  refine lv_iload_n hx hb dX6_again_0 rfl (lv_at hl 1 rfl) ?_
  refine z_rgo (va_runS (As := [.int x1]) (rest := []) ⟨hx, hb, hml, hown, hts⟩ (c6_isNoChoice l g   x1) (va_cwS 1 hts gX6_again_X6_isNoChoice rfl rfl rfl (by decide +kernel) ⟨Nat.le_of_ble_eq_true rfl, Nat.le_of_ble_eq_true rfl⟩) (z_rpre z_nil hK) rfl rfl hl.1 rfl (lv_room (Nat.le_of_ble_eq_true rfl)) dX6_again_1 ⟨Nat.zero_le _, Nat.zero_le _⟩) ?_
  refine lv_if_eq (tgt := 9) hx hb dX6_again_4 (by decide) (fun c1 => ?_) (fun c1 => ?_)
  · have hF := zit c1 hF
    refine lv_aload_n hx hb dX6_again_9 rfl (lv_at hl 0 rfl) ?_
    refine z_get (ci := 6) (v := .int (C.2.2.2.2.2.2.2.2.1)) (C := RX6) (T := TX6) (N := 13) hx hb hts inX6 hown hK hP 0 rfl rfl 11 (by decide) (List.mem_of_getElem? (i := 1) rfl) rfl rfl dX6_again_10 ?_
    refine lv_iload_n hx hb dX6_again_13 rfl (lv_at hl 1 rfl) ?_
    refine z_rgo (va_runS (As := [.int (C.2.2.2.2.2.2.2.2.1), .int x1]) (rest := []) ⟨hx, hb, hml, hown, hts⟩ (c6_has l g   (C.2.2.2.2.2.2.2.2.1) x1) (va_cwS 2 hts gX6_again_X6_has rfl rfl rfl (by decide +kernel) ⟨Nat.le_of_ble_eq_true rfl, Nat.le_of_ble_eq_true rfl⟩) (z_rpre z_nil hK) rfl rfl hl.1 rfl (lv_room (Nat.le_of_ble_eq_true rfl)) dX6_again_14 ⟨Nat.zero_le _, Nat.zero_le _⟩) ?_
    refine lv_if_ne (tgt := 23) hx hb dX6_again_17 (by decide) (fun c2 => ?_) (fun c2 => ?_)
    · have hF := zif c2 hF
      refine lv_aload_n hx hb dX6_again_23 rfl (lv_at hl 0 rfl) ?_
      refine z_get (ci := 6) (v := .ref (q 23)) (C := RX6) (T := TX6) (N := 13) hx hb hts inX6 hown hK hP 0 rfl rfl 4 (by decide) (List.mem_of_getElem? (i := 2) rfl) rfl rfl dX6_again_24 ?_
      refine lv_aload_n hx hb dX6_again_27 rfl (lv_at hl 0 rfl) ?_
      refine lv_iload_n hx hb dX6_again_28 rfl (lv_at hl 1 rfl) ?_
      by_cases c3 : x1 = 0
      · have hF := zit c3 hF
        refine z_rgo (va_runV (As := [.int x1]) (rest := [.ref (q 23)]) ⟨hx, hb, hml, hown, hts⟩ (c6_slot0 l g q C x1 c3) (cwV 1 hts gX6_again_X6_slotOf rfl rfl rfl (by decide +kernel) ⟨Nat.le_of_ble_eq_true rfl, Nat.le_of_ble_eq_true rfl⟩) (z_rpreV (ci := 6) (q := (RX6, TX6, 13)) (q0 := 0) hP hK rfl rfl) rfl rfl hl.1 rfl (lv_room (Nat.le_of_ble_eq_true rfl)) dX6_again_29 ⟨Nat.zero_le _, Nat.zero_le _⟩) ?_
        obtain ⟨M4, hM4, hF⟩ := zob hF
        refine z_wgo (wn := CW g q (cM C 0 M4)) (va_runV (As := [.ref (q 36)]) (rest := []) ⟨hx, hb, hml, hown, hts⟩ ((c2_copy l g q 23 q 36 (C.1 0) (C.1 2)   M4 hM4) H.size) (cwV 1 hts gX6_again_X2_copy rfl rfl rfl (by decide +kernel) ⟨Nat.le_of_ble_eq_true rfl, Nat.le_of_ble_eq_true rfl⟩) (z_wpreV (ci := 2) (q := (RX2, TX2, 9)) (q0 := 0) (hP.sub (ws' := (OW g q 23 (C.1 0) ++ OW g q 36 (C.1 2))) [23, 24, 25, 26, 27, 36, 37, 38, 39, 40] rfl) hK (z_any (hD.sub (ws' := (OW g q 23 (C.1 0) ++ OW g q 36 (C.1 2))) [23, 24, 25, 26, 27, 36, 37, 38, 39, 40] (by decide) rfl)) rfl rfl) rfl rfl hl.1 rfl (lv_room (Nat.le_of_ble_eq_true rfl)) dX6_again_32 ⟨Nat.zero_le _, Nat.zero_le _⟩) hP hD hS hA [23, 24, 25, 26, 27, 36, 37, 38, 39, 40] rfl (by decide) rfl rfl (fun H locs hP hD hS => ?_)
        show W p l e (headSpec wsX6_again rmX6_again).room s m args below meth c H locs 0 0 (MQ below (zWQ g A (CW g q C_o) (some (.int ro))) args s 0 0 A) (F0 m 35 ls [])
        obtain ⟨C5, eC5⟩ : ∃ y : Cs, y = (cM C 0 M4) := ⟨_, rfl⟩
        rw [← eC5] at hP hD
        have hF := bd_eq eC5 hF
        refine lv_aload_n hx hb dX6_again_35 rfl (lv_at hl 0 rfl) ?_
        refine z_get (ci := 6) (v := .ref (q 34)) (C := RX6) (T := TX6) (N := 13) hx hb hts inX6 hown hK hP 0 rfl rfl 7 (by decide) (List.mem_of_getElem? (i := 3) rfl) rfl rfl dX6_again_36 ?_
        refine lv_iconst (v := 0) hx hb dX6_again_39 (by decide) ?_
        refine z_put (ci := 5) (v := .int 0) (C := RX5) (T := TX5) (N := 2) (ws' := CW g q (cRn C5 0)) hx hb hts inX5 tyX5 tyX5_ok nmX5 hown hK hP hD hS 34 rfl rfl 1 (by decide) (List.mem_of_getElem? (i := 4) rfl) rfl rfl rfl rfl (Nat.le_of_ble_eq_true rfl) rfl dX6_again_40 (fun H locs hP hD hS => ?_)
        obtain ⟨C6, eC6⟩ : ∃ y : Cs, y = (cRn C5 0) := ⟨_, rfl⟩
        rw [← eC6] at hP hD
        have hF := bd_eq eC6 hF
        refine lv_aload_n hx hb dX6_again_43 rfl (lv_at hl 0 rfl) ?_
        refine z_get (ci := 6) (v := .ref (q 23)) (C := RX6) (T := TX6) (N := 13) hx hb hts inX6 hown hK hP 0 rfl rfl 4 (by decide) (List.mem_of_getElem? (i := 2) rfl) rfl rfl dX6_again_44 ?_
        refine z_get (ci := 2) (v := .int ((C6.1 0).1 8)) (C := RX2) (T := TX2) (N := 9) hx hb hts inX2 hown hK hP 23 rfl rfl 8 (by decide) (List.mem_of_getElem? (i := 5) rfl) rfl rfl dX6_again_47 ?_
        cases hF
        exact z_wi hx hb hr hlk hP hD hS rfl rfl dX6_again_50
      · have hF := zif c3 hF
        refine z_rgo (va_runV (As := [.int x1]) (rest := [.ref (q 23)]) ⟨hx, hb, hml, hown, hts⟩ (c6_slot1 l g q C x1 c3) (cwV 1 hts gX6_again_X6_slotOf rfl rfl rfl (by decide +kernel) ⟨Nat.le_of_ble_eq_true rfl, Nat.le_of_ble_eq_true rfl⟩) (z_rpreV (ci := 6) (q := (RX6, TX6, 13)) (q0 := 0) hP hK rfl rfl) rfl rfl hl.1 rfl (lv_room (Nat.le_of_ble_eq_true rfl)) dX6_again_29 ⟨Nat.zero_le _, Nat.zero_le _⟩) ?_
        obtain ⟨M7, hM7, hF⟩ := zob hF
        refine z_wgo (wn := CW g q (cM C 0 M7)) (va_runV (As := [.ref (q 41)]) (rest := []) ⟨hx, hb, hml, hown, hts⟩ ((c2_copy l g q 23 q 41 (C.1 0) (C.1 3)   M7 hM7) H.size) (cwV 1 hts gX6_again_X2_copy rfl rfl rfl (by decide +kernel) ⟨Nat.le_of_ble_eq_true rfl, Nat.le_of_ble_eq_true rfl⟩) (z_wpreV (ci := 2) (q := (RX2, TX2, 9)) (q0 := 0) (hP.sub (ws' := (OW g q 23 (C.1 0) ++ OW g q 41 (C.1 3))) [23, 24, 25, 26, 27, 41, 42, 43, 44, 45] rfl) hK (z_any (hD.sub (ws' := (OW g q 23 (C.1 0) ++ OW g q 41 (C.1 3))) [23, 24, 25, 26, 27, 41, 42, 43, 44, 45] (by decide) rfl)) rfl rfl) rfl rfl hl.1 rfl (lv_room (Nat.le_of_ble_eq_true rfl)) dX6_again_32 ⟨Nat.zero_le _, Nat.zero_le _⟩) hP hD hS hA [23, 24, 25, 26, 27, 41, 42, 43, 44, 45] rfl (by decide) rfl rfl (fun H locs hP hD hS => ?_)
        show W p l e (headSpec wsX6_again rmX6_again).room s m args below meth c H locs 0 0 (MQ below (zWQ g A (CW g q C_o) (some (.int ro))) args s 0 0 A) (F0 m 35 ls [])
        obtain ⟨C8, eC8⟩ : ∃ y : Cs, y = (cM C 0 M7) := ⟨_, rfl⟩
        rw [← eC8] at hP hD
        have hF := bd_eq eC8 hF
        refine lv_aload_n hx hb dX6_again_35 rfl (lv_at hl 0 rfl) ?_
        refine z_get (ci := 6) (v := .ref (q 34)) (C := RX6) (T := TX6) (N := 13) hx hb hts inX6 hown hK hP 0 rfl rfl 7 (by decide) (List.mem_of_getElem? (i := 3) rfl) rfl rfl dX6_again_36 ?_
        refine lv_iconst (v := 0) hx hb dX6_again_39 (by decide) ?_
        refine z_put (ci := 5) (v := .int 0) (C := RX5) (T := TX5) (N := 2) (ws' := CW g q (cRn C8 0)) hx hb hts inX5 tyX5 tyX5_ok nmX5 hown hK hP hD hS 34 rfl rfl 1 (by decide) (List.mem_of_getElem? (i := 4) rfl) rfl rfl rfl rfl (Nat.le_of_ble_eq_true rfl) rfl dX6_again_40 (fun H locs hP hD hS => ?_)
        obtain ⟨C9, eC9⟩ : ∃ y : Cs, y = (cRn C8 0) := ⟨_, rfl⟩
        rw [← eC9] at hP hD
        have hF := bd_eq eC9 hF
        refine lv_aload_n hx hb dX6_again_43 rfl (lv_at hl 0 rfl) ?_
        refine z_get (ci := 6) (v := .ref (q 23)) (C := RX6) (T := TX6) (N := 13) hx hb hts inX6 hown hK hP 0 rfl rfl 4 (by decide) (List.mem_of_getElem? (i := 2) rfl) rfl rfl dX6_again_44 ?_
        refine z_get (ci := 2) (v := .int ((C9.1 0).1 8)) (C := RX2) (T := TX2) (N := 9) hx hb hts inX2 hown hK hP 23 rfl rfl 8 (by decide) (List.mem_of_getElem? (i := 5) rfl) rfl rfl dX6_again_47 ?_
        cases hF
        exact z_wi hx hb hr hlk hP hD hS rfl rfl dX6_again_50
    · have hF := zit c2 hF
      refine lv_bipush (v := (-3)) hx hb dX6_again_20 (by decide) ?_
      cases hF
      exact z_wi hx hb hr hlk hP hD hS rfl rfl dX6_again_22
  · have hF := zif c1 hF
    refine lv_iconst (v := (-1)) hx hb dX6_again_7 (by decide) ?_
    cases hF
    exact z_wi hx hb hr hlk hP hD hS rfl rfl dX6_again_8
def f6_tryFromNow (C : Cs) (x1 : Int32) : Option (Cs) := (f2_copy (C.1 1) (C.1 0)).bind fun M1 => bd (cM C 1 M1) (fun (C2 : Cs) => (f2_advanceTimes (C2.1 1) ((C2.2.2.2.2.2.1).1) x1).bind fun M3 => bd (cM C2 1 M3) (fun (C4 : Cs) => some C4))
abbrev rmX6_tryFromNow : Room := { frames := 5, cells := 0, slots := 0, locals := 120 }
set_option maxHeartbeats 4000000 in
set_option maxRecDepth 100000 in
theorem c6_tryFromNow (l : Launch) (g : zG) (q : Nat → Nat) (C : Cs) (x1 : Int32) (C_o : Cs) (hF : f6_tryFromNow C x1 = some C_o) : zRW l g yX6_tryFromNow wsX6_tryFromNow rmX6_tryFromNow [.ref (q 0), .int x1] (CW g q C) none (CW g q C_o) := by
  refine zRW_of (cc := cX6_tryFromNow) (maxL := 2) (ret := none) (by decide) rfl (Nat.le_of_ble_eq_true rfl) ?_
  intro p e s m args below meth c A H locs ls hx hb hr hml hts hown hlk hK hA hP hD hS hl
  have hown : s.vm.findClass RX6 = some m.cls := hown
  have hl : lv_has ls 2 [(0, .ref (q 0)), (1, .int x1)] := hl
  have inX6 : ∀ w ∈ wsX60, w ∈ wsX6_tryFromNow := fun _ h => List.mem_cons_of_mem _ (List.mem_append_left _ (List.mem_append_left _ (List.mem_append_right _ h)))
  unfold f6_tryFromNow at hF
  refine lv_aload_n hx hb dX6_tryFromNow_0 rfl (lv_at hl 0 rfl) ?_
  refine z_get (ci := 6) (v := .ref (q 28)) (C := RX6) (T := TX6) (N := 13) hx hb hts inX6 hown hK hP 0 rfl rfl 5 (by decide) (List.mem_of_getElem? (i := 1) rfl) rfl rfl dX6_tryFromNow_1 ?_
  refine lv_aload_n hx hb dX6_tryFromNow_4 rfl (lv_at hl 0 rfl) ?_
  refine z_get (ci := 6) (v := .ref (q 23)) (C := RX6) (T := TX6) (N := 13) hx hb hts inX6 hown hK hP 0 rfl rfl 4 (by decide) (List.mem_of_getElem? (i := 2) rfl) rfl rfl dX6_tryFromNow_5 ?_
  obtain ⟨M1, hM1, hF⟩ := zob hF
  refine z_wgo (wn := CW g q (cM C 1 M1)) (va_runV (As := [.ref (q 23)]) (rest := []) ⟨hx, hb, hml, hown, hts⟩ ((c2_copy l g q 28 q 23 (C.1 1) (C.1 0)   M1 hM1) H.size) (cwV 1 hts gX6_tryFromNow_X2_copy rfl rfl rfl (by decide +kernel) ⟨Nat.le_of_ble_eq_true rfl, Nat.le_of_ble_eq_true rfl⟩) (z_wpreV (ci := 2) (q := (RX2, TX2, 9)) (q0 := 0) (hP.sub (ws' := (OW g q 28 (C.1 1) ++ OW g q 23 (C.1 0))) [28, 29, 30, 31, 32, 23, 24, 25, 26, 27] rfl) hK (z_any (hD.sub (ws' := (OW g q 28 (C.1 1) ++ OW g q 23 (C.1 0))) [28, 29, 30, 31, 32, 23, 24, 25, 26, 27] (by decide) rfl)) rfl rfl) rfl rfl hl.1 rfl (lv_room (Nat.le_of_ble_eq_true rfl)) dX6_tryFromNow_8 ⟨Nat.zero_le _, Nat.zero_le _⟩) hP hD hS hA [28, 29, 30, 31, 32, 23, 24, 25, 26, 27] rfl (by decide) rfl rfl (fun H locs hP hD hS => ?_)
  show W p l e (headSpec wsX6_tryFromNow rmX6_tryFromNow).room s m args below meth c H locs 0 0 (MQ below (zWQ g A (CW g q C_o) none) args s 0 0 A) (F0 m 11 ls [])
  obtain ⟨C2, eC2⟩ : ∃ y : Cs, y = (cM C 1 M1) := ⟨_, rfl⟩
  rw [← eC2] at hP hD
  have hF := bd_eq eC2 hF
  refine lv_aload_n hx hb dX6_tryFromNow_11 rfl (lv_at hl 0 rfl) ?_
  refine z_get (ci := 6) (v := .ref (q 28)) (C := RX6) (T := TX6) (N := 13) hx hb hts inX6 hown hK hP 0 rfl rfl 5 (by decide) (List.mem_of_getElem? (i := 1) rfl) rfl rfl dX6_tryFromNow_12 ?_
  refine lv_iload_n hx hb dX6_tryFromNow_15 rfl (lv_at hl 1 rfl) ?_
  refine lv_aload_n hx hb dX6_tryFromNow_16 rfl (lv_at hl 0 rfl) ?_
  refine z_get (ci := 6) (v := .ref (q (13 + 2))) (C := RX6) (T := TX6) (N := 13) hx hb hts inX6 hown hK hP 0 rfl rfl 3 (by decide) (List.mem_of_getElem? (i := 3) rfl) rfl rfl dX6_tryFromNow_17 ?_
  obtain ⟨M3, hM3, hF⟩ := zob hF
  refine z_wgo (wn := CW g q (cM C2 1 M3)) (va_runV (As := [.int x1, .ref (q (13 + 2))]) (rest := []) ⟨hx, hb, hml, hown, hts⟩ ((c2_advanceTimes l g q 28 q (13 + 2) (C2.1 1) ((C2.2.2.2.2.2.1).1) x1  M3 hM3) H.size) (cwV 2 hts gX6_tryFromNow_X2_advanceTimes rfl rfl rfl (by decide +kernel) ⟨Nat.le_of_ble_eq_true rfl, Nat.le_of_ble_eq_true rfl⟩) (z_wpreV (ci := 2) (q := (RX2, TX2, 9)) (q0 := 0) (hP.sub (ws' := (OW g q 28 (C2.1 1) ++ NW g q (13 + 2) ((C2.2.2.2.2.2.1).1))) [28, 29, 30, 31, 32, 15, 16, 17, 18, 19, 20, 21, 22] rfl) hK (z_any (hD.sub (ws' := (OW g q 28 (C2.1 1) ++ NW g q (13 + 2) ((C2.2.2.2.2.2.1).1))) [28, 29, 30, 31, 32, 15, 16, 17, 18, 19, 20, 21, 22] (by decide) rfl)) rfl rfl) rfl rfl hl.1 rfl (lv_room (Nat.le_of_ble_eq_true rfl)) dX6_tryFromNow_20 ⟨Nat.zero_le _, Nat.zero_le _⟩) hP hD hS hA [28, 29, 30, 31, 32, 15, 16, 17, 18, 19, 20, 21, 22] rfl (by decide) rfl rfl (fun H locs hP hD hS => ?_)
  show W p l e (headSpec wsX6_tryFromNow rmX6_tryFromNow).room s m args below meth c H locs 0 0 (MQ below (zWQ g A (CW g q C_o) none) args s 0 0 A) (F0 m 23 ls [])
  obtain ⟨C4, eC4⟩ : ∃ y : Cs, y = (cM C2 1 M3) := ⟨_, rfl⟩
  rw [← eC4] at hP hD
  have hF := bd_eq eC4 hF
  cases hF
  exact z_wv hx hb hr hlk hP hD hS rfl dX6_tryFromNow_23
def f6_ahead (C : Cs) (x1 : Int32) (x2 : Int32) : Option (Int32 × Cs) := if x1 < 0 then some ((-2), C) else if 30 < x1 then some ((-2), C) else if (f6_isNoChoice x2) = 0 then (f6_tryFromNow C x1).bind fun C4 => if x2 = 0 then some (((C4.1 1).1 5), C4) else (f2_right (C4.1 1) ((C4.2.2.2.2.2.1).1)).bind fun v6 => some (v6, C4) else some ((-2), C)
abbrev rmX6_ahead : Room := { frames := 6, cells := 0, slots := 0, locals := 141 }
set_option maxHeartbeats 4000000 in
set_option maxRecDepth 100000 in
theorem c6_ahead (l : Launch) (g : zG) (q : Nat → Nat) (C : Cs) (x1 : Int32) (x2 : Int32) (ro : Int32) (C_o : Cs) (hF : f6_ahead C x1 x2 = some (ro, C_o)) : zRW l g yX6_ahead wsX6_ahead rmX6_ahead [.ref (q 0), .int x1, .int x2] (CW g q C) (some (.int ro)) (CW g q C_o) := by
  refine zRW_of (cc := cX6_ahead) (maxL := 3) (ret := (some .int)) (by decide) rfl (Nat.le_of_ble_eq_true rfl) ?_
  intro p e s m args below meth c A H locs ls hx hb hr hml hts hown hlk hK hA hP hD hS hl
  have hown : s.vm.findClass RX6 = some m.cls := hown
  have hl : lv_has ls 3 [(0, .ref (q 0)), (1, .int x1), (2, .int x2)] := hl
  have inX2 : ∀ w ∈ wsX20, w ∈ wsX6_ahead := fun _ h => List.mem_cons_of_mem _ (List.mem_append_left _ (List.mem_append_right _ h))
  have inX6 : ∀ w ∈ wsX60, w ∈ wsX6_ahead := fun _ h => List.mem_cons_of_mem _ (List.mem_append_left _ (List.mem_append_left _ (List.mem_append_right _ h)))
  unfold f6_ahead at hF
  refine lv_iload_n hx hb dX6_ahead_0 rfl (lv_at hl 1 rfl) ?_
  refine lv_if_lt (tgt := 17) hx hb dX6_ahead_1 (by decide) (fun c1 => ?_) (fun c1 => ?_)
  · have hF := zit c1 hF
    refine lv_bipush (v := (-2)) hx hb dX6_ahead_17 (by decide) ?_
    cases hF
    exact z_wi hx hb hr hlk hP hD hS rfl rfl dX6_ahead_19
  · have hF := zif c1 hF
    refine lv_iload_n hx hb dX6_ahead_4 rfl (lv_at hl 1 rfl) ?_
    refine lv_bipush (v := 30) hx hb dX6_ahead_5 (by decide) ?_
    refine lv_icmp_gt (tgt := 17) hx hb dX6_ahead_7 (by decide) (fun c2 => ?_) (fun c2 => ?_)
    · have hF := zit c2 hF
      refine lv_bipush (v := (-2)) hx hb dX6_ahead_17 (by decide) ?_
      cases hF
      exact z_wi hx hb hr hlk hP hD hS rfl rfl dX6_ahead_19
    · have hF := zif c2 hF
      refine lv_iload_n hx hb dX6_ahead_10 rfl (lv_at hl 2 rfl) ?_
      refine z_rgo (va_runS (As := [.int x2]) (rest := []) ⟨hx, hb, hml, hown, hts⟩ (c6_isNoChoice l g   x2) (va_cwS 1 hts gX6_ahead_X6_isNoChoice rfl rfl rfl (by decide +kernel) ⟨Nat.le_of_ble_eq_true rfl, Nat.le_of_ble_eq_true rfl⟩) (z_rpre z_nil hK) rfl rfl hl.1 rfl (lv_room (Nat.le_of_ble_eq_true rfl)) dX6_ahead_11 ⟨Nat.zero_le _, Nat.zero_le _⟩) ?_
      refine lv_if_eq (tgt := 20) hx hb dX6_ahead_14 (by decide) (fun c3 => ?_) (fun c3 => ?_)
      · have hF := zit c3 hF
        refine lv_aload_n hx hb dX6_ahead_20 rfl (lv_at hl 0 rfl) ?_
        refine lv_iload_n hx hb dX6_ahead_21 rfl (lv_at hl 1 rfl) ?_
        obtain ⟨C4, hC4, hF⟩ := zob hF
        refine z_wgoW (va_runV (As := [.int x1]) (rest := []) ⟨hx, hb, hml, hown, hts⟩ ((c6_tryFromNow l g q C x1  C4 hC4) H.size) (cwV 1 hts gX6_ahead_X6_tryFromNow rfl rfl rfl (by decide +kernel) ⟨Nat.le_of_ble_eq_true rfl, Nat.le_of_ble_eq_true rfl⟩) (z_wpreV (ci := 6) (q := (RX6, TX6, 13)) (q0 := 0) hP hK (z_any hD) rfl rfl) rfl rfl hl.1 rfl (lv_room (Nat.le_of_ble_eq_true rfl)) dX6_ahead_22 ⟨Nat.zero_le _, Nat.zero_le _⟩) hP hD hS hA (fun H locs hP hD hS => ?_)
        show W p l e (headSpec wsX6_ahead rmX6_ahead).room s m args below meth c H locs 0 0 (MQ below (zWQ g A (CW g q C_o) (some (.int ro))) args s 0 0 A) (F0 m 25 ls [])
        refine lv_iload_n hx hb dX6_ahead_25 rfl (lv_at hl 2 rfl) ?_
        refine lv_if_ne (tgt := 39) hx hb dX6_ahead_26 (by decide) (fun c5 => ?_) (fun c5 => ?_)
        · have hF := zif c5 hF
          refine lv_aload_n hx hb dX6_ahead_39 rfl (lv_at hl 0 rfl) ?_
          refine z_get (ci := 6) (v := .ref (q 28)) (C := RX6) (T := TX6) (N := 13) hx hb hts inX6 hown hK hP 0 rfl rfl 5 (by decide) (List.mem_of_getElem? (i := 1) rfl) rfl rfl dX6_ahead_40 ?_
          refine lv_aload_n hx hb dX6_ahead_43 rfl (lv_at hl 0 rfl) ?_
          refine z_get (ci := 6) (v := .ref (q (13 + 2))) (C := RX6) (T := TX6) (N := 13) hx hb hts inX6 hown hK hP 0 rfl rfl 3 (by decide) (List.mem_of_getElem? (i := 3) rfl) rfl rfl dX6_ahead_44 ?_
          obtain ⟨v6, hv6, hF⟩ := zob hF
          refine z_rgo (va_runV (As := [.ref (q (13 + 2))]) (rest := []) ⟨hx, hb, hml, hown, hts⟩ (c2_right l g q 28 q (13 + 2) (C4.1 1) ((C4.2.2.2.2.2.1).1)  v6 hv6) (cwV 1 hts gX6_ahead_X2_right rfl rfl rfl (by decide +kernel) ⟨Nat.le_of_ble_eq_true rfl, Nat.le_of_ble_eq_true rfl⟩) (z_rpreV (ci := 2) (q := (RX2, TX2, 9)) (q0 := 0) (hP.sub (ws' := (OW g q 28 (C4.1 1) ++ NW g q (13 + 2) ((C4.2.2.2.2.2.1).1))) [28, 29, 30, 31, 32, 15, 16, 17, 18, 19, 20, 21, 22] rfl) hK rfl rfl) rfl rfl hl.1 rfl (lv_room (Nat.le_of_ble_eq_true rfl)) dX6_ahead_47 ⟨Nat.zero_le _, Nat.zero_le _⟩) ?_
          cases hF
          exact z_wi hx hb hr hlk hP hD hS rfl rfl dX6_ahead_50
        · have hF := zit c5 hF
          refine lv_aload_n hx hb dX6_ahead_29 rfl (lv_at hl 0 rfl) ?_
          refine z_get (ci := 6) (v := .ref (q 28)) (C := RX6) (T := TX6) (N := 13) hx hb hts inX6 hown hK hP 0 rfl rfl 5 (by decide) (List.mem_of_getElem? (i := 1) rfl) rfl rfl dX6_ahead_30 ?_
          refine z_get (ci := 2) (v := .int ((C4.1 1).1 5)) (C := RX2) (T := TX2) (N := 9) hx hb hts inX2 hown hK hP 28 rfl rfl 5 (by decide) (List.mem_of_getElem? (i := 2) rfl) rfl rfl dX6_ahead_33 ?_
          refine lv_goto (tgt := 50) hx hb dX6_ahead_36 (by decide) ?_
          cases hF
          exact z_wi hx hb hr hlk hP hD hS rfl rfl dX6_ahead_50
      · have hF := zif c3 hF
        refine lv_bipush (v := (-2)) hx hb dX6_ahead_17 (by decide) ?_
        cases hF
        exact z_wi hx hb hr hlk hP hD hS rfl rfl dX6_ahead_19
def f6_isNoWalker (C : Cs) (x1 : Int32) : Int32 := if x1 < 0 then 1 else if x1 < (((C.2.2.2.2.2.1).1).1 4) then 0 else 1
abbrev rmX6_isNoWalker : Room := { frames := 0, cells := 0, slots := 0, locals := 0 }
set_option maxHeartbeats 4000000 in
set_option maxRecDepth 100000 in
theorem c6_isNoWalker (l : Launch) (g : zG) (q : Nat → Nat) (C : Cs) (x1 : Int32) : zRO l g yX6_isNoWalker wsX6_isNoWalker rmX6_isNoWalker [.ref (q 0), .int x1] (CW g q C) (some (.int (f6_isNoWalker C x1))) := by
  obtain ⟨ro, hF⟩ : ∃ y : Int32, f6_isNoWalker C x1 = y := ⟨_, rfl⟩
  rw [hF]
  refine zRO_of (cc := cX6_isNoWalker) (maxL := 2) (ret := (some .boolean)) (by decide) rfl (Nat.le_of_ble_eq_true rfl) ?_
  intro p e s m args below meth c ls hx hb hr hml hts hown hlk hK hP hl
  have hown : s.vm.findClass RX6 = some m.cls := hown
  have hl : lv_has ls 2 [(0, .ref (q 0)), (1, .int x1)] := hl
  have inX3 : ∀ w ∈ wsX30, w ∈ wsX6_isNoWalker := fun _ h => List.mem_cons_of_mem _ (List.mem_append_right _ h)
  have inX6 : ∀ w ∈ wsX60, w ∈ wsX6_isNoWalker := fun _ h => List.mem_cons_of_mem _ (List.mem_append_left _ (List.mem_append_right _ h))
  unfold f6_isNoWalker at hF
  refine lv_iload_n hx hb dX6_isNoWalker_0 rfl (lv_at hl 1 rfl) ?_
  refine lv_if_lt (tgt := 15) hx hb dX6_isNoWalker_1 (by decide) (fun c1 => ?_) (fun c1 => ?_)
  · have hF := zit c1 hF
    refine lv_iconst (v := 1) hx hb dX6_isNoWalker_15 (by decide) ?_
    refine lv_goto (tgt := 20) hx hb dX6_isNoWalker_16 (by decide) ?_
    subst hF
    exact z_rz hx hb hr hlk rfl rfl dX6_isNoWalker_20
  · have hF := zif c1 hF
    refine lv_iload_n hx hb dX6_isNoWalker_4 rfl (lv_at hl 1 rfl) ?_
    refine lv_aload_n hx hb dX6_isNoWalker_5 rfl (lv_at hl 0 rfl) ?_
    refine z_get (ci := 6) (v := .ref (q (13 + 2))) (C := RX6) (T := TX6) (N := 13) hx hb hts inX6 hown hK hP 0 rfl rfl 3 (by decide) (List.mem_of_getElem? (i := 1) rfl) rfl rfl dX6_isNoWalker_6 ?_
    refine z_get (ci := 3) (v := .int (((C.2.2.2.2.2.1).1).1 4)) (C := RX3) (T := TX3) (N := 13) hx hb hts inX3 hown hK hP 15 rfl rfl 4 (by decide) (List.mem_of_getElem? (i := 2) rfl) rfl rfl dX6_isNoWalker_9 ?_
    refine lv_icmp_lt (tgt := 19) hx hb dX6_isNoWalker_12 (by decide) (fun c2 => ?_) (fun c2 => ?_)
    · have hF := zit c2 hF
      refine lv_iconst (v := 0) hx hb dX6_isNoWalker_19 (by decide) ?_
      subst hF
      exact z_rz hx hb hr hlk rfl rfl dX6_isNoWalker_20
    · have hF := zif c2 hF
      refine lv_iconst (v := 1) hx hb dX6_isNoWalker_15 (by decide) ?_
      refine lv_goto (tgt := 20) hx hb dX6_isNoWalker_16 (by decide) ?_
      subst hF
      exact z_rz hx hb hr hlk rfl rfl dX6_isNoWalker_20
theorem b6_isNoWalker (C : Cs) (x1 : Int32) : narrow .boolean (.int (f6_isNoWalker C x1)) = .int (f6_isNoWalker C x1) := by
  unfold f6_isNoWalker
  repeat' split
  all_goals first | rfl | exact rfl
def f6_call (C : Cs) (x1 : Int32) : Option (Int32 × Cs) := if (f6_isNoWalker C x1) = 0 then if (f6_has ((C.1 0).1 5) x1) = 0 then (f5_push (C.2.1, C.2.2.1) (C.1 0)).bind fun P3 => bd (cRo (cRM C P3.1) P3.2) (fun (C5 : Cs) => bd (α := Int32) (f6_cell 4 ((C5.1 0).2 2) x1) (fun (v6 : Int32) => (f2_callBack (C5.1 0) x1).bind fun M7 => bd (cM C5 0 M7) (fun (C8 : Cs) => some (v6, C8)))) else some ((-3), C) else some ((-1), C)
abbrev rmX6_call : Room := { frames := 3, cells := 0, slots := 0, locals := 66 }
set_option maxHeartbeats 4000000 in
set_option maxRecDepth 100000 in
theorem c6_call (l : Launch) (g : zG) (q : Nat → Nat) (C : Cs) (x1 : Int32) (ro : Int32) (C_o : Cs) (hF : f6_call C x1 = some (ro, C_o)) : zRW l g yX6_call wsX6_call rmX6_call [.ref (q 0), .int x1] (CW g q C) (some (.int ro)) (CW g q C_o) := by
  refine zRW_of (cc := cX6_call) (maxL := 3) (ret := (some .int)) (by decide) rfl (Nat.le_of_ble_eq_true rfl) ?_
  intro p e s m args below meth c A H locs ls hx hb hr hml hts hown hlk hK hA hP hD hS hl
  have hown : s.vm.findClass RX6 = some m.cls := hown
  have hl : lv_has ls 3 [(0, .ref (q 0)), (1, .int x1)] := hl
  have inX2 : ∀ w ∈ wsX20, w ∈ wsX6_call := fun _ h => List.mem_cons_of_mem _ (List.mem_append_left _ (List.mem_append_left _ (List.mem_append_right _ h)))
  have inX6 : ∀ w ∈ wsX60, w ∈ wsX6_call := fun _ h => List.mem_cons_of_mem _ (List.mem_append_left _ (List.mem_append_left _ (List.mem_append_left _ (List.mem_append_right _ h))))
  unfold f6_call at hF
  refine lv_aload_n hx hb dX6_call_0 rfl (lv_at hl 0 rfl) ?_
  refine lv_iload_n hx hb dX6_call_1 rfl (lv_at hl 1 rfl) ?_
  refine z_rgo (va_runV (As := [.int x1]) (rest := []) ⟨hx, hb, hml, hown, hts⟩ (c6_isNoWalker l g q C x1) (cwV 1 hts gX6_call_X6_isNoWalker rfl rfl rfl (by decide +kernel) ⟨Nat.le_of_ble_eq_true rfl, Nat.le_of_ble_eq_true rfl⟩) (z_rpreV (ci := 6) (q := (RX6, TX6, 13)) (q0 := 0) hP hK rfl rfl) rfl rfl hl.1 rfl (lv_room (Nat.le_of_ble_eq_true rfl)) dX6_call_2 ⟨Nat.zero_le _, Nat.zero_le _⟩) ?_
  refine lv_if_eq (tgt := 10) hx hb dX6_call_5 (by decide) (fun c1 => ?_) (fun c1 => ?_)
  · have hF := zit c1 hF
    refine lv_aload_n hx hb dX6_call_10 rfl (lv_at hl 0 rfl) ?_
    refine z_get (ci := 6) (v := .ref (q 23)) (C := RX6) (T := TX6) (N := 13) hx hb hts inX6 hown hK hP 0 rfl rfl 4 (by decide) (List.mem_of_getElem? (i := 1) rfl) rfl rfl dX6_call_11 ?_
    refine z_get (ci := 2) (v := .int ((C.1 0).1 5)) (C := RX2) (T := TX2) (N := 9) hx hb hts inX2 hown hK hP 23 rfl rfl 5 (by decide) (List.mem_of_getElem? (i := 2) rfl) rfl rfl dX6_call_14 ?_
    refine lv_iload_n hx hb dX6_call_17 rfl (lv_at hl 1 rfl) ?_
    refine z_rgo (va_runS (As := [.int ((C.1 0).1 5), .int x1]) (rest := []) ⟨hx, hb, hml, hown, hts⟩ (c6_has l g   ((C.1 0).1 5) x1) (va_cwS 2 hts gX6_call_X6_has rfl rfl rfl (by decide +kernel) ⟨Nat.le_of_ble_eq_true rfl, Nat.le_of_ble_eq_true rfl⟩) (z_rpre z_nil hK) rfl rfl hl.1 rfl (lv_room (Nat.le_of_ble_eq_true rfl)) dX6_call_18 ⟨Nat.zero_le _, Nat.zero_le _⟩) ?_
    refine lv_if_eq (tgt := 27) hx hb dX6_call_21 (by decide) (fun c2 => ?_) (fun c2 => ?_)
    · have hF := zit c2 hF
      refine lv_aload_n hx hb dX6_call_27 rfl (lv_at hl 0 rfl) ?_
      refine z_get (ci := 6) (v := .ref (q 34)) (C := RX6) (T := TX6) (N := 13) hx hb hts inX6 hown hK hP 0 rfl rfl 7 (by decide) (List.mem_of_getElem? (i := 3) rfl) rfl rfl dX6_call_28 ?_
      refine lv_aload_n hx hb dX6_call_31 rfl (lv_at hl 0 rfl) ?_
      refine z_get (ci := 6) (v := .ref (q 23)) (C := RX6) (T := TX6) (N := 13) hx hb hts inX6 hown hK hP 0 rfl rfl 4 (by decide) (List.mem_of_getElem? (i := 1) rfl) rfl rfl dX6_call_32 ?_
      obtain ⟨X4, hX4⟩ := cw_perm g q C
      obtain ⟨P3, hP3, hF⟩ := zob hF
      refine z_wgoP (wn := CW g q (cRo (cRM C P3.1) P3.2)) (va_runV (As := [.ref (q 23)]) (rest := []) ⟨hx, hb, hml, hown, hts⟩ ((c5_push l g q (C.2.1, C.2.2.1) (C.1 0) P3 hP3) H.size) (cwV 1 hts gX6_call_X5_push rfl rfl rfl (by decide +kernel) ⟨Nat.le_of_ble_eq_true rfl, Nat.le_of_ble_eq_true rfl⟩) (z_wpreV (ci := 5) (q := (RX5, TX5, 2)) (q0 := 0) (zP_left (zP_perm hP (cw_perm0 hX4))) hK (z_any (zD_left (zD_perm hD (cw_perm0 hX4)))) rfl rfl) rfl rfl hl.1 rfl (lv_room (Nat.le_of_ble_eq_true rfl)) dX6_call_35 ⟨Nat.zero_le _, Nat.zero_le _⟩) hP hD hS hA X4 (cw_perm0 hX4) rfl (cw_perm1 hX4 P3) (fun H locs hP hD hS => ?_)
      show W p l e (headSpec wsX6_call rmX6_call).room s m args below meth c H locs 0 0 (MQ below (zWQ g A (CW g q C_o) (some (.int ro))) args s 0 0 A) (F0 m 38 ls [])
      obtain ⟨C5, eC5⟩ : ∃ y : Cs, y = (cRo (cRM C P3.1) P3.2) := ⟨_, rfl⟩
      rw [← eC5] at hP hD
      have hF := bd_eq eC5 hF
      refine lv_aload_n hx hb dX6_call_38 rfl (lv_at hl 0 rfl) ?_
      refine z_get (ci := 6) (v := .ref (q 23)) (C := RX6) (T := TX6) (N := 13) hx hb hts inX6 hown hK hP 0 rfl rfl 4 (by decide) (List.mem_of_getElem? (i := 1) rfl) rfl rfl dX6_call_39 ?_
      refine z_get (ci := 2) (v := .ref (q (23 + 3))) (C := RX2) (T := TX2) (N := 9) hx hb hts inX2 hown hK hP 23 rfl rfl 2 (by decide) (List.mem_of_getElem? (i := 4) rfl) rfl rfl dX6_call_42 ?_
      refine lv_iload_n hx hb dX6_call_45 rfl (lv_at hl 1 rfl) ?_
      refine z_rgo (va_runS (As := [.ref (q (23 + 3)), .int x1]) (rest := []) ⟨hx, hb, hml, hown, hts⟩ (c6_cell l g (q (23 + 3)) 4 (by decide) ((C5.1 0).2 2) x1) (va_cwS 2 hts gX6_call_X6_cell rfl rfl rfl (by decide +kernel) ⟨Nat.le_of_ble_eq_true rfl, Nat.le_of_ble_eq_true rfl⟩) (z_rpre (hP.sub (ws' := [((q (23 + 3)), .inl (g.2.2.1, 4, .inl ((C5.1 0).2 2)))]) [26] rfl) hK) rfl rfl hl.1 rfl (lv_room (Nat.le_of_ble_eq_true rfl)) dX6_call_46 ⟨Nat.zero_le _, Nat.zero_le _⟩) ?_
      refine lv_topi (fun v6 ev6 => ?_)
      have hF := bd_eq ev6 hF
      refine lv_istore_n (lv' := [(2, .int v6), (0, .ref (q 0)), (1, .int x1)]) hx hb dX6_call_49 rfl hl (by decide) rfl (fun ls hl => ?_)
      refine lv_aload_n hx hb dX6_call_50 rfl (lv_at hl 1 rfl) ?_
      refine z_get (ci := 6) (v := .ref (q 23)) (C := RX6) (T := TX6) (N := 13) hx hb hts inX6 hown hK hP 0 rfl rfl 4 (by decide) (List.mem_of_getElem? (i := 1) rfl) rfl rfl dX6_call_51 ?_
      refine lv_iload_n hx hb dX6_call_54 rfl (lv_at hl 2 rfl) ?_
      obtain ⟨M7, hM7, hF⟩ := zob hF
      refine z_wgo (wn := CW g q (cM C5 0 M7)) (va_runV (As := [.int x1]) (rest := []) ⟨hx, hb, hml, hown, hts⟩ ((c2_callBack l g q 23 (C5.1 0) x1  M7 hM7) H.size) (cwV 1 hts gX6_call_X2_callBack rfl rfl rfl (by decide +kernel) ⟨Nat.le_of_ble_eq_true rfl, Nat.le_of_ble_eq_true rfl⟩) (z_wpreV (ci := 2) (q := (RX2, TX2, 9)) (q0 := 0) (hP.sub (ws' := OW g q 23 (C5.1 0)) [23, 24, 25, 26, 27] rfl) hK (z_any (hD.sub (ws' := OW g q 23 (C5.1 0)) [23, 24, 25, 26, 27] (by decide) rfl)) rfl rfl) rfl rfl hl.1 rfl (lv_room (Nat.le_of_ble_eq_true rfl)) dX6_call_55 ⟨Nat.zero_le _, Nat.zero_le _⟩) hP hD hS hA [23, 24, 25, 26, 27] rfl (by decide) rfl rfl (fun H locs hP hD hS => ?_)
      show W p l e (headSpec wsX6_call rmX6_call).room s m args below meth c H locs 0 0 (MQ below (zWQ g A (CW g q C_o) (some (.int ro))) args s 0 0 A) (F0 m 58 ls [])
      obtain ⟨C8, eC8⟩ : ∃ y : Cs, y = (cM C5 0 M7) := ⟨_, rfl⟩
      rw [← eC8] at hP hD
      have hF := bd_eq eC8 hF
      refine lv_iload_n hx hb dX6_call_58 rfl (lv_at hl 0 rfl) ?_
      cases hF
      exact z_wi hx hb hr hlk hP hD hS rfl rfl dX6_call_59
    · have hF := zif c2 hF
      refine lv_bipush (v := (-3)) hx hb dX6_call_24 (by decide) ?_
      cases hF
      exact z_wi hx hb hr hlk hP hD hS rfl rfl dX6_call_26
  · have hF := zif c1 hF
    refine lv_iconst (v := (-1)) hx hb dX6_call_8 (by decide) ?_
    cases hF
    exact z_wi hx hb hr hlk hP hD hS rfl rfl dX6_call_9
def f6_comes (C : Cs) (x1 : Int32) (x2 : Int32) : Option (Int32 × Cs) := if (f6_isNoWalker C x1) = 0 then if (f6_isNoChoice x2) = 0 then (f2_copy (C.1 1) (C.1 0)).bind fun M3 => bd (cM C 1 M3) (fun (C4 : Cs) => (f2_goUntilOut (C4.1 1) ((C4.2.2.2.2.2.1).1) x1).bind fun (v6, M5) => bd (cM C4 1 M5) (fun (C7 : Cs) => if x2 = 0 then some (v6, C7) else some ((f2_outAt (C7.1 1) x1), C7))) else some ((-2), C) else some ((-1), C)
abbrev rmX6_comes : Room := { frames := 5, cells := 0, slots := 0, locals := 120 }
set_option maxHeartbeats 4000000 in
set_option maxRecDepth 100000 in
theorem c6_comes (l : Launch) (g : zG) (q : Nat → Nat) (C : Cs) (x1 : Int32) (x2 : Int32) (ro : Int32) (C_o : Cs) (hF : f6_comes C x1 x2 = some (ro, C_o)) : zRW l g yX6_comes wsX6_comes rmX6_comes [.ref (q 0), .int x1, .int x2] (CW g q C) (some (.int ro)) (CW g q C_o) := by
  refine zRW_of (cc := cX6_comes) (maxL := 4) (ret := (some .int)) (by decide) rfl (Nat.le_of_ble_eq_true rfl) ?_
  intro p e s m args below meth c A H locs ls hx hb hr hml hts hown hlk hK hA hP hD hS hl
  have hown : s.vm.findClass RX6 = some m.cls := hown
  have hl : lv_has ls 4 [(0, .ref (q 0)), (1, .int x1), (2, .int x2)] := hl
  have inX6 : ∀ w ∈ wsX60, w ∈ wsX6_comes := fun _ h => List.mem_cons_of_mem _ (List.mem_append_left _ (List.mem_append_left _ (List.mem_append_right _ h)))
  unfold f6_comes at hF
  refine lv_aload_n hx hb dX6_comes_0 rfl (lv_at hl 0 rfl) ?_
  refine lv_iload_n hx hb dX6_comes_1 rfl (lv_at hl 1 rfl) ?_
  refine z_rgo (va_runV (As := [.int x1]) (rest := []) ⟨hx, hb, hml, hown, hts⟩ (c6_isNoWalker l g q C x1) (cwV 1 hts gX6_comes_X6_isNoWalker rfl rfl rfl (by decide +kernel) ⟨Nat.le_of_ble_eq_true rfl, Nat.le_of_ble_eq_true rfl⟩) (z_rpreV (ci := 6) (q := (RX6, TX6, 13)) (q0 := 0) hP hK rfl rfl) rfl rfl hl.1 rfl (lv_room (Nat.le_of_ble_eq_true rfl)) dX6_comes_2 ⟨Nat.zero_le _, Nat.zero_le _⟩) ?_
  refine lv_if_eq (tgt := 10) hx hb dX6_comes_5 (by decide) (fun c1 => ?_) (fun c1 => ?_)
  · have hF := zit c1 hF
    refine lv_iload_n hx hb dX6_comes_10 rfl (lv_at hl 2 rfl) ?_
    refine z_rgo (va_runS (As := [.int x2]) (rest := []) ⟨hx, hb, hml, hown, hts⟩ (c6_isNoChoice l g   x2) (va_cwS 1 hts gX6_comes_X6_isNoChoice rfl rfl rfl (by decide +kernel) ⟨Nat.le_of_ble_eq_true rfl, Nat.le_of_ble_eq_true rfl⟩) (z_rpre z_nil hK) rfl rfl hl.1 rfl (lv_room (Nat.le_of_ble_eq_true rfl)) dX6_comes_11 ⟨Nat.zero_le _, Nat.zero_le _⟩) ?_
    refine lv_if_eq (tgt := 20) hx hb dX6_comes_14 (by decide) (fun c2 => ?_) (fun c2 => ?_)
    · have hF := zit c2 hF
      refine lv_aload_n hx hb dX6_comes_20 rfl (lv_at hl 0 rfl) ?_
      refine z_get (ci := 6) (v := .ref (q 28)) (C := RX6) (T := TX6) (N := 13) hx hb hts inX6 hown hK hP 0 rfl rfl 5 (by decide) (List.mem_of_getElem? (i := 1) rfl) rfl rfl dX6_comes_21 ?_
      refine lv_aload_n hx hb dX6_comes_24 rfl (lv_at hl 0 rfl) ?_
      refine z_get (ci := 6) (v := .ref (q 23)) (C := RX6) (T := TX6) (N := 13) hx hb hts inX6 hown hK hP 0 rfl rfl 4 (by decide) (List.mem_of_getElem? (i := 2) rfl) rfl rfl dX6_comes_25 ?_
      obtain ⟨M3, hM3, hF⟩ := zob hF
      refine z_wgo (wn := CW g q (cM C 1 M3)) (va_runV (As := [.ref (q 23)]) (rest := []) ⟨hx, hb, hml, hown, hts⟩ ((c2_copy l g q 28 q 23 (C.1 1) (C.1 0)   M3 hM3) H.size) (cwV 1 hts gX6_comes_X2_copy rfl rfl rfl (by decide +kernel) ⟨Nat.le_of_ble_eq_true rfl, Nat.le_of_ble_eq_true rfl⟩) (z_wpreV (ci := 2) (q := (RX2, TX2, 9)) (q0 := 0) (hP.sub (ws' := (OW g q 28 (C.1 1) ++ OW g q 23 (C.1 0))) [28, 29, 30, 31, 32, 23, 24, 25, 26, 27] rfl) hK (z_any (hD.sub (ws' := (OW g q 28 (C.1 1) ++ OW g q 23 (C.1 0))) [28, 29, 30, 31, 32, 23, 24, 25, 26, 27] (by decide) rfl)) rfl rfl) rfl rfl hl.1 rfl (lv_room (Nat.le_of_ble_eq_true rfl)) dX6_comes_28 ⟨Nat.zero_le _, Nat.zero_le _⟩) hP hD hS hA [28, 29, 30, 31, 32, 23, 24, 25, 26, 27] rfl (by decide) rfl rfl (fun H locs hP hD hS => ?_)
      show W p l e (headSpec wsX6_comes rmX6_comes).room s m args below meth c H locs 0 0 (MQ below (zWQ g A (CW g q C_o) (some (.int ro))) args s 0 0 A) (F0 m 31 ls [])
      obtain ⟨C4, eC4⟩ : ∃ y : Cs, y = (cM C 1 M3) := ⟨_, rfl⟩
      rw [← eC4] at hP hD
      have hF := bd_eq eC4 hF
      refine lv_aload_n hx hb dX6_comes_31 rfl (lv_at hl 0 rfl) ?_
      refine z_get (ci := 6) (v := .ref (q 28)) (C := RX6) (T := TX6) (N := 13) hx hb hts inX6 hown hK hP 0 rfl rfl 5 (by decide) (List.mem_of_getElem? (i := 1) rfl) rfl rfl dX6_comes_32 ?_
      refine lv_iload_n hx hb dX6_comes_35 rfl (lv_at hl 1 rfl) ?_
      refine lv_aload_n hx hb dX6_comes_36 rfl (lv_at hl 0 rfl) ?_
      refine z_get (ci := 6) (v := .ref (q (13 + 2))) (C := RX6) (T := TX6) (N := 13) hx hb hts inX6 hown hK hP 0 rfl rfl 3 (by decide) (List.mem_of_getElem? (i := 3) rfl) rfl rfl dX6_comes_37 ?_
      obtain ⟨⟨v6, M5⟩, hM5, hF⟩ := zob hF
      refine z_wgo (wn := CW g q (cM C4 1 M5)) (va_runV (As := [.int x1, .ref (q (13 + 2))]) (rest := []) ⟨hx, hb, hml, hown, hts⟩ ((c2_goUntilOut l g q 28 q (13 + 2) (C4.1 1) ((C4.2.2.2.2.2.1).1) x1 v6  M5 hM5) H.size) (cwV 2 hts gX6_comes_X2_goUntilOut rfl rfl rfl (by decide +kernel) ⟨Nat.le_of_ble_eq_true rfl, Nat.le_of_ble_eq_true rfl⟩) (z_wpreV (ci := 2) (q := (RX2, TX2, 9)) (q0 := 0) (hP.sub (ws' := (OW g q 28 (C4.1 1) ++ NW g q (13 + 2) ((C4.2.2.2.2.2.1).1))) [28, 29, 30, 31, 32, 15, 16, 17, 18, 19, 20, 21, 22] rfl) hK (z_any (hD.sub (ws' := (OW g q 28 (C4.1 1) ++ NW g q (13 + 2) ((C4.2.2.2.2.2.1).1))) [28, 29, 30, 31, 32, 15, 16, 17, 18, 19, 20, 21, 22] (by decide) rfl)) rfl rfl) rfl rfl hl.1 rfl (lv_room (Nat.le_of_ble_eq_true rfl)) dX6_comes_40 ⟨Nat.zero_le _, Nat.zero_le _⟩) hP hD hS hA [28, 29, 30, 31, 32, 15, 16, 17, 18, 19, 20, 21, 22] rfl (by decide) rfl rfl (fun H locs hP hD hS => ?_)
      show W p l e (headSpec wsX6_comes rmX6_comes).room s m args below meth c H locs 0 0 (MQ below (zWQ g A (CW g q C_o) (some (.int ro))) args s 0 0 A) (F0 m 43 ls [.int v6])
      obtain ⟨C7, eC7⟩ : ∃ y : Cs, y = (cM C4 1 M5) := ⟨_, rfl⟩
      rw [← eC7] at hP hD
      have hF := bd_eq eC7 hF
      refine lv_istore_n (lv' := [(3, .int v6), (0, .ref (q 0)), (1, .int x1), (2, .int x2)]) hx hb dX6_comes_43 rfl hl (by decide) rfl (fun ls hl => ?_)
      refine lv_iload_n hx hb dX6_comes_44 rfl (lv_at hl 3 rfl) ?_
      refine lv_if_ne (tgt := 52) hx hb dX6_comes_45 (by decide) (fun c8 => ?_) (fun c8 => ?_)
      · have hF := zif c8 hF
        refine lv_aload_n hx hb dX6_comes_52 rfl (lv_at hl 1 rfl) ?_
        refine z_get (ci := 6) (v := .ref (q 28)) (C := RX6) (T := TX6) (N := 13) hx hb hts inX6 hown hK hP 0 rfl rfl 5 (by decide) (List.mem_of_getElem? (i := 1) rfl) rfl rfl dX6_comes_53 ?_
        refine lv_iload_n hx hb dX6_comes_56 rfl (lv_at hl 2 rfl) ?_
        refine z_rgo (va_runV (As := [.int x1]) (rest := []) ⟨hx, hb, hml, hown, hts⟩ (c2_outAt l g q 28 (C7.1 1) x1) (cwV 1 hts gX6_comes_X2_outAt rfl rfl rfl (by decide +kernel) ⟨Nat.le_of_ble_eq_true rfl, Nat.le_of_ble_eq_true rfl⟩) (z_rpreV (ci := 2) (q := (RX2, TX2, 9)) (q0 := 0) (hP.sub (ws' := OW g q 28 (C7.1 1)) [28, 29, 30, 31, 32] rfl) hK rfl rfl) rfl rfl hl.1 rfl (lv_room (Nat.le_of_ble_eq_true rfl)) dX6_comes_57 ⟨Nat.zero_le _, Nat.zero_le _⟩) ?_
        cases hF
        exact z_wi hx hb hr hlk hP hD hS rfl rfl dX6_comes_60
      · have hF := zit c8 hF
        refine lv_iload_n hx hb dX6_comes_48 rfl (lv_at hl 0 rfl) ?_
        refine lv_goto (tgt := 60) hx hb dX6_comes_49 (by decide) ?_
        cases hF
        exact z_wi hx hb hr hlk hP hD hS rfl rfl dX6_comes_60
    · have hF := zif c2 hF
      refine lv_bipush (v := (-2)) hx hb dX6_comes_17 (by decide) ?_
      cases hF
      exact z_wi hx hb hr hlk hP hD hS rfl rfl dX6_comes_19
  · have hF := zif c1 hF
    refine lv_iconst (v := (-1)) hx hb dX6_comes_8 (by decide) ?_
    cases hF
    exact z_wi hx hb hr hlk hP hD hS rfl rfl dX6_comes_9
def f6_commonDivisor_l7 : Nat → Int32 → Int32 → Int32 → Option (Int32)
  | 0, _, _, _ => none
  | n7 + 1, y1, y2, y3 => if 64 ≤ y3 then some y1 else if y2 = 0 then some y1 else (zrm y1 y2).bind fun v6 => f6_commonDivisor_l7 n7 y2 v6 (y3 + 1)
def f6_commonDivisor (x0 : Int32) (x1 : Int32) : Option (Int32) := f6_commonDivisor_l7 FU x0 x1 0
abbrev rmX6_commonDivisor : Room := { frames := 0, cells := 0, slots := 0, locals := 0 }
set_option maxHeartbeats 4000000 in
set_option maxRecDepth 100000 in
theorem c6_commonDivisor (l : Launch) (g : zG)  (x0 : Int32) (x1 : Int32) (ro : Int32) (hF : f6_commonDivisor x0 x1 = some ro) : zRO l g yX6_commonDivisor wsX6_commonDivisor rmX6_commonDivisor [.int x0, .int x1] [] (some (.int ro)) := by
  refine zRO_of (cc := cX6_commonDivisor) (maxL := 6) (ret := (some .int)) (by decide) rfl (Nat.le_of_ble_eq_true rfl) ?_
  intro p e s m args below meth c ls hx hb hr hml hts hown hlk hK hP hl
  have hown : s.vm.findClass RX6 = some m.cls := hown
  have hl : lv_has ls 6 [(0, .int x0), (1, .int x1)] := hl
  unfold f6_commonDivisor at hF
  refine lv_iload_n hx hb dX6_commonDivisor_0 rfl (lv_at hl 0 rfl) ?_
  refine lv_istore_n (lv' := [(2, .int x0), (0, .int x0), (1, .int x1)]) hx hb dX6_commonDivisor_1 rfl hl (by decide) rfl (fun ls hl => ?_)
  refine lv_iload_n hx hb dX6_commonDivisor_2 rfl (lv_at hl 2 rfl) ?_
  refine lv_istore_n (lv' := [(3, .int x1), (2, .int x0), (0, .int x0), (1, .int x1)]) hx hb dX6_commonDivisor_3 rfl hl (by decide) rfl (fun ls hl => ?_)
  refine lv_iconst (v := 0) hx hb dX6_commonDivisor_4 (by decide) ?_
  refine lv_istore (lv' := [(4, .int 0), (3, .int x1), (2, .int x0), (0, .int x0), (1, .int x1)]) hx hb dX6_commonDivisor_5 hl (by decide) rfl (fun ls hl => ?_)
  have L7 : ∀ (n7 : Nat) (y1 : Int32) (y2 : Int32) (y3 : Int32) (ls : Array Slot), f6_commonDivisor_l7 n7 y1 y2 y3 = some ro → lv_has ls 6 [(2, .int y1), (3, .int y2), (4, .int y3)] → W p l e (headSpec wsX6_commonDivisor rmX6_commonDivisor).room s m args below meth c s.heap [] 0 0 (MQ below (zRQ (some (.int ro))) args s 0 0 (fun _ => False)) (F0 m 7 ls []) := by
    intro n7
    induction n7 with
    | zero =>
      intro y1 y2 y3 ls hF hl
      exact absurd (show (none : Option (Int32)) = some _ from hF) (fun h9 => by cases h9)
    | succ n7 ih7 =>
      intro y1 y2 y3 ls hF hl
      rw [f6_commonDivisor_l7] at hF
      refine lv_iload hx hb dX6_commonDivisor_7 (lv_at hl 2 rfl) ?_
      refine lv_bipush (v := 64) hx hb dX6_commonDivisor_9 (by decide) ?_
      refine lv_icmp_ge (tgt := 34) hx hb dX6_commonDivisor_11 (by decide) (fun c4 => ?_) (fun c4 => ?_)
      · have hF := zit c4 hF
        refine lv_iload_n hx hb dX6_commonDivisor_34 rfl (lv_at hl 0 rfl) ?_
        cases hF
        exact z_ri hx hb hr hlk rfl dX6_commonDivisor_35
      · have hF := zif c4 hF
        refine lv_iload_n hx hb dX6_commonDivisor_14 rfl (lv_at hl 1 rfl) ?_
        refine lv_if_eq (tgt := 34) hx hb dX6_commonDivisor_15 (by decide) (fun c5 => ?_) (fun c5 => ?_)
        · have hF := zit c5 hF
          refine lv_iload_n hx hb dX6_commonDivisor_34 rfl (lv_at hl 0 rfl) ?_
          cases hF
          exact z_ri hx hb hr hlk rfl dX6_commonDivisor_35
        · have hF := zif c5 hF
          refine lv_iload_n hx hb dX6_commonDivisor_18 rfl (lv_at hl 0 rfl) ?_
          refine lv_iload_n hx hb dX6_commonDivisor_19 rfl (lv_at hl 1 rfl) ?_
          obtain ⟨v6, hv6, hF⟩ := zob hF
          refine z_irem hx hb dX6_commonDivisor_20 hv6 ?_
          refine lv_istore (lv' := [(5, .int v6), (2, .int y1), (3, .int y2), (4, .int y3)]) hx hb dX6_commonDivisor_21 hl (by decide) rfl (fun ls hl => ?_)
          refine lv_iload_n hx hb dX6_commonDivisor_23 rfl (lv_at hl 2 rfl) ?_
          refine lv_istore_n (lv' := [(2, .int y2), (5, .int v6), (3, .int y2), (4, .int y3)]) hx hb dX6_commonDivisor_24 rfl hl (by decide) rfl (fun ls hl => ?_)
          refine lv_iload hx hb dX6_commonDivisor_25 (lv_at hl 1 rfl) ?_
          refine lv_istore_n (lv' := [(3, .int v6), (2, .int y2), (5, .int v6), (4, .int y3)]) hx hb dX6_commonDivisor_27 rfl hl (by decide) rfl (fun ls hl => ?_)
          refine lv_iinc (v := (y3 + 1)) (lv' := [(4, .int (y3 + 1)), (3, .int v6), (2, .int y2), (5, .int v6)]) hx hb dX6_commonDivisor_28 hl (k := 3) rfl rfl (by decide) rfl (fun ls hl => ?_)
          refine lv_goto (tgt := 7) hx hb dX6_commonDivisor_31 (by decide) ?_
          exact ih7 y2 v6 (y3 + 1) ls hF (lv_sub hl [2, 1, 0] rfl)
  exact L7 FU x0 x1 0 ls hF (lv_sub hl [2, 1, 0] rfl)
def f6_count (C : Cs) (x1 : Int32) : Option (Int32) := if x1 = 0 then some ((C.2.2.2.1).2) else if x1 = 1 then some (((C.2.2.2.2.2.1).1).1 2) else if x1 = 2 then some (((C.2.2.2.2.2.1).1).1 3) else if x1 = 3 then some (((C.2.2.2.2.2.1).1).1 4) else if x1 = 4 then some ((C.1 0).1 8) else if x1 = 5 then some (f3_tide ((C.2.2.2.2.2.1).1) ((C.1 0).1 8)) else if x1 = 6 then some ((C.1 0).1 5) else if x1 = 7 then (f2_right (C.1 0) ((C.2.2.2.2.2.1).1)).bind fun v9 => some v9 else if x1 = 8 then some (C.2.2.1.2) else if x1 = 9 then some ((C.2.2.2.2.2.2.2.1).2) else some (-2)
abbrev rmX6_count : Room := { frames := 3, cells := 0, slots := 0, locals := 66 }
set_option maxHeartbeats 4000000 in
set_option maxRecDepth 100000 in
theorem c6_count (l : Launch) (g : zG) (q : Nat → Nat) (C : Cs) (x1 : Int32) (ro : Int32) (hF : f6_count C x1 = some ro) : zRO l g yX6_count wsX6_count rmX6_count [.ref (q 0), .int x1] (CW g q C) (some (.int ro)) := by
  refine zRO_of (cc := cX6_count) (maxL := 2) (ret := (some .int)) (by decide) rfl (Nat.le_of_ble_eq_true rfl) ?_
  intro p e s m args below meth c ls hx hb hr hml hts hown hlk hK hP hl
  have hown : s.vm.findClass RX6 = some m.cls := hown
  have hl : lv_has ls 2 [(0, .ref (q 0)), (1, .int x1)] := hl
  have inX0 : ∀ w ∈ wsX00, w ∈ wsX6_count := fun _ h => List.mem_cons_of_mem _ (List.mem_append_right _ h)
  have inX1 : ∀ w ∈ wsX10, w ∈ wsX6_count := fun _ h => List.mem_cons_of_mem _ (List.mem_append_left _ (List.mem_append_left _ (List.mem_append_left _ (List.mem_append_left _ (List.mem_append_right _ h)))))
  have inX2 : ∀ w ∈ wsX20, w ∈ wsX6_count := fun _ h => List.mem_cons_of_mem _ (List.mem_append_left _ (List.mem_append_left _ (List.mem_append_right _ h)))
  have inX3 : ∀ w ∈ wsX30, w ∈ wsX6_count := fun _ h => List.mem_cons_of_mem _ (List.mem_append_left _ (List.mem_append_left _ (List.mem_append_left _ (List.mem_append_right _ h))))
  have inX5 : ∀ w ∈ wsX50, w ∈ wsX6_count := fun _ h => List.mem_cons_of_mem _ (List.mem_append_left _ (List.mem_append_right _ h))
  have inX6 : ∀ w ∈ wsX60, w ∈ wsX6_count := fun _ h => List.mem_cons_of_mem _ (List.mem_append_left _ (List.mem_append_left _ (List.mem_append_left _ (List.mem_append_left _ (List.mem_append_left _ (List.mem_append_right _ h))))))
  unfold f6_count at hF
  refine lv_iload_n hx hb dX6_count_0 rfl (lv_at hl 1 rfl) ?_
  by_cases c1 : x1 = 0
  · have hF := zit c1 hF
    refine z_tin (k := 0) (tgt := 56) hx hb dX6_count_1 c1 ⟨by decide, by decide, rfl, by decide⟩ ?_
    refine lv_aload_n hx hb dX6_count_56 rfl (lv_at hl 0 rfl) ?_
    refine z_get (ci := 6) (v := .ref (q 1)) (C := RX6) (T := TX6) (N := 13) hx hb hts inX6 hown hK hP 0 rfl rfl 0 (by decide) (List.mem_of_getElem? (i := 1) rfl) rfl rfl dX6_count_57 ?_
    refine z_get (ci := 1) (v := .int ((C.2.2.2.1).2)) (C := RX1) (T := TX1) (N := 2) hx hb hts inX1 hown hK hP 1 rfl rfl 1 (by decide) (List.mem_of_getElem? (i := 2) rfl) rfl rfl dX6_count_60 ?_
    cases hF
    exact z_ri hx hb hr hlk rfl dX6_count_63
  · have hF := zif c1 hF
    by_cases c2 : x1 = 1
    · have hF := zit c2 hF
      refine z_tin (k := 1) (tgt := 64) hx hb dX6_count_1 c2 ⟨by decide, by decide, rfl, by decide⟩ ?_
      refine lv_aload_n hx hb dX6_count_64 rfl (lv_at hl 0 rfl) ?_
      refine z_get (ci := 6) (v := .ref (q (13 + 2))) (C := RX6) (T := TX6) (N := 13) hx hb hts inX6 hown hK hP 0 rfl rfl 3 (by decide) (List.mem_of_getElem? (i := 3) rfl) rfl rfl dX6_count_65 ?_
      refine z_get (ci := 3) (v := .int (((C.2.2.2.2.2.1).1).1 2)) (C := RX3) (T := TX3) (N := 13) hx hb hts inX3 hown hK hP 15 rfl rfl 2 (by decide) (List.mem_of_getElem? (i := 4) rfl) rfl rfl dX6_count_68 ?_
      cases hF
      exact z_ri hx hb hr hlk rfl dX6_count_71
    · have hF := zif c2 hF
      by_cases c3 : x1 = 2
      · have hF := zit c3 hF
        refine z_tin (k := 2) (tgt := 72) hx hb dX6_count_1 c3 ⟨by decide, by decide, rfl, by decide⟩ ?_
        refine lv_aload_n hx hb dX6_count_72 rfl (lv_at hl 0 rfl) ?_
        refine z_get (ci := 6) (v := .ref (q (13 + 2))) (C := RX6) (T := TX6) (N := 13) hx hb hts inX6 hown hK hP 0 rfl rfl 3 (by decide) (List.mem_of_getElem? (i := 3) rfl) rfl rfl dX6_count_73 ?_
        refine z_get (ci := 3) (v := .int (((C.2.2.2.2.2.1).1).1 3)) (C := RX3) (T := TX3) (N := 13) hx hb hts inX3 hown hK hP 15 rfl rfl 3 (by decide) (List.mem_of_getElem? (i := 5) rfl) rfl rfl dX6_count_76 ?_
        cases hF
        exact z_ri hx hb hr hlk rfl dX6_count_79
      · have hF := zif c3 hF
        by_cases c4 : x1 = 3
        · have hF := zit c4 hF
          refine z_tin (k := 3) (tgt := 80) hx hb dX6_count_1 c4 ⟨by decide, by decide, rfl, by decide⟩ ?_
          refine lv_aload_n hx hb dX6_count_80 rfl (lv_at hl 0 rfl) ?_
          refine z_get (ci := 6) (v := .ref (q (13 + 2))) (C := RX6) (T := TX6) (N := 13) hx hb hts inX6 hown hK hP 0 rfl rfl 3 (by decide) (List.mem_of_getElem? (i := 3) rfl) rfl rfl dX6_count_81 ?_
          refine z_get (ci := 3) (v := .int (((C.2.2.2.2.2.1).1).1 4)) (C := RX3) (T := TX3) (N := 13) hx hb hts inX3 hown hK hP 15 rfl rfl 4 (by decide) (List.mem_of_getElem? (i := 6) rfl) rfl rfl dX6_count_84 ?_
          cases hF
          exact z_ri hx hb hr hlk rfl dX6_count_87
        · have hF := zif c4 hF
          by_cases c5 : x1 = 4
          · have hF := zit c5 hF
            refine z_tin (k := 4) (tgt := 88) hx hb dX6_count_1 c5 ⟨by decide, by decide, rfl, by decide⟩ ?_
            refine lv_aload_n hx hb dX6_count_88 rfl (lv_at hl 0 rfl) ?_
            refine z_get (ci := 6) (v := .ref (q 23)) (C := RX6) (T := TX6) (N := 13) hx hb hts inX6 hown hK hP 0 rfl rfl 4 (by decide) (List.mem_of_getElem? (i := 7) rfl) rfl rfl dX6_count_89 ?_
            refine z_get (ci := 2) (v := .int ((C.1 0).1 8)) (C := RX2) (T := TX2) (N := 9) hx hb hts inX2 hown hK hP 23 rfl rfl 8 (by decide) (List.mem_of_getElem? (i := 8) rfl) rfl rfl dX6_count_92 ?_
            cases hF
            exact z_ri hx hb hr hlk rfl dX6_count_95
          · have hF := zif c5 hF
            by_cases c6 : x1 = 5
            · have hF := zit c6 hF
              refine z_tin (k := 5) (tgt := 96) hx hb dX6_count_1 c6 ⟨by decide, by decide, rfl, by decide⟩ ?_
              refine lv_aload_n hx hb dX6_count_96 rfl (lv_at hl 0 rfl) ?_
              refine z_get (ci := 6) (v := .ref (q (13 + 2))) (C := RX6) (T := TX6) (N := 13) hx hb hts inX6 hown hK hP 0 rfl rfl 3 (by decide) (List.mem_of_getElem? (i := 3) rfl) rfl rfl dX6_count_97 ?_
              refine lv_aload_n hx hb dX6_count_100 rfl (lv_at hl 0 rfl) ?_
              refine z_get (ci := 6) (v := .ref (q 23)) (C := RX6) (T := TX6) (N := 13) hx hb hts inX6 hown hK hP 0 rfl rfl 4 (by decide) (List.mem_of_getElem? (i := 7) rfl) rfl rfl dX6_count_101 ?_
              refine z_get (ci := 2) (v := .int ((C.1 0).1 8)) (C := RX2) (T := TX2) (N := 9) hx hb hts inX2 hown hK hP 23 rfl rfl 8 (by decide) (List.mem_of_getElem? (i := 8) rfl) rfl rfl dX6_count_104 ?_
              refine z_rgo (va_runV (As := [.int ((C.1 0).1 8)]) (rest := []) ⟨hx, hb, hml, hown, hts⟩ (c3_tide l g q (13 + 2) ((C.2.2.2.2.2.1).1) ((C.1 0).1 8)) (cwV 1 hts gX6_count_X3_tide rfl rfl rfl (by decide +kernel) ⟨Nat.le_of_ble_eq_true rfl, Nat.le_of_ble_eq_true rfl⟩) (z_rpreV (ci := 3) (q := (RX3, TX3, 13)) (q0 := 0) (hP.sub (ws' := NW g q (13 + 2) ((C.2.2.2.2.2.1).1)) [15, 16, 17, 18, 19, 20, 21, 22] rfl) hK rfl rfl) rfl rfl hl.1 rfl (lv_room (Nat.le_of_ble_eq_true rfl)) dX6_count_107 ⟨Nat.zero_le _, Nat.zero_le _⟩) ?_
              cases hF
              exact z_ri hx hb hr hlk rfl dX6_count_110
            · have hF := zif c6 hF
              by_cases c7 : x1 = 6
              · have hF := zit c7 hF
                refine z_tin (k := 6) (tgt := 111) hx hb dX6_count_1 c7 ⟨by decide, by decide, rfl, by decide⟩ ?_
                refine lv_aload_n hx hb dX6_count_111 rfl (lv_at hl 0 rfl) ?_
                refine z_get (ci := 6) (v := .ref (q 23)) (C := RX6) (T := TX6) (N := 13) hx hb hts inX6 hown hK hP 0 rfl rfl 4 (by decide) (List.mem_of_getElem? (i := 7) rfl) rfl rfl dX6_count_112 ?_
                refine z_get (ci := 2) (v := .int ((C.1 0).1 5)) (C := RX2) (T := TX2) (N := 9) hx hb hts inX2 hown hK hP 23 rfl rfl 5 (by decide) (List.mem_of_getElem? (i := 9) rfl) rfl rfl dX6_count_115 ?_
                cases hF
                exact z_ri hx hb hr hlk rfl dX6_count_118
              · have hF := zif c7 hF
                by_cases c8 : x1 = 7
                · have hF := zit c8 hF
                  refine z_tin (k := 7) (tgt := 119) hx hb dX6_count_1 c8 ⟨by decide, by decide, rfl, by decide⟩ ?_
                  refine lv_aload_n hx hb dX6_count_119 rfl (lv_at hl 0 rfl) ?_
                  refine z_get (ci := 6) (v := .ref (q 23)) (C := RX6) (T := TX6) (N := 13) hx hb hts inX6 hown hK hP 0 rfl rfl 4 (by decide) (List.mem_of_getElem? (i := 7) rfl) rfl rfl dX6_count_120 ?_
                  refine lv_aload_n hx hb dX6_count_123 rfl (lv_at hl 0 rfl) ?_
                  refine z_get (ci := 6) (v := .ref (q (13 + 2))) (C := RX6) (T := TX6) (N := 13) hx hb hts inX6 hown hK hP 0 rfl rfl 3 (by decide) (List.mem_of_getElem? (i := 3) rfl) rfl rfl dX6_count_124 ?_
                  obtain ⟨v9, hv9, hF⟩ := zob hF
                  refine z_rgo (va_runV (As := [.ref (q (13 + 2))]) (rest := []) ⟨hx, hb, hml, hown, hts⟩ (c2_right l g q 23 q (13 + 2) (C.1 0) ((C.2.2.2.2.2.1).1)  v9 hv9) (cwV 1 hts gX6_count_X2_right rfl rfl rfl (by decide +kernel) ⟨Nat.le_of_ble_eq_true rfl, Nat.le_of_ble_eq_true rfl⟩) (z_rpreV (ci := 2) (q := (RX2, TX2, 9)) (q0 := 0) (hP.sub (ws' := (OW g q 23 (C.1 0) ++ NW g q (13 + 2) ((C.2.2.2.2.2.1).1))) [23, 24, 25, 26, 27, 15, 16, 17, 18, 19, 20, 21, 22] rfl) hK rfl rfl) rfl rfl hl.1 rfl (lv_room (Nat.le_of_ble_eq_true rfl)) dX6_count_127 ⟨Nat.zero_le _, Nat.zero_le _⟩) ?_
                  cases hF
                  exact z_ri hx hb hr hlk rfl dX6_count_130
                · have hF := zif c8 hF
                  by_cases c10 : x1 = 8
                  · have hF := zit c10 hF
                    refine z_tin (k := 8) (tgt := 131) hx hb dX6_count_1 c10 ⟨by decide, by decide, rfl, by decide⟩ ?_
                    refine lv_aload_n hx hb dX6_count_131 rfl (lv_at hl 0 rfl) ?_
                    refine z_get (ci := 6) (v := .ref (q 34)) (C := RX6) (T := TX6) (N := 13) hx hb hts inX6 hown hK hP 0 rfl rfl 7 (by decide) (List.mem_of_getElem? (i := 10) rfl) rfl rfl dX6_count_132 ?_
                    refine z_get (ci := 5) (v := .int (C.2.2.1.2)) (C := RX5) (T := TX5) (N := 2) hx hb hts inX5 hown hK hP 34 rfl rfl 1 (by decide) (List.mem_of_getElem? (i := 11) rfl) rfl rfl dX6_count_135 ?_
                    cases hF
                    exact z_ri hx hb hr hlk rfl dX6_count_138
                  · have hF := zif c10 hF
                    by_cases c11 : x1 = 9
                    · have hF := zit c11 hF
                      refine z_tin (k := 9) (tgt := 139) hx hb dX6_count_1 c11 ⟨by decide, by decide, rfl, by decide⟩ ?_
                      refine lv_aload_n hx hb dX6_count_139 rfl (lv_at hl 0 rfl) ?_
                      refine z_get (ci := 6) (v := .ref (q 46)) (C := RX6) (T := TX6) (N := 13) hx hb hts inX6 hown hK hP 0 rfl rfl 10 (by decide) (List.mem_of_getElem? (i := 12) rfl) rfl rfl dX6_count_140 ?_
                      refine z_get (ci := 0) (v := .int ((C.2.2.2.2.2.2.2.1).2)) (C := RX0) (T := TX0) (N := 4) hx hb hts inX0 hown hK hP 46 rfl rfl 3 (by decide) (List.mem_of_getElem? (i := 13) rfl) rfl rfl dX6_count_143 ?_
                      cases hF
                      exact z_ri hx hb hr hlk rfl dX6_count_146
                    · have hF := zif c11 hF
                      refine z_tout hx hb dX6_count_1 [0, 1, 2, 3, 4, 5, 6, 7, 8, 9] (fun k hk => ?_) rfl (tgt := 147) (by decide) ?_
                      · simp only [List.mem_cons, List.not_mem_nil, or_false] at hk
                        rcases hk with rfl | rfl | rfl | rfl | rfl | rfl | rfl | rfl | rfl | rfl <;> assumption
                      · refine lv_bipush (v := (-2)) hx hb dX6_count_147 (by decide) ?_
                        cases hF
                        exact z_ri hx hb hr hlk rfl dX6_count_149
def f6_doingOf_l7 (x2 : Int32) : Nat → Int32 → Int32 → Option (Int32)
  | 0, _, _ => none
  | n7 + 1, y2, y3 => if y3 ≤ x2 then if 0 ≤ x2 then some (y2 - y2 / 100 * 100) else some y2 else bd (α := Int32) (y2 / 100) (fun (v6 : Int32) => f6_doingOf_l7 x2 n7 v6 (y3 + (-1)))
def f6_doingOf (x0 : Int32) (x1 : Int32) (x2 : Int32) : Option (Int32) := bd (α := Int32) (x1 - 1) (fun (v1 : Int32) => f6_doingOf_l7 x2 FU x0 v1)
abbrev rmX6_doingOf : Room := { frames := 0, cells := 0, slots := 0, locals := 0 }
set_option maxHeartbeats 4000000 in
set_option maxRecDepth 100000 in
theorem c6_doingOf (l : Launch) (g : zG)  (x0 : Int32) (x1 : Int32) (x2 : Int32) (ro : Int32) (hF : f6_doingOf x0 x1 x2 = some ro) : zRO l g yX6_doingOf wsX6_doingOf rmX6_doingOf [.int x0, .int x1, .int x2] [] (some (.int ro)) := by
  refine zRO_of (cc := cX6_doingOf) (maxL := 5) (ret := (some .int)) (by decide) rfl (Nat.le_of_ble_eq_true rfl) ?_
  intro p e s m args below meth c ls hx hb hr hml hts hown hlk hK hP hl
  have hown : s.vm.findClass RX6 = some m.cls := hown
  have hl : lv_has ls 5 [(0, .int x0), (1, .int x1), (2, .int x2)] := hl
  unfold f6_doingOf at hF
  refine lv_iload_n hx hb dX6_doingOf_0 rfl (lv_at hl 0 rfl) ?_
  refine lv_istore_n (lv' := [(3, .int x0), (0, .int x0), (1, .int x1), (2, .int x2)]) hx hb dX6_doingOf_1 rfl hl (by decide) rfl (fun ls hl => ?_)
  refine lv_iload_n hx hb dX6_doingOf_2 rfl (lv_at hl 2 rfl) ?_
  refine lv_iconst (v := 1) hx hb dX6_doingOf_3 (by decide) ?_
  refine lv_isub hx hb dX6_doingOf_4 ?_
  refine lv_topi (fun v1 ev1 => ?_)
  have hF := bd_eq ev1 hF
  refine lv_istore (lv' := [(4, .int v1), (3, .int x0), (0, .int x0), (1, .int x1), (2, .int x2)]) hx hb dX6_doingOf_5 hl (by decide) rfl (fun ls hl => ?_)
  have L7 : ∀ (n7 : Nat) (y2 : Int32) (y3 : Int32) (ls : Array Slot), f6_doingOf_l7 x2 n7 y2 y3 = some ro → lv_has ls 5 [(2, .int x2), (3, .int y2), (4, .int y3)] → W p l e (headSpec wsX6_doingOf rmX6_doingOf).room s m args below meth c s.heap [] 0 0 (MQ below (zRQ (some (.int ro))) args s 0 0 (fun _ => False)) (F0 m 7 ls []) := by
    intro n7
    induction n7 with
    | zero =>
      intro y2 y3 ls hF hl
      exact absurd (show (none : Option (Int32)) = some _ from hF) (fun h9 => by cases h9)
    | succ n7 ih7 =>
      intro y2 y3 ls hF hl
      rw [f6_doingOf_l7] at hF
      refine lv_iload hx hb dX6_doingOf_7 (lv_at hl 2 rfl) ?_
      refine lv_iload_n hx hb dX6_doingOf_9 rfl (lv_at hl 0 rfl) ?_
      refine lv_icmp_le (tgt := 24) hx hb dX6_doingOf_10 (by decide) (fun c4 => ?_) (fun c4 => ?_)
      · have hF := zit c4 hF
        refine lv_iload_n hx hb dX6_doingOf_24 rfl (lv_at hl 0 rfl) ?_
        refine lv_if_ge (tgt := 32) hx hb dX6_doingOf_25 (by decide) (fun c5 => ?_) (fun c5 => ?_)
        · have hF := zit c5 hF
          refine lv_iload_n hx hb dX6_doingOf_32 rfl (lv_at hl 1 rfl) ?_
          refine lv_bipush (v := 100) hx hb dX6_doingOf_33 (by decide) ?_
          refine lv_irem hx hb dX6_doingOf_35 (by decide) ?_
          cases hF
          exact z_ri hx hb hr hlk rfl dX6_doingOf_36
        · have hF := zif c5 hF
          refine lv_iload_n hx hb dX6_doingOf_28 rfl (lv_at hl 1 rfl) ?_
          refine lv_goto (tgt := 36) hx hb dX6_doingOf_29 (by decide) ?_
          cases hF
          exact z_ri hx hb hr hlk rfl dX6_doingOf_36
      · have hF := zif c4 hF
        refine lv_iload_n hx hb dX6_doingOf_13 rfl (lv_at hl 1 rfl) ?_
        refine lv_bipush (v := 100) hx hb dX6_doingOf_14 (by decide) ?_
        refine lv_idiv hx hb dX6_doingOf_16 (by decide) ?_
        refine lv_topi (fun v6 ev6 => ?_)
        have hF := bd_eq ev6 hF
        refine lv_istore_n (lv' := [(3, .int v6), (2, .int x2), (4, .int y3)]) hx hb dX6_doingOf_17 rfl hl (by decide) rfl (fun ls hl => ?_)
        refine lv_iinc (v := (y3 + (-1))) (lv' := [(4, .int (y3 + (-1))), (3, .int v6), (2, .int x2)]) hx hb dX6_doingOf_18 hl (k := 2) rfl rfl (by decide) rfl (fun ls hl => ?_)
        refine lv_goto (tgt := 7) hx hb dX6_doingOf_21 (by decide) ?_
        exact ih7 v6 (y3 + (-1)) ls hF (lv_sub hl [2, 1, 0] rfl)
  exact L7 FU x0 v1 ls hF (lv_sub hl [4, 1, 0] rfl)
def f6_fault (C : Cs) : Option (Int32 × Cs) := (f4_read (C.2.2.2.2.1) (C.2.2.2.1)).bind fun (v2, R1) => bd (cCk C R1) (fun (C3 : Cs) => some (v2, C3))
abbrev rmX6_fault : Room := { frames := 6, cells := 0, slots := 0, locals := 133 }
set_option maxHeartbeats 4000000 in
set_option maxRecDepth 100000 in
theorem c6_fault (l : Launch) (g : zG) (q : Nat → Nat) (C : Cs) (ro : Int32) (C_o : Cs) (hF : f6_fault C = some (ro, C_o)) : zRW l g yX6_fault wsX6_fault rmX6_fault [.ref (q 0)] (CW g q C) (some (.int ro)) (CW g q C_o) := by
  refine zRW_of (cc := cX6_fault) (maxL := 1) (ret := (some .int)) (by decide) rfl (Nat.le_of_ble_eq_true rfl) ?_
  intro p e s m args below meth c A H locs ls hx hb hr hml hts hown hlk hK hA hP hD hS hl
  have hown : s.vm.findClass RX6 = some m.cls := hown
  have hl : lv_has ls 1 [(0, .ref (q 0))] := hl
  have inX6 : ∀ w ∈ wsX60, w ∈ wsX6_fault := fun _ h => List.mem_cons_of_mem _ (List.mem_append_left _ (List.mem_append_left _ (List.mem_append_left _ (List.mem_append_right _ h))))
  unfold f6_fault at hF
  refine lv_aload_n hx hb dX6_fault_0 rfl (lv_at hl 0 rfl) ?_
  refine z_get (ci := 6) (v := .ref (q 3)) (C := RX6) (T := TX6) (N := 13) hx hb hts inX6 hown hK hP 0 rfl rfl 1 (by decide) (List.mem_of_getElem? (i := 1) rfl) rfl rfl dX6_fault_1 ?_
  refine lv_aload_n hx hb dX6_fault_4 rfl (lv_at hl 0 rfl) ?_
  refine z_get (ci := 6) (v := .ref (q 1)) (C := RX6) (T := TX6) (N := 13) hx hb hts inX6 hown hK hP 0 rfl rfl 0 (by decide) (List.mem_of_getElem? (i := 2) rfl) rfl rfl dX6_fault_5 ?_
  obtain ⟨⟨v2, R1⟩, hR1, hF⟩ := zob hF
  refine z_wgo (wn := CW g q (cCk C R1)) (va_runV (As := [.ref (q 1)]) (rest := []) ⟨hx, hb, hml, hown, hts⟩ ((c4_read l g q 3 q 1 (C.2.2.2.2.1) (C.2.2.2.1)  v2  R1 hR1) H.size) (cwV 1 hts gX6_fault_X4_read rfl rfl rfl (by decide +kernel) ⟨Nat.le_of_ble_eq_true rfl, Nat.le_of_ble_eq_true rfl⟩) (z_wpreV (ci := 4) (q := (RX4, TX4, 4)) (q0 := 0) (hP.sub (ws' := (RW g q 3 (C.2.2.2.2.1) ++ LW g q 1 (C.2.2.2.1))) [3, 4, 5, 6, 7, 8, 9, 10, 11, 12, 1, 2] rfl) hK (z_any (hD.sub (ws' := (RW g q 3 (C.2.2.2.2.1) ++ LW g q 1 (C.2.2.2.1))) [3, 4, 5, 6, 7, 8, 9, 10, 11, 12, 1, 2] (by decide) rfl)) rfl rfl) rfl rfl hl.1 rfl (lv_room (Nat.le_of_ble_eq_true rfl)) dX6_fault_8 ⟨Nat.zero_le _, Nat.zero_le _⟩) hP hD hS hA [3, 4, 5, 6, 7, 8, 9, 10, 11, 12, 1, 2] rfl (by decide) rfl rfl (fun H locs hP hD hS => ?_)
  show W p l e (headSpec wsX6_fault rmX6_fault).room s m args below meth c H locs 0 0 (MQ below (zWQ g A (CW g q C_o) (some (.int ro))) args s 0 0 A) (F0 m 11 ls [.int v2])
  obtain ⟨C3, eC3⟩ : ∃ y : Cs, y = (cCk C R1) := ⟨_, rfl⟩
  rw [← eC3] at hP hD
  have hF := bd_eq eC3 hF
  cases hF
  exact z_wi hx hb hr hlk hP hD hS rfl rfl dX6_fault_11
def f7_fill_53178_l5 (x1 : Int32) : Nat → Int32 → (Nat → Int32) → Option ((Nat → Int32))
  | 0, _, _ => none
  | n5 + 1, y1, f2 => if 4 ≤ y1 then some f2 else (zwr f2 4 y1 x1).bind fun f4 => bd f4 (fun (f5 : (Nat → Int32)) => f7_fill_53178_l5 x1 n5 (y1 + 1) f5)
def f7_fill_53178 (f : (Nat → Int32)) (x1 : Int32) : Option ((Nat → Int32)) := f7_fill_53178_l5 x1 FU 0 f
abbrev rmJ7_fill_53178 : Room := { frames := 0, cells := 0, slots := 0, locals := 0 }
set_option maxHeartbeats 4000000 in
set_option maxRecDepth 100000 in
theorem c7_fill_53178 (l : Launch) (g : zG) (q : Nat → Nat) (b : Nat) (f : (Nat → Int32)) (x1 : Int32) (f_o : (Nat → Int32)) (hF : f7_fill_53178 f x1 = some f_o) : zRW l g yJ7_fill_53178 wsJ7_fill_53178 rmJ7_fill_53178 [.ref (q b), .int x1] (AW4 g q b f) none (AW4 g q b f_o) := by
  refine zRW_of (cc := cJ7_fill_53178) (maxL := 4) (ret := none) (by decide) rfl (Nat.le_of_ble_eq_true rfl) ?_
  intro p e s m args below meth c A H locs ls hx hb hr hml hts hown hlk hK hA hP hD hS hl
  have hown : s.vm.findClass RJ7 = some m.cls := hown
  have hl : lv_has ls 4 [(0, .ref (q b)), (1, .int x1)] := hl
  unfold f7_fill_53178 at hF
  refine lv_iconst (v := 0) hx hb dJ7_fill_53178_0 (by decide) ?_
  refine lv_istore_n (lv' := [(2, .int 0), (0, .ref (q b)), (1, .int x1)]) hx hb dJ7_fill_53178_1 rfl hl (by decide) rfl (fun ls hl => ?_)
  refine lv_aload_n hx hb dJ7_fill_53178_2 rfl (lv_at hl 1 rfl) ?_
  refine va_alen (v := 4) hx hb hK.1 hP 0 0 rfl rfl rfl dJ7_fill_53178_3 ?_
  refine lv_istore_n (lv' := [(3, .int 4), (2, .int 0), (0, .ref (q b)), (1, .int x1)]) hx hb dJ7_fill_53178_4 rfl hl (by decide) rfl (fun ls hl => ?_)
  have L5 : ∀ (n5 : Nat) (y1 : Int32) (f2 : (Nat → Int32)) (H : Heap) (locs : List Loc) (ls : Array Slot), f7_fill_53178_l5 x1 n5 y1 f2 = some f_o → va_P (zD g) vwCl (AW4 g q b f2) H → va_D A (AW4 g q b f2) → va_S A s.heap H locs → lv_has ls 4 [(0, .ref (q b)), (1, .int x1), (2, .int y1), (3, .int 4)] → W p l e (headSpec wsJ7_fill_53178 rmJ7_fill_53178).room s m args below meth c H locs 0 0 (MQ below (zWQ g A (AW4 g q b f_o) none) args s 0 0 A) (F0 m 5 ls []) := by
    intro n5
    induction n5 with
    | zero =>
      intro y1 f2 H locs ls hF hP hD hS hl
      exact absurd (show (none : Option ((Nat → Int32))) = some _ from hF) (fun h9 => by cases h9)
    | succ n5 ih5 =>
      intro y1 f2 H locs ls hF hP hD hS hl
      rw [f7_fill_53178_l5] at hF
      refine lv_iload_n hx hb dJ7_fill_53178_5 rfl (lv_at hl 2 rfl) ?_
      refine lv_iload_n hx hb dJ7_fill_53178_6 rfl (lv_at hl 3 rfl) ?_
      refine lv_icmp_ge (tgt := 20) hx hb dJ7_fill_53178_7 (by decide) (fun c3 => ?_) (fun c3 => ?_)
      · have hF := zit c3 hF
        cases hF
        exact z_wv hx hb hr hlk hP hD hS rfl dJ7_fill_53178_20
      · have hF := zif c3 hF
        refine lv_aload_n hx hb dJ7_fill_53178_10 rfl (lv_at hl 0 rfl) ?_
        refine lv_iload_n hx hb dJ7_fill_53178_11 rfl (lv_at hl 2 rfl) ?_
        refine lv_iload_n hx hb dJ7_fill_53178_12 rfl (lv_at hl 1 rfl) ?_
        obtain ⟨f4, hf4, hF⟩ := zob hF
        refine z_iast (ws' := AW4 g q b f4) hx hb hK hP hD hS 0 rfl hf4 rfl dJ7_fill_53178_13 (fun H locs hP hD hS => ?_)
        obtain ⟨f5, ef5⟩ : ∃ y : (Nat → Int32), y = f4 := ⟨_, rfl⟩
        rw [← ef5] at hP hD
        have hF := bd_eq ef5 hF
        refine lv_iinc (v := (y1 + 1)) (lv' := [(2, .int (y1 + 1)), (0, .ref (q b)), (1, .int x1), (3, .int 4)]) hx hb dJ7_fill_53178_14 hl (k := 2) rfl rfl (by decide) rfl (fun ls hl => ?_)
        refine lv_goto (tgt := 5) hx hb dJ7_fill_53178_17 (by decide) ?_
        exact ih5 (y1 + 1) f5 H locs ls hF hP hD hS (lv_sub hl [1, 2, 0, 3] rfl)
  exact L5 FU 0 f H locs ls hF hP hD hS (lv_sub hl [2, 3, 1, 0] rfl)
def f6_findPassed_l29 (y5 : Int32) (k21 : (Int32 → Cs → Option (Cs))) : Nat → Int32 → Cs → Option (Cs)
  | 0, _, _ => none
  | n29 + 1, y8, C9 => if (((C9.2.2.2.2.2.1).1).1 4) ≤ y8 then (f2_advance (C9.1 1) ((C9.2.2.2.2.2.1).1)).bind fun M11 => bd (cM C9 1 M11) (fun (C12 : Cs) => k21 (y5 + 1) C12) else bd (cPs C9 (f6_put 4 (C9.2.2.2.2.2.2.1) y8 ((f6_cell 4 (C9.2.2.2.2.2.2.1) y8) ||| (f6_bit (f6_cell 4 ((C9.1 1).2 0) y8))))) (fun (C13 : Cs) => f6_findPassed_l29 y5 k21 n29 (y8 + 1) C13)
def f6_findPassed_l21 : Nat → Int32 → Cs → Option (Cs)
  | 0, _, _ => none
  | n21 + 1, y5, C6 => if 8 < y5 then some C6 else f6_findPassed_l29 y5 (fun y5 C6 => f6_findPassed_l21 n21 y5 C6) FU 0 C6
def f6_findPassed (C : Cs) : Option (Cs) := (f2_copy (C.1 1) (C.1 0)).bind fun M1 => bd (cM C 1 M1) (fun (C2 : Cs) => (f7_fill_53178 (C2.2.2.2.2.2.2.1) 0).bind fun f3 => bd (cPs C2 f3) (fun (C4 : Cs) => f6_findPassed_l21 FU 0 C4))
abbrev rmX6_findPassed : Room := { frames := 5, cells := 0, slots := 0, locals := 118 }
set_option maxHeartbeats 4000000 in
set_option maxRecDepth 100000 in
theorem c6_findPassed (l : Launch) (g : zG) (q : Nat → Nat) (C : Cs) (C_o : Cs) (hF : f6_findPassed C = some C_o) : zRW l g yX6_findPassed wsX6_findPassed rmX6_findPassed [.ref (q 0)] (CW g q C) none (CW g q C_o) := by
  refine zRW_of (cc := cX6_findPassed) (maxL := 3) (ret := none) (by decide) rfl (Nat.le_of_ble_eq_true rfl) ?_
  intro p e s m args below meth c A H locs ls hx hb hr hml hts hown hlk hK hA hP hD hS hl
  have hown : s.vm.findClass RX6 = some m.cls := hown
  have hl : lv_has ls 3 [(0, .ref (q 0))] := hl
  have inX2 : ∀ w ∈ wsX20, w ∈ wsX6_findPassed := fun _ h => List.mem_cons_of_mem _ (List.mem_append_right _ h)
  have inX3 : ∀ w ∈ wsX30, w ∈ wsX6_findPassed := fun _ h => List.mem_cons_of_mem _ (List.mem_append_left _ (List.mem_append_right _ h))
  have inX6 : ∀ w ∈ wsX60, w ∈ wsX6_findPassed := fun _ h => List.mem_cons_of_mem _ (List.mem_append_left _ (List.mem_append_left _ (List.mem_append_right _ h)))
  unfold f6_findPassed at hF
  refine lv_aload_n hx hb dX6_findPassed_0 rfl (lv_at hl 0 rfl) ?_
  refine z_get (ci := 6) (v := .ref (q 28)) (C := RX6) (T := TX6) (N := 13) hx hb hts inX6 hown hK hP 0 rfl rfl 5 (by decide) (List.mem_of_getElem? (i := 1) rfl) rfl rfl dX6_findPassed_1 ?_
  refine lv_aload_n hx hb dX6_findPassed_4 rfl (lv_at hl 0 rfl) ?_
  refine z_get (ci := 6) (v := .ref (q 23)) (C := RX6) (T := TX6) (N := 13) hx hb hts inX6 hown hK hP 0 rfl rfl 4 (by decide) (List.mem_of_getElem? (i := 2) rfl) rfl rfl dX6_findPassed_5 ?_
  obtain ⟨M1, hM1, hF⟩ := zob hF
  refine z_wgo (wn := CW g q (cM C 1 M1)) (va_runV (As := [.ref (q 23)]) (rest := []) ⟨hx, hb, hml, hown, hts⟩ ((c2_copy l g q 28 q 23 (C.1 1) (C.1 0)   M1 hM1) H.size) (cwV 1 hts gX6_findPassed_X2_copy rfl rfl rfl (by decide +kernel) ⟨Nat.le_of_ble_eq_true rfl, Nat.le_of_ble_eq_true rfl⟩) (z_wpreV (ci := 2) (q := (RX2, TX2, 9)) (q0 := 0) (hP.sub (ws' := (OW g q 28 (C.1 1) ++ OW g q 23 (C.1 0))) [28, 29, 30, 31, 32, 23, 24, 25, 26, 27] rfl) hK (z_any (hD.sub (ws' := (OW g q 28 (C.1 1) ++ OW g q 23 (C.1 0))) [28, 29, 30, 31, 32, 23, 24, 25, 26, 27] (by decide) rfl)) rfl rfl) rfl rfl hl.1 rfl (lv_room (Nat.le_of_ble_eq_true rfl)) dX6_findPassed_8 ⟨Nat.zero_le _, Nat.zero_le _⟩) hP hD hS hA [28, 29, 30, 31, 32, 23, 24, 25, 26, 27] rfl (by decide) rfl rfl (fun H locs hP hD hS => ?_)
  show W p l e (headSpec wsX6_findPassed rmX6_findPassed).room s m args below meth c H locs 0 0 (MQ below (zWQ g A (CW g q C_o) none) args s 0 0 A) (F0 m 11 ls [])
  obtain ⟨C2, eC2⟩ : ∃ y : Cs, y = (cM C 1 M1) := ⟨_, rfl⟩
  rw [← eC2] at hP hD
  have hF := bd_eq eC2 hF
  refine lv_aload_n hx hb dX6_findPassed_11 rfl (lv_at hl 0 rfl) ?_
  refine z_get (ci := 6) (v := .ref (q 33)) (C := RX6) (T := TX6) (N := 13) hx hb hts inX6 hown hK hP 0 rfl rfl 6 (by decide) (List.mem_of_getElem? (i := 3) rfl) rfl rfl dX6_findPassed_12 ?_
  refine lv_iconst (v := 0) hx hb dX6_findPassed_15 (by decide) ?_
  obtain ⟨f3, hf3, hF⟩ := zob hF
  refine z_wgo (wn := CW g q (cPs C2 f3)) (va_runS (As := [.ref (q 33), .int 0]) (rest := []) ⟨hx, hb, hml, hown, hts⟩ ((c7_fill_53178 l g q 33 (C2.2.2.2.2.2.2.1) 0  f3 hf3) H.size) (va_cwS 2 hts gX6_findPassed_J7_fill_53178 rfl rfl rfl (by decide +kernel) ⟨Nat.le_of_ble_eq_true rfl, Nat.le_of_ble_eq_true rfl⟩) (z_wpre (hP.sub (ws' := AW4 g q 33 (C2.2.2.2.2.2.2.1)) [33] rfl) hK (z_any (hD.sub (ws' := AW4 g q 33 (C2.2.2.2.2.2.2.1)) [33] (by decide) rfl))) rfl rfl hl.1 rfl (lv_room (Nat.le_of_ble_eq_true rfl)) dX6_findPassed_16 ⟨Nat.zero_le _, Nat.zero_le _⟩) hP hD hS hA [33] rfl (by decide) rfl rfl (fun H locs hP hD hS => ?_)
  show W p l e (headSpec wsX6_findPassed rmX6_findPassed).room s m args below meth c H locs 0 0 (MQ below (zWQ g A (CW g q C_o) none) args s 0 0 A) (F0 m 19 ls [])
  obtain ⟨C4, eC4⟩ : ∃ y : Cs, y = (cPs C2 f3) := ⟨_, rfl⟩
  rw [← eC4] at hP hD
  have hF := bd_eq eC4 hF
  refine lv_iconst (v := 0) hx hb dX6_findPassed_19 (by decide) ?_
  refine lv_istore_n (lv' := [(1, .int 0), (0, .ref (q 0))]) hx hb dX6_findPassed_20 rfl hl (by decide) rfl (fun ls hl => ?_)
  have L21 : ∀ (n21 : Nat) (y5 : Int32) (C6 : Cs) (H : Heap) (locs : List Loc) (ls : Array Slot), f6_findPassed_l21 n21 y5 C6 = some C_o → va_P (zD g) vwCl (CW g q C6) H → va_D A (CW g q C6) → va_S A s.heap H locs → lv_has ls 3 [(0, .ref (q 0)), (1, .int y5)] → W p l e (headSpec wsX6_findPassed rmX6_findPassed).room s m args below meth c H locs 0 0 (MQ below (zWQ g A (CW g q C_o) none) args s 0 0 A) (F0 m 21 ls []) := by
    intro n21
    induction n21 with
    | zero =>
      intro y5 C6 H locs ls hF hP hD hS hl
      exact absurd (show (none : Option (Cs)) = some _ from hF) (fun h9 => by cases h9)
    | succ n21 ih21 =>
      intro y5 C6 H locs ls hF hP hD hS hl
      rw [f6_findPassed_l21] at hF
      refine lv_iload_n hx hb dX6_findPassed_21 rfl (lv_at hl 1 rfl) ?_
      refine lv_bipush (v := 8) hx hb dX6_findPassed_22 (by decide) ?_
      refine lv_icmp_gt (tgt := 94) hx hb dX6_findPassed_24 (by decide) (fun c7 => ?_) (fun c7 => ?_)
      · have hF := zit c7 hF
        cases hF
        exact z_wv hx hb hr hlk hP hD hS rfl dX6_findPassed_94
      · have hF := zif c7 hF
        refine lv_iconst (v := 0) hx hb dX6_findPassed_27 (by decide) ?_
        refine lv_istore_n (lv' := [(2, .int 0), (0, .ref (q 0)), (1, .int y5)]) hx hb dX6_findPassed_28 rfl hl (by decide) rfl (fun ls hl => ?_)
        have L29 : ∀ (n29 : Nat) (y8 : Int32) (C9 : Cs) (H : Heap) (locs : List Loc) (ls : Array Slot), f6_findPassed_l29 y5 (fun y5 C6 => f6_findPassed_l21 n21 y5 C6) n29 y8 C9 = some C_o → va_P (zD g) vwCl (CW g q C9) H → va_D A (CW g q C9) → va_S A s.heap H locs → lv_has ls 3 [(0, .ref (q 0)), (1, .int y5), (2, .int y8)] → W p l e (headSpec wsX6_findPassed rmX6_findPassed).room s m args below meth c H locs 0 0 (MQ below (zWQ g A (CW g q C_o) none) args s 0 0 A) (F0 m 29 ls []) := by
          intro n29
          induction n29 with
          | zero =>
            intro y8 C9 H locs ls hF hP hD hS hl
            exact absurd (show (none : Option (Cs)) = some _ from hF) (fun h9 => by cases h9)
          | succ n29 ih29 =>
            intro y8 C9 H locs ls hF hP hD hS hl
            rw [f6_findPassed_l29] at hF
            refine lv_iload_n hx hb dX6_findPassed_29 rfl (lv_at hl 2 rfl) ?_
            refine lv_aload_n hx hb dX6_findPassed_30 rfl (lv_at hl 0 rfl) ?_
            refine z_get (ci := 6) (v := .ref (q (13 + 2))) (C := RX6) (T := TX6) (N := 13) hx hb hts inX6 hown hK hP 0 rfl rfl 3 (by decide) (List.mem_of_getElem? (i := 4) rfl) rfl rfl dX6_findPassed_31 ?_
            refine z_get (ci := 3) (v := .int (((C9.2.2.2.2.2.1).1).1 4)) (C := RX3) (T := TX3) (N := 13) hx hb hts inX3 hown hK hP 15 rfl rfl 4 (by decide) (List.mem_of_getElem? (i := 5) rfl) rfl rfl dX6_findPassed_34 ?_
            refine lv_icmp_ge (tgt := 77) hx hb dX6_findPassed_37 (by decide) (fun c10 => ?_) (fun c10 => ?_)
            · have hF := zit c10 hF
              refine lv_aload_n hx hb dX6_findPassed_77 rfl (lv_at hl 0 rfl) ?_
              refine z_get (ci := 6) (v := .ref (q 28)) (C := RX6) (T := TX6) (N := 13) hx hb hts inX6 hown hK hP 0 rfl rfl 5 (by decide) (List.mem_of_getElem? (i := 1) rfl) rfl rfl dX6_findPassed_78 ?_
              refine lv_aload_n hx hb dX6_findPassed_81 rfl (lv_at hl 0 rfl) ?_
              refine z_get (ci := 6) (v := .ref (q (13 + 2))) (C := RX6) (T := TX6) (N := 13) hx hb hts inX6 hown hK hP 0 rfl rfl 3 (by decide) (List.mem_of_getElem? (i := 4) rfl) rfl rfl dX6_findPassed_82 ?_
              obtain ⟨M11, hM11, hF⟩ := zob hF
              refine z_wgo (wn := CW g q (cM C9 1 M11)) (va_runV (As := [.ref (q (13 + 2))]) (rest := []) ⟨hx, hb, hml, hown, hts⟩ ((c2_advance l g q 28 q (13 + 2) (C9.1 1) ((C9.2.2.2.2.2.1).1)   M11 hM11) H.size) (cwV 1 hts gX6_findPassed_X2_advance rfl rfl rfl (by decide +kernel) ⟨Nat.le_of_ble_eq_true rfl, Nat.le_of_ble_eq_true rfl⟩) (z_wpreV (ci := 2) (q := (RX2, TX2, 9)) (q0 := 0) (hP.sub (ws' := (OW g q 28 (C9.1 1) ++ NW g q (13 + 2) ((C9.2.2.2.2.2.1).1))) [28, 29, 30, 31, 32, 15, 16, 17, 18, 19, 20, 21, 22] rfl) hK (z_any (hD.sub (ws' := (OW g q 28 (C9.1 1) ++ NW g q (13 + 2) ((C9.2.2.2.2.2.1).1))) [28, 29, 30, 31, 32, 15, 16, 17, 18, 19, 20, 21, 22] (by decide) rfl)) rfl rfl) rfl rfl hl.1 rfl (lv_room (Nat.le_of_ble_eq_true rfl)) dX6_findPassed_85 ⟨Nat.zero_le _, Nat.zero_le _⟩) hP hD hS hA [28, 29, 30, 31, 32, 15, 16, 17, 18, 19, 20, 21, 22] rfl (by decide) rfl rfl (fun H locs hP hD hS => ?_)
              show W p l e (headSpec wsX6_findPassed rmX6_findPassed).room s m args below meth c H locs 0 0 (MQ below (zWQ g A (CW g q C_o) none) args s 0 0 A) (F0 m 88 ls [])
              obtain ⟨C12, eC12⟩ : ∃ y : Cs, y = (cM C9 1 M11) := ⟨_, rfl⟩
              rw [← eC12] at hP hD
              have hF := bd_eq eC12 hF
              refine lv_iinc (v := (y5 + 1)) (lv' := [(1, .int (y5 + 1)), (0, .ref (q 0)), (2, .int y8)]) hx hb dX6_findPassed_88 hl (k := 1) rfl rfl (by decide) rfl (fun ls hl => ?_)
              refine lv_goto (tgt := 21) hx hb dX6_findPassed_91 (by decide) ?_
              exact ih21 (y5 + 1) C12 H locs ls hF hP hD hS (lv_sub hl [1, 0] rfl)
            · have hF := zif c10 hF
              refine lv_aload_n hx hb dX6_findPassed_40 rfl (lv_at hl 0 rfl) ?_
              refine z_get (ci := 6) (v := .ref (q 33)) (C := RX6) (T := TX6) (N := 13) hx hb hts inX6 hown hK hP 0 rfl rfl 6 (by decide) (List.mem_of_getElem? (i := 3) rfl) rfl rfl dX6_findPassed_41 ?_
              refine lv_iload_n hx hb dX6_findPassed_44 rfl (lv_at hl 2 rfl) ?_
              refine lv_aload_n hx hb dX6_findPassed_45 rfl (lv_at hl 0 rfl) ?_
              refine z_get (ci := 6) (v := .ref (q 33)) (C := RX6) (T := TX6) (N := 13) hx hb hts inX6 hown hK hP 0 rfl rfl 6 (by decide) (List.mem_of_getElem? (i := 3) rfl) rfl rfl dX6_findPassed_46 ?_
              refine lv_iload_n hx hb dX6_findPassed_49 rfl (lv_at hl 2 rfl) ?_
              refine z_rgo (va_runS (As := [.ref (q 33), .int y8]) (rest := [.int y8, .ref (q 33)]) ⟨hx, hb, hml, hown, hts⟩ (c6_cell l g (q 33) 4 (by decide) (C9.2.2.2.2.2.2.1) y8) (va_cwS 2 hts gX6_findPassed_X6_cell rfl rfl rfl (by decide +kernel) ⟨Nat.le_of_ble_eq_true rfl, Nat.le_of_ble_eq_true rfl⟩) (z_rpre (hP.sub (ws' := [((q 33), .inl (g.2.2.1, 4, .inl (C9.2.2.2.2.2.2.1)))]) [33] rfl) hK) rfl rfl hl.1 rfl (lv_room (Nat.le_of_ble_eq_true rfl)) dX6_findPassed_50 ⟨Nat.zero_le _, Nat.zero_le _⟩) ?_
              refine lv_aload_n hx hb dX6_findPassed_53 rfl (lv_at hl 0 rfl) ?_
              refine z_get (ci := 6) (v := .ref (q 28)) (C := RX6) (T := TX6) (N := 13) hx hb hts inX6 hown hK hP 0 rfl rfl 5 (by decide) (List.mem_of_getElem? (i := 1) rfl) rfl rfl dX6_findPassed_54 ?_
              refine z_get (ci := 2) (v := .ref (q (28 + 1))) (C := RX2) (T := TX2) (N := 9) hx hb hts inX2 hown hK hP 28 rfl rfl 0 (by decide) (List.mem_of_getElem? (i := 6) rfl) rfl rfl dX6_findPassed_57 ?_
              refine lv_iload_n hx hb dX6_findPassed_60 rfl (lv_at hl 2 rfl) ?_
              refine z_rgo (va_runS (As := [.ref (q (28 + 1)), .int y8]) (rest := [.int (f6_cell 4 (C9.2.2.2.2.2.2.1) y8), .int y8, .ref (q 33)]) ⟨hx, hb, hml, hown, hts⟩ (c6_cell l g (q (28 + 1)) 4 (by decide) ((C9.1 1).2 0) y8) (va_cwS 2 hts gX6_findPassed_X6_cell rfl rfl rfl (by decide +kernel) ⟨Nat.le_of_ble_eq_true rfl, Nat.le_of_ble_eq_true rfl⟩) (z_rpre (hP.sub (ws' := [((q (28 + 1)), .inl (g.2.2.1, 4, .inl ((C9.1 1).2 0)))]) [29] rfl) hK) rfl rfl hl.1 rfl (lv_room (Nat.le_of_ble_eq_true rfl)) dX6_findPassed_61 ⟨Nat.zero_le _, Nat.zero_le _⟩) ?_
              refine z_rgo (va_runS (As := [.int (f6_cell 4 ((C9.1 1).2 0) y8)]) (rest := [.int (f6_cell 4 (C9.2.2.2.2.2.2.1) y8), .int y8, .ref (q 33)]) ⟨hx, hb, hml, hown, hts⟩ (c6_bit l g   (f6_cell 4 ((C9.1 1).2 0) y8)) (va_cwS 1 hts gX6_findPassed_X6_bit rfl rfl rfl (by decide +kernel) ⟨Nat.le_of_ble_eq_true rfl, Nat.le_of_ble_eq_true rfl⟩) (z_rpre z_nil hK) rfl rfl hl.1 rfl (lv_room (Nat.le_of_ble_eq_true rfl)) dX6_findPassed_64 ⟨Nat.zero_le _, Nat.zero_le _⟩) ?_
              refine lv_ior hx hb dX6_findPassed_67 ?_
              refine z_wgo (wn := CW g q (cPs C9 (f6_put 4 (C9.2.2.2.2.2.2.1) y8 ((f6_cell 4 (C9.2.2.2.2.2.2.1) y8) ||| (f6_bit (f6_cell 4 ((C9.1 1).2 0) y8)))))) (va_runS (As := [.ref (q 33), .int y8, .int ((f6_cell 4 (C9.2.2.2.2.2.2.1) y8) ||| (f6_bit (f6_cell 4 ((C9.1 1).2 0) y8)))]) (rest := []) ⟨hx, hb, hml, hown, hts⟩ ((c6_put l g (q 33) 4 (by decide) (C9.2.2.2.2.2.2.1) y8 ((f6_cell 4 (C9.2.2.2.2.2.2.1) y8) ||| (f6_bit (f6_cell 4 ((C9.1 1).2 0) y8)))) H.size) (va_cwS 3 hts gX6_findPassed_X6_put rfl rfl rfl (by decide +kernel) ⟨Nat.le_of_ble_eq_true rfl, Nat.le_of_ble_eq_true rfl⟩) (z_wpre (hP.sub (ws' := [((q 33), .inl (g.2.2.1, 4, .inl (C9.2.2.2.2.2.2.1)))]) [33] rfl) hK (z_any (hD.sub (ws' := [((q 33), .inl (g.2.2.1, 4, .inl (C9.2.2.2.2.2.2.1)))]) [33] (by decide) rfl))) rfl rfl hl.1 rfl (lv_room (Nat.le_of_ble_eq_true rfl)) dX6_findPassed_68 ⟨Nat.zero_le _, Nat.zero_le _⟩) hP hD hS hA [33] rfl (by decide) rfl rfl (fun H locs hP hD hS => ?_)
              show W p l e (headSpec wsX6_findPassed rmX6_findPassed).room s m args below meth c H locs 0 0 (MQ below (zWQ g A (CW g q C_o) none) args s 0 0 A) (F0 m 71 ls [])
              obtain ⟨C13, eC13⟩ : ∃ y : Cs, y = (cPs C9 (f6_put 4 (C9.2.2.2.2.2.2.1) y8 ((f6_cell 4 (C9.2.2.2.2.2.2.1) y8) ||| (f6_bit (f6_cell 4 ((C9.1 1).2 0) y8))))) := ⟨_, rfl⟩
              rw [← eC13] at hP hD
              have hF := bd_eq eC13 hF
              refine lv_iinc (v := (y8 + 1)) (lv' := [(2, .int (y8 + 1)), (0, .ref (q 0)), (1, .int y5)]) hx hb dX6_findPassed_71 hl (k := 2) rfl rfl (by decide) rfl (fun ls hl => ?_)
              refine lv_goto (tgt := 29) hx hb dX6_findPassed_74 (by decide) ?_
              exact ih29 (y8 + 1) C13 H locs ls hF hP hD hS (lv_sub hl [1, 2, 0] rfl)
        exact L29 FU 0 C6 H locs ls hF hP hD hS (lv_sub hl [1, 2, 0] rfl)
  exact L21 FU 0 C4 H locs ls hF hP hD hS (lv_sub hl [1, 0] rfl)
def f6_flag (x0 : Int32) : Int32 := if x0 = 0 then 0 else 1
abbrev rmX6_flag : Room := { frames := 0, cells := 0, slots := 0, locals := 0 }
set_option maxHeartbeats 4000000 in
set_option maxRecDepth 100000 in
theorem c6_flag (l : Launch) (g : zG)  (x0 : Int32) : zRO l g yX6_flag wsX6_flag rmX6_flag [.int x0] [] (some (.int (f6_flag x0))) := by
  obtain ⟨ro, hF⟩ : ∃ y : Int32, f6_flag x0 = y := ⟨_, rfl⟩
  rw [hF]
  refine zRO_of (cc := cX6_flag) (maxL := 1) (ret := (some .int)) (by decide) rfl (Nat.le_of_ble_eq_true rfl) ?_
  intro p e s m args below meth c ls hx hb hr hml hts hown hlk hK hP hl
  have hown : s.vm.findClass RX6 = some m.cls := hown
  have hl : lv_has ls 1 [(0, .int x0)] := hl
  unfold f6_flag at hF
  refine lv_iload_n hx hb dX6_flag_0 rfl (lv_at hl 0 rfl) ?_
  refine lv_if_eq (tgt := 8) hx hb dX6_flag_1 (by decide) (fun c1 => ?_) (fun c1 => ?_)
  · have hF := zit c1 hF
    refine lv_iconst (v := 0) hx hb dX6_flag_8 (by decide) ?_
    subst hF
    exact z_ri hx hb hr hlk rfl dX6_flag_9
  · have hF := zif c1 hF
    refine lv_iconst (v := 1) hx hb dX6_flag_4 (by decide) ?_
    refine lv_goto (tgt := 9) hx hb dX6_flag_5 (by decide) ?_
    subst hF
    exact z_ri hx hb hr hlk rfl dX6_flag_9
def f6_weightOf_l5 (x0 : Int32) (x1 : Int32) (x2 : Int32) : Nat → Int32 → Int32 → Option (Int32)
  | 0, _, _ => none
  | n5 + 1, y1, y2 => if x1 ≤ y2 then some y1 else bd (α := Int32) (if (f6_has x0 y2) = 0 then (10 - x2) else x2) (fun (v4 : Int32) => bd (α := Int32) (y1 * v4) (fun (v6 : Int32) => f6_weightOf_l5 x0 x1 x2 n5 v6 (y2 + 1)))
def f6_weightOf (x0 : Int32) (x1 : Int32) (x2 : Int32) : Option (Int32) := f6_weightOf_l5 x0 x1 x2 FU 1 0
abbrev rmX6_weightOf : Room := { frames := 1, cells := 0, slots := 0, locals := 21 }
set_option maxHeartbeats 4000000 in
set_option maxRecDepth 100000 in
theorem c6_weightOf (l : Launch) (g : zG)  (x0 : Int32) (x1 : Int32) (x2 : Int32) (ro : Int32) (hF : f6_weightOf x0 x1 x2 = some ro) : zRO l g yX6_weightOf wsX6_weightOf rmX6_weightOf [.int x0, .int x1, .int x2] [] (some (.int ro)) := by
  refine zRO_of (cc := cX6_weightOf) (maxL := 5) (ret := (some .int)) (by decide) rfl (Nat.le_of_ble_eq_true rfl) ?_
  intro p e s m args below meth c ls hx hb hr hml hts hown hlk hK hP hl
  have hown : s.vm.findClass RX6 = some m.cls := hown
  have hl : lv_has ls 5 [(0, .int x0), (1, .int x1), (2, .int x2)] := hl
  unfold f6_weightOf at hF
  refine lv_iconst (v := 1) hx hb dX6_weightOf_0 (by decide) ?_
  refine lv_istore_n (lv' := [(3, .int 1), (0, .int x0), (1, .int x1), (2, .int x2)]) hx hb dX6_weightOf_1 rfl hl (by decide) rfl (fun ls hl => ?_)
  refine lv_iconst (v := 0) hx hb dX6_weightOf_2 (by decide) ?_
  refine lv_istore (lv' := [(4, .int 0), (3, .int 1), (0, .int x0), (1, .int x1), (2, .int x2)]) hx hb dX6_weightOf_3 hl (by decide) rfl (fun ls hl => ?_)
  have L5 : ∀ (n5 : Nat) (y1 : Int32) (y2 : Int32) (ls : Array Slot), f6_weightOf_l5 x0 x1 x2 n5 y1 y2 = some ro → lv_has ls 5 [(0, .int x0), (1, .int x1), (2, .int x2), (3, .int y1), (4, .int y2)] → W p l e (headSpec wsX6_weightOf rmX6_weightOf).room s m args below meth c s.heap [] 0 0 (MQ below (zRQ (some (.int ro))) args s 0 0 (fun _ => False)) (F0 m 5 ls []) := by
    intro n5
    induction n5 with
    | zero =>
      intro y1 y2 ls hF hl
      exact absurd (show (none : Option (Int32)) = some _ from hF) (fun h9 => by cases h9)
    | succ n5 ih5 =>
      intro y1 y2 ls hF hl
      rw [f6_weightOf_l5] at hF
      refine lv_iload hx hb dX6_weightOf_5 (lv_at hl 4 rfl) ?_
      refine lv_iload_n hx hb dX6_weightOf_7 rfl (lv_at hl 1 rfl) ?_
      refine lv_icmp_ge (tgt := 37) hx hb dX6_weightOf_8 (by decide) (fun c3 => ?_) (fun c3 => ?_)
      · have hF := zit c3 hF
        refine lv_iload_n hx hb dX6_weightOf_37 rfl (lv_at hl 3 rfl) ?_
        cases hF
        exact z_ri hx hb hr hlk rfl dX6_weightOf_38
      · have hF := zif c3 hF
        refine lv_iload_n hx hb dX6_weightOf_11 rfl (lv_at hl 3 rfl) ?_
        refine lv_iload_n hx hb dX6_weightOf_12 rfl (lv_at hl 0 rfl) ?_
        refine lv_iload hx hb dX6_weightOf_13 (lv_at hl 4 rfl) ?_
        refine z_rgo (va_runS (As := [.int x0, .int y2]) (rest := [.int y1]) ⟨hx, hb, hml, hown, hts⟩ (c6_has l g   x0 y2) (va_cwS 2 hts gX6_weightOf_X6_has rfl rfl rfl (by decide +kernel) ⟨Nat.le_of_ble_eq_true rfl, Nat.le_of_ble_eq_true rfl⟩) (z_rpre hP hK) rfl rfl hl.1 rfl (lv_room (Nat.le_of_ble_eq_true rfl)) dX6_weightOf_15 ⟨Nat.zero_le _, Nat.zero_le _⟩) ?_
        obtain ⟨v4, hVv4⟩ : ∃ y : Int32, (if (f6_has x0 y2) = 0 then (10 - x2) else x2 : Int32) = y := ⟨_, rfl⟩
        have hF := bd_eq hVv4.symm hF
        have Jv4 : W p l e (headSpec wsX6_weightOf rmX6_weightOf).room s m args below meth c s.heap [] 0 0 (MQ below (zRQ (some (.int ro))) args s 0 0 (fun _ => False)) (F0 m 29 ls [.int v4, .int y1]) := by
          refine lv_imul hx hb dX6_weightOf_29 ?_
          refine lv_topi (fun v6 ev6 => ?_)
          have hF := bd_eq ev6 hF
          refine lv_istore_n (lv' := [(3, .int v6), (0, .int x0), (1, .int x1), (2, .int x2), (4, .int y2)]) hx hb dX6_weightOf_30 rfl hl (by decide) rfl (fun ls hl => ?_)
          refine lv_iinc (v := (y2 + 1)) (lv' := [(4, .int (y2 + 1)), (3, .int v6), (0, .int x0), (1, .int x1), (2, .int x2)]) hx hb dX6_weightOf_31 hl (k := 4) rfl rfl (by decide) rfl (fun ls hl => ?_)
          refine lv_goto (tgt := 5) hx hb dX6_weightOf_34 (by decide) ?_
          exact ih5 v6 (y2 + 1) ls hF (lv_sub hl [2, 3, 4, 1, 0] rfl)
        refine lv_if_eq (tgt := 25) hx hb dX6_weightOf_18 (by decide) (fun c5 => ?_) (fun c5 => ?_)
        · have hVv4 := zit c5 hVv4
          refine lv_bipush (v := 10) hx hb dX6_weightOf_25 (by decide) ?_
          refine lv_iload_n hx hb dX6_weightOf_27 rfl (lv_at hl 2 rfl) ?_
          refine lv_isub hx hb dX6_weightOf_28 ?_
          subst hVv4
          exact Jv4
        · have hVv4 := zif c5 hVv4
          refine lv_iload_n hx hb dX6_weightOf_21 rfl (lv_at hl 2 rfl) ?_
          refine lv_goto (tgt := 29) hx hb dX6_weightOf_22 (by decide) ?_
          subst hVv4
          exact Jv4
  exact L5 FU 1 0 ls hF (lv_sub hl [2, 3, 4, 1, 0] rfl)
def f6_isOutByTides_l14 (x1 : Int32) (x2 : Int32) (x3 : Int32) : Nat → Int32 → Cs → Option (Int32 × Cs)
  | 0, _, _ => none
  | n14 + 1, y3, C4 => if x2 ≤ y3 then some ((f6_has ((C4.1 1).1 5) x1), C4) else bd (α := Int32) (if (f6_has x3 y3) = 0 then (((C4.2.2.2.2.2.1).1).1 1) else (((C4.2.2.2.2.2.1).1).1 0)) (fun (v6 : Int32) => (f2_advanceBy (C4.1 1) ((C4.2.2.2.2.2.1).1) v6).bind fun M8 => bd (cM C4 1 M8) (fun (C9 : Cs) => f6_isOutByTides_l14 x1 x2 x3 n14 (y3 + 1) C9))
def f6_isOutByTides (C : Cs) (x1 : Int32) (x2 : Int32) (x3 : Int32) : Option (Int32 × Cs) := (f2_copy (C.1 1) (C.1 0)).bind fun M1 => bd (cM C 1 M1) (fun (C2 : Cs) => f6_isOutByTides_l14 x1 x2 x3 FU 0 C2)
abbrev rmX6_isOutByTides : Room := { frames := 4, cells := 0, slots := 0, locals := 97 }
set_option maxHeartbeats 4000000 in
set_option maxRecDepth 100000 in
theorem c6_isOutByTides (l : Launch) (g : zG) (q : Nat → Nat) (C : Cs) (x1 : Int32) (x2 : Int32) (x3 : Int32) (ro : Int32) (C_o : Cs) (hF : f6_isOutByTides C x1 x2 x3 = some (ro, C_o)) : zRW l g yX6_isOutByTides wsX6_isOutByTides rmX6_isOutByTides [.ref (q 0), .int x1, .int x2, .int x3] (CW g q C) (some (.int ro)) (CW g q C_o) := by
  refine zRW_of (cc := cX6_isOutByTides) (maxL := 5) (ret := (some .boolean)) (by decide) rfl (Nat.le_of_ble_eq_true rfl) ?_
  intro p e s m args below meth c A H locs ls hx hb hr hml hts hown hlk hK hA hP hD hS hl
  have hown : s.vm.findClass RX6 = some m.cls := hown
  have hl : lv_has ls 5 [(0, .ref (q 0)), (1, .int x1), (2, .int x2), (3, .int x3)] := hl
  have inX2 : ∀ w ∈ wsX20, w ∈ wsX6_isOutByTides := fun _ h => List.mem_cons_of_mem _ (List.mem_append_right _ h)
  have inX3 : ∀ w ∈ wsX30, w ∈ wsX6_isOutByTides := fun _ h => List.mem_cons_of_mem _ (List.mem_append_left _ (List.mem_append_right _ h))
  have inX6 : ∀ w ∈ wsX60, w ∈ wsX6_isOutByTides := fun _ h => List.mem_cons_of_mem _ (List.mem_append_left _ (List.mem_append_left _ (List.mem_append_right _ h)))
  unfold f6_isOutByTides at hF
  refine lv_aload_n hx hb dX6_isOutByTides_0 rfl (lv_at hl 0 rfl) ?_
  refine z_get (ci := 6) (v := .ref (q 28)) (C := RX6) (T := TX6) (N := 13) hx hb hts inX6 hown hK hP 0 rfl rfl 5 (by decide) (List.mem_of_getElem? (i := 1) rfl) rfl rfl dX6_isOutByTides_1 ?_
  refine lv_aload_n hx hb dX6_isOutByTides_4 rfl (lv_at hl 0 rfl) ?_
  refine z_get (ci := 6) (v := .ref (q 23)) (C := RX6) (T := TX6) (N := 13) hx hb hts inX6 hown hK hP 0 rfl rfl 4 (by decide) (List.mem_of_getElem? (i := 2) rfl) rfl rfl dX6_isOutByTides_5 ?_
  obtain ⟨M1, hM1, hF⟩ := zob hF
  refine z_wgo (wn := CW g q (cM C 1 M1)) (va_runV (As := [.ref (q 23)]) (rest := []) ⟨hx, hb, hml, hown, hts⟩ ((c2_copy l g q 28 q 23 (C.1 1) (C.1 0)   M1 hM1) H.size) (cwV 1 hts gX6_isOutByTides_X2_copy rfl rfl rfl (by decide +kernel) ⟨Nat.le_of_ble_eq_true rfl, Nat.le_of_ble_eq_true rfl⟩) (z_wpreV (ci := 2) (q := (RX2, TX2, 9)) (q0 := 0) (hP.sub (ws' := (OW g q 28 (C.1 1) ++ OW g q 23 (C.1 0))) [28, 29, 30, 31, 32, 23, 24, 25, 26, 27] rfl) hK (z_any (hD.sub (ws' := (OW g q 28 (C.1 1) ++ OW g q 23 (C.1 0))) [28, 29, 30, 31, 32, 23, 24, 25, 26, 27] (by decide) rfl)) rfl rfl) rfl rfl hl.1 rfl (lv_room (Nat.le_of_ble_eq_true rfl)) dX6_isOutByTides_8 ⟨Nat.zero_le _, Nat.zero_le _⟩) hP hD hS hA [28, 29, 30, 31, 32, 23, 24, 25, 26, 27] rfl (by decide) rfl rfl (fun H locs hP hD hS => ?_)
  show W p l e (headSpec wsX6_isOutByTides rmX6_isOutByTides).room s m args below meth c H locs 0 0 (MQ below (zWQ g A (CW g q C_o) (some (.int ro))) args s 0 0 A) (F0 m 11 ls [])
  obtain ⟨C2, eC2⟩ : ∃ y : Cs, y = (cM C 1 M1) := ⟨_, rfl⟩
  rw [← eC2] at hP hD
  have hF := bd_eq eC2 hF
  refine lv_iconst (v := 0) hx hb dX6_isOutByTides_11 (by decide) ?_
  refine lv_istore (lv' := [(4, .int 0), (0, .ref (q 0)), (1, .int x1), (2, .int x2), (3, .int x3)]) hx hb dX6_isOutByTides_12 hl (by decide) rfl (fun ls hl => ?_)
  have L14 : ∀ (n14 : Nat) (y3 : Int32) (C4 : Cs) (H : Heap) (locs : List Loc) (ls : Array Slot), f6_isOutByTides_l14 x1 x2 x3 n14 y3 C4 = some (ro, C_o) → va_P (zD g) vwCl (CW g q C4) H → va_D A (CW g q C4) → va_S A s.heap H locs → lv_has ls 5 [(0, .ref (q 0)), (1, .int x1), (2, .int x2), (3, .int x3), (4, .int y3)] → W p l e (headSpec wsX6_isOutByTides rmX6_isOutByTides).room s m args below meth c H locs 0 0 (MQ below (zWQ g A (CW g q C_o) (some (.int ro))) args s 0 0 A) (F0 m 14 ls []) := by
    intro n14
    induction n14 with
    | zero =>
      intro y3 C4 H locs ls hF hP hD hS hl
      exact absurd (show (none : Option (Int32 × Cs)) = some _ from hF) (fun h9 => by cases h9)
    | succ n14 ih14 =>
      intro y3 C4 H locs ls hF hP hD hS hl
      rw [f6_isOutByTides_l14] at hF
      refine lv_iload hx hb dX6_isOutByTides_14 (lv_at hl 4 rfl) ?_
      refine lv_iload_n hx hb dX6_isOutByTides_16 rfl (lv_at hl 2 rfl) ?_
      refine lv_icmp_ge (tgt := 63) hx hb dX6_isOutByTides_17 (by decide) (fun c5 => ?_) (fun c5 => ?_)
      · have hF := zit c5 hF
        refine lv_aload_n hx hb dX6_isOutByTides_63 rfl (lv_at hl 0 rfl) ?_
        refine z_get (ci := 6) (v := .ref (q 28)) (C := RX6) (T := TX6) (N := 13) hx hb hts inX6 hown hK hP 0 rfl rfl 5 (by decide) (List.mem_of_getElem? (i := 1) rfl) rfl rfl dX6_isOutByTides_64 ?_
        refine z_get (ci := 2) (v := .int ((C4.1 1).1 5)) (C := RX2) (T := TX2) (N := 9) hx hb hts inX2 hown hK hP 28 rfl rfl 5 (by decide) (List.mem_of_getElem? (i := 6) rfl) rfl rfl dX6_isOutByTides_67 ?_
        refine lv_iload_n hx hb dX6_isOutByTides_70 rfl (lv_at hl 1 rfl) ?_
        refine z_rgo (va_runS (As := [.int ((C4.1 1).1 5), .int x1]) (rest := []) ⟨hx, hb, hml, hown, hts⟩ (c6_has l g   ((C4.1 1).1 5) x1) (va_cwS 2 hts gX6_isOutByTides_X6_has rfl rfl rfl (by decide +kernel) ⟨Nat.le_of_ble_eq_true rfl, Nat.le_of_ble_eq_true rfl⟩) (z_rpre z_nil hK) rfl rfl hl.1 rfl (lv_room (Nat.le_of_ble_eq_true rfl)) dX6_isOutByTides_71 ⟨Nat.zero_le _, Nat.zero_le _⟩) ?_
        cases hF
        exact z_wz hx hb hr hlk (b6_has ((C4.1 1).1 5) x1) hP hD hS rfl rfl dX6_isOutByTides_74
      · have hF := zif c5 hF
        refine lv_aload_n hx hb dX6_isOutByTides_20 rfl (lv_at hl 0 rfl) ?_
        refine z_get (ci := 6) (v := .ref (q 28)) (C := RX6) (T := TX6) (N := 13) hx hb hts inX6 hown hK hP 0 rfl rfl 5 (by decide) (List.mem_of_getElem? (i := 1) rfl) rfl rfl dX6_isOutByTides_21 ?_
        refine lv_iload_n hx hb dX6_isOutByTides_24 rfl (lv_at hl 3 rfl) ?_
        refine lv_iload hx hb dX6_isOutByTides_25 (lv_at hl 4 rfl) ?_
        refine z_rgo (va_runS (As := [.int x3, .int y3]) (rest := [.ref (q 28)]) ⟨hx, hb, hml, hown, hts⟩ (c6_has l g   x3 y3) (va_cwS 2 hts gX6_isOutByTides_X6_has rfl rfl rfl (by decide +kernel) ⟨Nat.le_of_ble_eq_true rfl, Nat.le_of_ble_eq_true rfl⟩) (z_rpre z_nil hK) rfl rfl hl.1 rfl (lv_room (Nat.le_of_ble_eq_true rfl)) dX6_isOutByTides_27 ⟨Nat.zero_le _, Nat.zero_le _⟩) ?_
        obtain ⟨v6, hVv6⟩ : ∃ y : Int32, (if (f6_has x3 y3) = 0 then (((C4.2.2.2.2.2.1).1).1 1) else (((C4.2.2.2.2.2.1).1).1 0) : Int32) = y := ⟨_, rfl⟩
        have hF := bd_eq hVv6.symm hF
        have Jv6 : W p l e (headSpec wsX6_isOutByTides rmX6_isOutByTides).room s m args below meth c H locs 0 0 (MQ below (zWQ g A (CW g q C_o) (some (.int ro))) args s 0 0 A) (F0 m 50 ls [.int v6, .ref (q 28)]) := by
          refine lv_aload_n hx hb dX6_isOutByTides_50 rfl (lv_at hl 0 rfl) ?_
          refine z_get (ci := 6) (v := .ref (q (13 + 2))) (C := RX6) (T := TX6) (N := 13) hx hb hts inX6 hown hK hP 0 rfl rfl 3 (by decide) (List.mem_of_getElem? (i := 3) rfl) rfl rfl dX6_isOutByTides_51 ?_
          obtain ⟨M8, hM8, hF⟩ := zob hF
          refine z_wgo (wn := CW g q (cM C4 1 M8)) (va_runV (As := [.int v6, .ref (q (13 + 2))]) (rest := []) ⟨hx, hb, hml, hown, hts⟩ ((c2_advanceBy l g q 28 q (13 + 2) (C4.1 1) ((C4.2.2.2.2.2.1).1) v6  M8 hM8) H.size) (cwV 2 hts gX6_isOutByTides_X2_advanceBy rfl rfl rfl (by decide +kernel) ⟨Nat.le_of_ble_eq_true rfl, Nat.le_of_ble_eq_true rfl⟩) (z_wpreV (ci := 2) (q := (RX2, TX2, 9)) (q0 := 0) (hP.sub (ws' := (OW g q 28 (C4.1 1) ++ NW g q (13 + 2) ((C4.2.2.2.2.2.1).1))) [28, 29, 30, 31, 32, 15, 16, 17, 18, 19, 20, 21, 22] rfl) hK (z_any (hD.sub (ws' := (OW g q 28 (C4.1 1) ++ NW g q (13 + 2) ((C4.2.2.2.2.2.1).1))) [28, 29, 30, 31, 32, 15, 16, 17, 18, 19, 20, 21, 22] (by decide) rfl)) rfl rfl) rfl rfl hl.1 rfl (lv_room (Nat.le_of_ble_eq_true rfl)) dX6_isOutByTides_54 ⟨Nat.zero_le _, Nat.zero_le _⟩) hP hD hS hA [28, 29, 30, 31, 32, 15, 16, 17, 18, 19, 20, 21, 22] rfl (by decide) rfl rfl (fun H locs hP hD hS => ?_)
          show W p l e (headSpec wsX6_isOutByTides rmX6_isOutByTides).room s m args below meth c H locs 0 0 (MQ below (zWQ g A (CW g q C_o) (some (.int ro))) args s 0 0 A) (F0 m 57 ls [])
          obtain ⟨C9, eC9⟩ : ∃ y : Cs, y = (cM C4 1 M8) := ⟨_, rfl⟩
          rw [← eC9] at hP hD
          have hF := bd_eq eC9 hF
          refine lv_iinc (v := (y3 + 1)) (lv' := [(4, .int (y3 + 1)), (0, .ref (q 0)), (1, .int x1), (2, .int x2), (3, .int x3)]) hx hb dX6_isOutByTides_57 hl (k := 4) rfl rfl (by decide) rfl (fun ls hl => ?_)
          refine lv_goto (tgt := 14) hx hb dX6_isOutByTides_60 (by decide) ?_
          exact ih14 (y3 + 1) C9 H locs ls hF hP hD hS (lv_sub hl [1, 2, 3, 4, 0] rfl)
        refine lv_if_eq (tgt := 43) hx hb dX6_isOutByTides_30 (by decide) (fun c7 => ?_) (fun c7 => ?_)
        · have hVv6 := zit c7 hVv6
          refine lv_aload_n hx hb dX6_isOutByTides_43 rfl (lv_at hl 0 rfl) ?_
          refine z_get (ci := 6) (v := .ref (q (13 + 2))) (C := RX6) (T := TX6) (N := 13) hx hb hts inX6 hown hK hP 0 rfl rfl 3 (by decide) (List.mem_of_getElem? (i := 3) rfl) rfl rfl dX6_isOutByTides_44 ?_
          refine z_get (ci := 3) (v := .int (((C4.2.2.2.2.2.1).1).1 1)) (C := RX3) (T := TX3) (N := 13) hx hb hts inX3 hown hK hP 15 rfl rfl 1 (by decide) (List.mem_of_getElem? (i := 5) rfl) rfl rfl dX6_isOutByTides_47 ?_
          subst hVv6
          exact Jv6
        · have hVv6 := zif c7 hVv6
          refine lv_aload_n hx hb dX6_isOutByTides_33 rfl (lv_at hl 0 rfl) ?_
          refine z_get (ci := 6) (v := .ref (q (13 + 2))) (C := RX6) (T := TX6) (N := 13) hx hb hts inX6 hown hK hP 0 rfl rfl 3 (by decide) (List.mem_of_getElem? (i := 3) rfl) rfl rfl dX6_isOutByTides_34 ?_
          refine z_get (ci := 3) (v := .int (((C4.2.2.2.2.2.1).1).1 0)) (C := RX3) (T := TX3) (N := 13) hx hb hts inX3 hown hK hP 15 rfl rfl 0 (by decide) (List.mem_of_getElem? (i := 4) rfl) rfl rfl dX6_isOutByTides_37 ?_
          refine lv_goto (tgt := 50) hx hb dX6_isOutByTides_40 (by decide) ?_
          subst hVv6
          exact Jv6
  exact L14 FU 0 C2 H locs ls hF hP hD hS (lv_sub hl [1, 2, 3, 4, 0] rfl)
def f6_fraction (x0 : Int32) (x1 : Int32) (x2 : Int32) : Option (Int32) := (f6_commonDivisor (if 0 ≤ x0 then x0 else 0 - x0) x1).bind fun v1 => if v1 = 0 then some (-9) else if x2 = 0 then (zdv x1 v1).bind fun v4 => some v4 else (zdv x0 v1).bind fun v5 => some v5
abbrev rmX6_fraction : Room := { frames := 1, cells := 0, slots := 0, locals := 25 }
set_option maxHeartbeats 4000000 in
set_option maxRecDepth 100000 in
theorem c6_fraction (l : Launch) (g : zG)  (x0 : Int32) (x1 : Int32) (x2 : Int32) (ro : Int32) (hF : f6_fraction x0 x1 x2 = some ro) : zRO l g yX6_fraction wsX6_fraction rmX6_fraction [.int x0, .int x1, .int x2] [] (some (.int ro)) := by
  refine zRO_of (cc := cX6_fraction) (maxL := 4) (ret := (some .int)) (by decide) rfl (Nat.le_of_ble_eq_true rfl) ?_
  intro p e s m args below meth c ls hx hb hr hml hts hown hlk hK hP hl
  have hown : s.vm.findClass RX6 = some m.cls := hown
  have hl : lv_has ls 4 [(0, .int x0), (1, .int x1), (2, .int x2)] := hl
  unfold f6_fraction at hF
  refine lv_iload_n hx hb dX6_fraction_0 rfl (lv_at hl 0 rfl) ?_
  refine va_mabs hx hb (hml.trans hl.1.symm) hown (hts (.methodLink RX6 329 Lib.Math.abs.name) (List.mem_of_getElem? (i := 1) rfl)) (hts (.static Lib.Math.abs.name) (List.mem_of_getElem? (i := 2) rfl)) (hts (.initialized "java/lang/Math") (List.mem_of_getElem? (i := 3) rfl)) (hts (.code Lib.Math.abs.name Lib.Math.abs.code 1 (some .int)) (List.mem_of_getElem? (i := 4) rfl)) (Nat.le_of_ble_eq_true rfl) (Nat.le_of_ble_eq_true rfl) (Nat.zero_le _) (Nat.zero_le _) dX6_fraction_1 ?_
  refine lv_iload_n hx hb dX6_fraction_4 rfl (lv_at hl 1 rfl) ?_
  obtain ⟨v1, hv1, hF⟩ := zob hF
  refine z_rgo (va_runS (As := [.int (if 0 ≤ x0 then x0 else 0 - x0), .int x1]) (rest := []) ⟨hx, hb, hml, hown, hts⟩ (c6_commonDivisor l g   (if 0 ≤ x0 then x0 else 0 - x0) x1 v1 hv1) (va_cwS 2 hts gX6_fraction_X6_commonDivisor rfl rfl rfl (by decide +kernel) ⟨Nat.le_of_ble_eq_true rfl, Nat.le_of_ble_eq_true rfl⟩) (z_rpre hP hK) rfl rfl hl.1 rfl (lv_room (Nat.le_of_ble_eq_true rfl)) dX6_fraction_5 ⟨Nat.zero_le _, Nat.zero_le _⟩) ?_
  refine lv_istore_n (lv' := [(3, .int v1), (0, .int x0), (1, .int x1), (2, .int x2)]) hx hb dX6_fraction_8 rfl hl (by decide) rfl (fun ls hl => ?_)
  refine lv_iload_n hx hb dX6_fraction_9 rfl (lv_at hl 0 rfl) ?_
  refine lv_if_ne (tgt := 16) hx hb dX6_fraction_10 (by decide) (fun c2 => ?_) (fun c2 => ?_)
  · have hF := zif c2 hF
    refine lv_iload_n hx hb dX6_fraction_16 rfl (lv_at hl 3 rfl) ?_
    refine lv_if_eq (tgt := 26) hx hb dX6_fraction_17 (by decide) (fun c3 => ?_) (fun c3 => ?_)
    · have hF := zit c3 hF
      refine lv_iload_n hx hb dX6_fraction_26 rfl (lv_at hl 2 rfl) ?_
      refine lv_iload_n hx hb dX6_fraction_27 rfl (lv_at hl 0 rfl) ?_
      obtain ⟨v4, hv4, hF⟩ := zob hF
      refine z_idiv hx hb dX6_fraction_28 hv4 ?_
      cases hF
      exact z_ri hx hb hr hlk rfl dX6_fraction_29
    · have hF := zif c3 hF
      refine lv_iload_n hx hb dX6_fraction_20 rfl (lv_at hl 1 rfl) ?_
      refine lv_iload_n hx hb dX6_fraction_21 rfl (lv_at hl 0 rfl) ?_
      obtain ⟨v5, hv5, hF⟩ := zob hF
      refine z_idiv hx hb dX6_fraction_22 hv5 ?_
      refine lv_goto (tgt := 29) hx hb dX6_fraction_23 (by decide) ?_
      cases hF
      exact z_ri hx hb hr hlk rfl dX6_fraction_29
  · have hF := zit c2 hF
    refine lv_bipush (v := (-9)) hx hb dX6_fraction_13 (by decide) ?_
    cases hF
    exact z_ri hx hb hr hlk rfl dX6_fraction_15
def f6_flood_l65 (x1 : Int32) (x2 : Int32) (x3 : Int32) (x4 : Int32) (y6 : Int32) : Nat → Int32 → Int32 → Cs → Option (Int32 × Cs)
  | 0, _, _, _ => none
  | n65 + 1, y10, y11, C12 => if ((1 : Int32) <<< (x2 &&& 31)) ≤ y11 then (f6_fraction y10 y6 x4).bind fun v14 => some (v14, C12) else (f6_weightOf y11 x2 x3).bind fun v15 => if v15 ≤ 0 then f6_flood_l65 x1 x2 x3 x4 y6 n65 y10 (y11 + 1) C12 else (f6_isOutByTides C12 x1 x2 y11).bind fun (v18, C17) => if v18 = 0 then f6_flood_l65 x1 x2 x3 x4 y6 n65 y10 (y11 + 1) C17 else bd (α := Int32) (y10 + v15) (fun (v20 : Int32) => f6_flood_l65 x1 x2 x3 x4 y6 n65 v20 (y11 + 1) C17)
def f6_flood_l43 (x1 : Int32) (x2 : Int32) (x3 : Int32) (x4 : Int32) : Nat → Int32 → Int32 → Cs → Option (Int32 × Cs)
  | 0, _, _, _ => none
  | n43 + 1, y6, y7, C8 => if x2 ≤ y7 then f6_flood_l65 x1 x2 x3 x4 y6 FU 0 0 C8 else bd (α := Int32) (y6 * 10) (fun (v21 : Int32) => f6_flood_l43 x1 x2 x3 x4 n43 v21 (y7 + 1) C8)
def f6_flood (C : Cs) (x1 : Int32) (x2 : Int32) (x3 : Int32) (x4 : Int32) : Option (Int32 × Cs) := if (f6_isNoWalker C x1) = 0 then if x2 < 1 then some ((-2), C) else if 6 < x2 then some ((-2), C) else if x3 < 0 then some ((-2), C) else if x3 ≤ 10 then f6_flood_l43 x1 x2 x3 x4 FU 1 0 C else some ((-2), C) else some ((-1), C)
abbrev rmX6_flood : Room := { frames := 5, cells := 0, slots := 0, locals := 121 }
set_option maxHeartbeats 4000000 in
set_option maxRecDepth 100000 in
theorem c6_flood (l : Launch) (g : zG) (q : Nat → Nat) (C : Cs) (x1 : Int32) (x2 : Int32) (x3 : Int32) (x4 : Int32) (ro : Int32) (C_o : Cs) (hF : f6_flood C x1 x2 x3 x4 = some (ro, C_o)) : zRW l g yX6_flood wsX6_flood rmX6_flood [.ref (q 0), .int x1, .int x2, .int x3, .int x4] (CW g q C) (some (.int ro)) (CW g q C_o) := by
  refine zRW_of (cc := cX6_flood) (maxL := 9) (ret := (some .int)) (by decide) rfl (Nat.le_of_ble_eq_true rfl) ?_
  intro p e s m args below meth c A H locs ls hx hb hr hml hts hown hlk hK hA hP hD hS hl
  have hown : s.vm.findClass RX6 = some m.cls := hown
  have hl : lv_has ls 9 [(0, .ref (q 0)), (1, .int x1), (2, .int x2), (3, .int x3), (4, .int x4)] := hl
  unfold f6_flood at hF
  refine lv_aload_n hx hb dX6_flood_0 rfl (lv_at hl 0 rfl) ?_
  refine lv_iload_n hx hb dX6_flood_1 rfl (lv_at hl 1 rfl) ?_
  refine z_rgo (va_runV (As := [.int x1]) (rest := []) ⟨hx, hb, hml, hown, hts⟩ (c6_isNoWalker l g q C x1) (cwV 1 hts gX6_flood_X6_isNoWalker rfl rfl rfl (by decide +kernel) ⟨Nat.le_of_ble_eq_true rfl, Nat.le_of_ble_eq_true rfl⟩) (z_rpreV (ci := 6) (q := (RX6, TX6, 13)) (q0 := 0) hP hK rfl rfl) rfl rfl hl.1 rfl (lv_room (Nat.le_of_ble_eq_true rfl)) dX6_flood_2 ⟨Nat.zero_le _, Nat.zero_le _⟩) ?_
  refine lv_if_eq (tgt := 10) hx hb dX6_flood_5 (by decide) (fun c1 => ?_) (fun c1 => ?_)
  · have hF := zit c1 hF
    refine lv_iload_n hx hb dX6_flood_10 rfl (lv_at hl 2 rfl) ?_
    refine lv_iconst (v := 1) hx hb dX6_flood_11 (by decide) ?_
    refine lv_icmp_lt (tgt := 31) hx hb dX6_flood_12 (by decide) (fun c2 => ?_) (fun c2 => ?_)
    · have hF := zit c2 hF
      refine lv_bipush (v := (-2)) hx hb dX6_flood_31 (by decide) ?_
      cases hF
      exact z_wi hx hb hr hlk hP hD hS rfl rfl dX6_flood_33
    · have hF := zif c2 hF
      refine lv_iload_n hx hb dX6_flood_15 rfl (lv_at hl 2 rfl) ?_
      refine lv_bipush (v := 6) hx hb dX6_flood_16 (by decide) ?_
      refine lv_icmp_gt (tgt := 31) hx hb dX6_flood_18 (by decide) (fun c3 => ?_) (fun c3 => ?_)
      · have hF := zit c3 hF
        refine lv_bipush (v := (-2)) hx hb dX6_flood_31 (by decide) ?_
        cases hF
        exact z_wi hx hb hr hlk hP hD hS rfl rfl dX6_flood_33
      · have hF := zif c3 hF
        refine lv_iload_n hx hb dX6_flood_21 rfl (lv_at hl 3 rfl) ?_
        refine lv_if_lt (tgt := 31) hx hb dX6_flood_22 (by decide) (fun c4 => ?_) (fun c4 => ?_)
        · have hF := zit c4 hF
          refine lv_bipush (v := (-2)) hx hb dX6_flood_31 (by decide) ?_
          cases hF
          exact z_wi hx hb hr hlk hP hD hS rfl rfl dX6_flood_33
        · have hF := zif c4 hF
          refine lv_iload_n hx hb dX6_flood_25 rfl (lv_at hl 3 rfl) ?_
          refine lv_bipush (v := 10) hx hb dX6_flood_26 (by decide) ?_
          refine lv_icmp_le (tgt := 34) hx hb dX6_flood_28 (by decide) (fun c5 => ?_) (fun c5 => ?_)
          · have hF := zit c5 hF
            refine lv_iconst (v := 0) hx hb dX6_flood_34 (by decide) ?_
            refine lv_istore (lv' := [(5, .int 0), (0, .ref (q 0)), (1, .int x1), (2, .int x2), (3, .int x3), (4, .int x4)]) hx hb dX6_flood_35 hl (by decide) rfl (fun ls hl => ?_)
            refine lv_iconst (v := 1) hx hb dX6_flood_37 (by decide) ?_
            refine lv_istore (lv' := [(6, .int 1), (5, .int 0), (0, .ref (q 0)), (1, .int x1), (2, .int x2), (3, .int x3), (4, .int x4)]) hx hb dX6_flood_38 hl (by decide) rfl (fun ls hl => ?_)
            refine lv_iconst (v := 0) hx hb dX6_flood_40 (by decide) ?_
            refine lv_istore (lv' := [(7, .int 0), (6, .int 1), (5, .int 0), (0, .ref (q 0)), (1, .int x1), (2, .int x2), (3, .int x3), (4, .int x4)]) hx hb dX6_flood_41 hl (by decide) rfl (fun ls hl => ?_)
            have L43 : ∀ (n43 : Nat) (y6 : Int32) (y7 : Int32) (C8 : Cs) (H : Heap) (locs : List Loc) (ls : Array Slot), f6_flood_l43 x1 x2 x3 x4 n43 y6 y7 C8 = some (ro, C_o) → va_P (zD g) vwCl (CW g q C8) H → va_D A (CW g q C8) → va_S A s.heap H locs → lv_has ls 9 [(0, .ref (q 0)), (1, .int x1), (2, .int x2), (3, .int x3), (4, .int x4), (5, .int 0), (6, .int y6), (7, .int y7)] → W p l e (headSpec wsX6_flood rmX6_flood).room s m args below meth c H locs 0 0 (MQ below (zWQ g A (CW g q C_o) (some (.int ro))) args s 0 0 A) (F0 m 43 ls []) := by
              intro n43
              induction n43 with
              | zero =>
                intro y6 y7 C8 H locs ls hF hP hD hS hl
                exact absurd (show (none : Option (Int32 × Cs)) = some _ from hF) (fun h9 => by cases h9)
              | succ n43 ih43 =>
                intro y6 y7 C8 H locs ls hF hP hD hS hl
                rw [f6_flood_l43] at hF
                refine lv_iload hx hb dX6_flood_43 (lv_at hl 7 rfl) ?_
                refine lv_iload_n hx hb dX6_flood_45 rfl (lv_at hl 2 rfl) ?_
                refine lv_icmp_ge (tgt := 62) hx hb dX6_flood_46 (by decide) (fun c9 => ?_) (fun c9 => ?_)
                · have hF := zit c9 hF
                  refine lv_iconst (v := 0) hx hb dX6_flood_62 (by decide) ?_
                  refine lv_istore (lv' := [(7, .int 0), (0, .ref (q 0)), (1, .int x1), (2, .int x2), (3, .int x3), (4, .int x4), (5, .int 0), (6, .int y6)]) hx hb dX6_flood_63 hl (by decide) rfl (fun ls hl => ?_)
                  have L65 : ∀ (n65 : Nat) (y10 : Int32) (y11 : Int32) (C12 : Cs) (H : Heap) (locs : List Loc) (ls : Array Slot), f6_flood_l65 x1 x2 x3 x4 y6 n65 y10 y11 C12 = some (ro, C_o) → va_P (zD g) vwCl (CW g q C12) H → va_D A (CW g q C12) → va_S A s.heap H locs → lv_has ls 9 [(0, .ref (q 0)), (1, .int x1), (2, .int x2), (3, .int x3), (4, .int x4), (5, .int y10), (6, .int y6), (7, .int y11)] → W p l e (headSpec wsX6_flood rmX6_flood).room s m args below meth c H locs 0 0 (MQ below (zWQ g A (CW g q C_o) (some (.int ro))) args s 0 0 A) (F0 m 65 ls []) := by
                    intro n65
                    induction n65 with
                    | zero =>
                      intro y10 y11 C12 H locs ls hF hP hD hS hl
                      exact absurd (show (none : Option (Int32 × Cs)) = some _ from hF) (fun h9 => by cases h9)
                    | succ n65 ih65 =>
                      intro y10 y11 C12 H locs ls hF hP hD hS hl
                      rw [f6_flood_l65] at hF
                      refine lv_iload hx hb dX6_flood_65 (lv_at hl 7 rfl) ?_
                      refine lv_iconst (v := 1) hx hb dX6_flood_67 (by decide) ?_
                      refine lv_iload_n hx hb dX6_flood_68 rfl (lv_at hl 2 rfl) ?_
                      refine lv_ishl hx hb dX6_flood_69 ?_
                      refine lv_icmp_ge (tgt := 111) hx hb dX6_flood_70 (by decide) (fun c13 => ?_) (fun c13 => ?_)
                      · have hF := zit c13 hF
                        refine lv_iload hx hb dX6_flood_111 (lv_at hl 5 rfl) ?_
                        refine lv_iload hx hb dX6_flood_113 (lv_at hl 6 rfl) ?_
                        refine lv_iload hx hb dX6_flood_115 (lv_at hl 4 rfl) ?_
                        obtain ⟨v14, hv14, hF⟩ := zob hF
                        refine z_rgo (va_runS (As := [.int y10, .int y6, .int x4]) (rest := []) ⟨hx, hb, hml, hown, hts⟩ (c6_fraction l g   y10 y6 x4 v14 hv14) (va_cwS 3 hts gX6_flood_X6_fraction rfl rfl rfl (by decide +kernel) ⟨Nat.le_of_ble_eq_true rfl, Nat.le_of_ble_eq_true rfl⟩) (z_rpre z_nil hK) rfl rfl hl.1 rfl (lv_room (Nat.le_of_ble_eq_true rfl)) dX6_flood_117 ⟨Nat.zero_le _, Nat.zero_le _⟩) ?_
                        cases hF
                        exact z_wi hx hb hr hlk hP hD hS rfl rfl dX6_flood_120
                      · have hF := zif c13 hF
                        refine lv_iload hx hb dX6_flood_73 (lv_at hl 7 rfl) ?_
                        refine lv_iload_n hx hb dX6_flood_75 rfl (lv_at hl 2 rfl) ?_
                        refine lv_iload_n hx hb dX6_flood_76 rfl (lv_at hl 3 rfl) ?_
                        obtain ⟨v15, hv15, hF⟩ := zob hF
                        refine z_rgo (va_runS (As := [.int y11, .int x2, .int x3]) (rest := []) ⟨hx, hb, hml, hown, hts⟩ (c6_weightOf l g   y11 x2 x3 v15 hv15) (va_cwS 3 hts gX6_flood_X6_weightOf rfl rfl rfl (by decide +kernel) ⟨Nat.le_of_ble_eq_true rfl, Nat.le_of_ble_eq_true rfl⟩) (z_rpre z_nil hK) rfl rfl hl.1 rfl (lv_room (Nat.le_of_ble_eq_true rfl)) dX6_flood_77 ⟨Nat.zero_le _, Nat.zero_le _⟩) ?_
                        refine lv_istore (lv' := [(8, .int v15), (0, .ref (q 0)), (1, .int x1), (2, .int x2), (3, .int x3), (4, .int x4), (5, .int y10), (6, .int y6), (7, .int y11)]) hx hb dX6_flood_80 hl (by decide) rfl (fun ls hl => ?_)
                        refine lv_iload hx hb dX6_flood_82 (lv_at hl 0 rfl) ?_
                        refine lv_if_le (tgt := 105) hx hb dX6_flood_84 (by decide) (fun c16 => ?_) (fun c16 => ?_)
                        · have hF := zit c16 hF
                          refine lv_iinc (v := (y11 + 1)) (lv' := [(7, .int (y11 + 1)), (8, .int v15), (0, .ref (q 0)), (1, .int x1), (2, .int x2), (3, .int x3), (4, .int x4), (5, .int y10), (6, .int y6)]) hx hb dX6_flood_105 hl (k := 8) rfl rfl (by decide) rfl (fun ls hl => ?_)
                          refine lv_goto (tgt := 65) hx hb dX6_flood_108 (by decide) ?_
                          exact ih65 y10 (y11 + 1) C12 H locs ls hF hP hD hS (lv_sub hl [2, 3, 4, 5, 6, 7, 8, 0] rfl)
                        · have hF := zif c16 hF
                          refine lv_aload_n hx hb dX6_flood_87 rfl (lv_at hl 1 rfl) ?_
                          refine lv_iload_n hx hb dX6_flood_88 rfl (lv_at hl 2 rfl) ?_
                          refine lv_iload_n hx hb dX6_flood_89 rfl (lv_at hl 3 rfl) ?_
                          refine lv_iload hx hb dX6_flood_90 (lv_at hl 8 rfl) ?_
                          obtain ⟨⟨v18, C17⟩, hC17, hF⟩ := zob hF
                          refine z_wgoW (va_runV (As := [.int x1, .int x2, .int y11]) (rest := []) ⟨hx, hb, hml, hown, hts⟩ ((c6_isOutByTides l g q C12 x1 x2 y11 v18  C17 hC17) H.size) (cwV 3 hts gX6_flood_X6_isOutByTides rfl rfl rfl (by decide +kernel) ⟨Nat.le_of_ble_eq_true rfl, Nat.le_of_ble_eq_true rfl⟩) (z_wpreV (ci := 6) (q := (RX6, TX6, 13)) (q0 := 0) hP hK (z_any hD) rfl rfl) rfl rfl hl.1 rfl (lv_room (Nat.le_of_ble_eq_true rfl)) dX6_flood_92 ⟨Nat.zero_le _, Nat.zero_le _⟩) hP hD hS hA (fun H locs hP hD hS => ?_)
                          show W p l e (headSpec wsX6_flood rmX6_flood).room s m args below meth c H locs 0 0 (MQ below (zWQ g A (CW g q C_o) (some (.int ro))) args s 0 0 A) (F0 m 95 ls [.int v18])
                          refine lv_if_eq (tgt := 105) hx hb dX6_flood_95 (by decide) (fun c19 => ?_) (fun c19 => ?_)
                          · have hF := zit c19 hF
                            refine lv_iinc (v := (y11 + 1)) (lv' := [(7, .int (y11 + 1)), (8, .int v15), (0, .ref (q 0)), (1, .int x1), (2, .int x2), (3, .int x3), (4, .int x4), (5, .int y10), (6, .int y6)]) hx hb dX6_flood_105 hl (k := 8) rfl rfl (by decide) rfl (fun ls hl => ?_)
                            refine lv_goto (tgt := 65) hx hb dX6_flood_108 (by decide) ?_
                            exact ih65 y10 (y11 + 1) C17 H locs ls hF hP hD hS (lv_sub hl [2, 3, 4, 5, 6, 7, 8, 0] rfl)
                          · have hF := zif c19 hF
                            refine lv_iload hx hb dX6_flood_98 (lv_at hl 6 rfl) ?_
                            refine lv_iload hx hb dX6_flood_100 (lv_at hl 0 rfl) ?_
                            refine lv_iadd hx hb dX6_flood_102 ?_
                            refine lv_topi (fun v20 ev20 => ?_)
                            have hF := bd_eq ev20 hF
                            refine lv_istore (lv' := [(5, .int v20), (8, .int v15), (0, .ref (q 0)), (1, .int x1), (2, .int x2), (3, .int x3), (4, .int x4), (6, .int y6), (7, .int y11)]) hx hb dX6_flood_103 hl (by decide) rfl (fun ls hl => ?_)
                            refine lv_iinc (v := (y11 + 1)) (lv' := [(7, .int (y11 + 1)), (5, .int v20), (8, .int v15), (0, .ref (q 0)), (1, .int x1), (2, .int x2), (3, .int x3), (4, .int x4), (6, .int y6)]) hx hb dX6_flood_105 hl (k := 8) rfl rfl (by decide) rfl (fun ls hl => ?_)
                            refine lv_goto (tgt := 65) hx hb dX6_flood_108 (by decide) ?_
                            exact ih65 v20 (y11 + 1) C17 H locs ls hF hP hD hS (lv_sub hl [3, 4, 5, 6, 7, 1, 8, 0] rfl)
                  exact L65 FU 0 0 C8 H locs ls hF hP hD hS (lv_sub hl [1, 2, 3, 4, 5, 6, 7, 0] rfl)
                · have hF := zif c9 hF
                  refine lv_iload hx hb dX6_flood_49 (lv_at hl 6 rfl) ?_
                  refine lv_bipush (v := 10) hx hb dX6_flood_51 (by decide) ?_
                  refine lv_imul hx hb dX6_flood_53 ?_
                  refine lv_topi (fun v21 ev21 => ?_)
                  have hF := bd_eq ev21 hF
                  refine lv_istore (lv' := [(6, .int v21), (0, .ref (q 0)), (1, .int x1), (2, .int x2), (3, .int x3), (4, .int x4), (5, .int 0), (7, .int y7)]) hx hb dX6_flood_54 hl (by decide) rfl (fun ls hl => ?_)
                  refine lv_iinc (v := (y7 + 1)) (lv' := [(7, .int (y7 + 1)), (6, .int v21), (0, .ref (q 0)), (1, .int x1), (2, .int x2), (3, .int x3), (4, .int x4), (5, .int 0)]) hx hb dX6_flood_56 hl (k := 7) rfl rfl (by decide) rfl (fun ls hl => ?_)
                  refine lv_goto (tgt := 43) hx hb dX6_flood_59 (by decide) ?_
                  exact ih43 v21 (y7 + 1) C8 H locs ls hF hP hD hS (lv_sub hl [2, 3, 4, 5, 6, 7, 1, 0] rfl)
            exact L43 FU 1 0 C H locs ls hF hP hD hS (lv_sub hl [3, 4, 5, 6, 7, 2, 1, 0] rfl)
          · have hF := zif c5 hF
            refine lv_bipush (v := (-2)) hx hb dX6_flood_31 (by decide) ?_
            cases hF
            exact z_wi hx hb hr hlk hP hD hS rfl rfl dX6_flood_33
  · have hF := zif c1 hF
    refine lv_iconst (v := (-1)) hx hb dX6_flood_8 (by decide) ?_
    cases hF
    exact z_wi hx hb hr hlk hP hD hS rfl rfl dX6_flood_9
def f6_gain (x0 : Int32) (x1 : Int32) (x2 : Int32) (x3 : Int32) : Int32 := bd (α := Int32) (if x0 = x2 then 3 else 0) (fun (v1 : Int32) => bd (α := Int32) (if x0 = x3 then 2 else 0) (fun (v3 : Int32) => bd (α := Int32) (if x0 = x1 then 1 else 0) (fun (v5 : Int32) => ((v1 + v3) - v5))))
abbrev rmX6_gain : Room := { frames := 0, cells := 0, slots := 0, locals := 0 }
set_option maxHeartbeats 4000000 in
set_option maxRecDepth 100000 in
theorem c6_gain (l : Launch) (g : zG)  (x0 : Int32) (x1 : Int32) (x2 : Int32) (x3 : Int32) : zRO l g yX6_gain wsX6_gain rmX6_gain [.int x0, .int x1, .int x2, .int x3] [] (some (.int (f6_gain x0 x1 x2 x3))) := by
  obtain ⟨ro, hF⟩ : ∃ y : Int32, f6_gain x0 x1 x2 x3 = y := ⟨_, rfl⟩
  rw [hF]
  refine zRO_of (cc := cX6_gain) (maxL := 4) (ret := (some .int)) (by decide) rfl (Nat.le_of_ble_eq_true rfl) ?_
  intro p e s m args below meth c ls hx hb hr hml hts hown hlk hK hP hl
  have hown : s.vm.findClass RX6 = some m.cls := hown
  have hl : lv_has ls 4 [(0, .int x0), (1, .int x1), (2, .int x2), (3, .int x3)] := hl
  unfold f6_gain at hF
  refine lv_iload_n hx hb dX6_gain_0 rfl (lv_at hl 0 rfl) ?_
  refine lv_iload_n hx hb dX6_gain_1 rfl (lv_at hl 2 rfl) ?_
  obtain ⟨v1, hVv1⟩ : ∃ y : Int32, (if x0 = x2 then 3 else 0 : Int32) = y := ⟨_, rfl⟩
  have hF := bd_eq hVv1.symm hF
  have Jv1 : W p l e (headSpec wsX6_gain rmX6_gain).room s m args below meth c s.heap [] 0 0 (MQ below (zRQ (some (.int ro))) args s 0 0 (fun _ => False)) (F0 m 10 ls [.int v1]) := by
    refine lv_iload_n hx hb dX6_gain_10 rfl (lv_at hl 0 rfl) ?_
    refine lv_iload_n hx hb dX6_gain_11 rfl (lv_at hl 3 rfl) ?_
    obtain ⟨v3, hVv3⟩ : ∃ y : Int32, (if x0 = x3 then 2 else 0 : Int32) = y := ⟨_, rfl⟩
    have hF := bd_eq hVv3.symm hF
    have Jv3 : W p l e (headSpec wsX6_gain rmX6_gain).room s m args below meth c s.heap [] 0 0 (MQ below (zRQ (some (.int ro))) args s 0 0 (fun _ => False)) (F0 m 20 ls [.int v3, .int v1]) := by
      refine lv_iadd hx hb dX6_gain_20 ?_
      refine lv_iload_n hx hb dX6_gain_21 rfl (lv_at hl 0 rfl) ?_
      refine lv_iload_n hx hb dX6_gain_22 rfl (lv_at hl 1 rfl) ?_
      obtain ⟨v5, hVv5⟩ : ∃ y : Int32, (if x0 = x1 then 1 else 0 : Int32) = y := ⟨_, rfl⟩
      have hF := bd_eq hVv5.symm hF
      have Jv5 : W p l e (headSpec wsX6_gain rmX6_gain).room s m args below meth c s.heap [] 0 0 (MQ below (zRQ (some (.int ro))) args s 0 0 (fun _ => False)) (F0 m 31 ls [.int v5, .int (v1 + v3)]) := by
        refine lv_isub hx hb dX6_gain_31 ?_
        subst hF
        exact z_ri hx hb hr hlk rfl dX6_gain_32
      refine lv_icmp_ne (tgt := 30) hx hb dX6_gain_23 (by decide) (fun c6 => ?_) (fun c6 => ?_)
      · have hVv5 := zif c6 hVv5
        refine lv_iconst (v := 0) hx hb dX6_gain_30 (by decide) ?_
        subst hVv5
        exact Jv5
      · have hVv5 := zit c6 hVv5
        refine lv_iconst (v := 1) hx hb dX6_gain_26 (by decide) ?_
        refine lv_goto (tgt := 31) hx hb dX6_gain_27 (by decide) ?_
        subst hVv5
        exact Jv5
    refine lv_icmp_ne (tgt := 19) hx hb dX6_gain_12 (by decide) (fun c4 => ?_) (fun c4 => ?_)
    · have hVv3 := zif c4 hVv3
      refine lv_iconst (v := 0) hx hb dX6_gain_19 (by decide) ?_
      subst hVv3
      exact Jv3
    · have hVv3 := zit c4 hVv3
      refine lv_iconst (v := 2) hx hb dX6_gain_15 (by decide) ?_
      refine lv_goto (tgt := 20) hx hb dX6_gain_16 (by decide) ?_
      subst hVv3
      exact Jv3
  refine lv_icmp_ne (tgt := 9) hx hb dX6_gain_2 (by decide) (fun c2 => ?_) (fun c2 => ?_)
  · have hVv1 := zif c2 hVv1
    refine lv_iconst (v := 0) hx hb dX6_gain_9 (by decide) ?_
    subst hVv1
    exact Jv1
  · have hVv1 := zit c2 hVv1
    refine lv_iconst (v := 3) hx hb dX6_gain_5 (by decide) ?_
    refine lv_goto (tgt := 10) hx hb dX6_gain_6 (by decide) ?_
    subst hVv1
    exact Jv1
def f6_isNoJoint (C : Cs) (x1 : Int32) : Int32 := if x1 < 0 then 1 else if x1 < (((C.2.2.2.2.2.1).1).1 2) then 0 else 1
abbrev rmX6_isNoJoint : Room := { frames := 0, cells := 0, slots := 0, locals := 0 }
set_option maxHeartbeats 4000000 in
set_option maxRecDepth 100000 in
theorem c6_isNoJoint (l : Launch) (g : zG) (q : Nat → Nat) (C : Cs) (x1 : Int32) : zRO l g yX6_isNoJoint wsX6_isNoJoint rmX6_isNoJoint [.ref (q 0), .int x1] (CW g q C) (some (.int (f6_isNoJoint C x1))) := by
  obtain ⟨ro, hF⟩ : ∃ y : Int32, f6_isNoJoint C x1 = y := ⟨_, rfl⟩
  rw [hF]
  refine zRO_of (cc := cX6_isNoJoint) (maxL := 2) (ret := (some .boolean)) (by decide) rfl (Nat.le_of_ble_eq_true rfl) ?_
  intro p e s m args below meth c ls hx hb hr hml hts hown hlk hK hP hl
  have hown : s.vm.findClass RX6 = some m.cls := hown
  have hl : lv_has ls 2 [(0, .ref (q 0)), (1, .int x1)] := hl
  have inX3 : ∀ w ∈ wsX30, w ∈ wsX6_isNoJoint := fun _ h => List.mem_cons_of_mem _ (List.mem_append_right _ h)
  have inX6 : ∀ w ∈ wsX60, w ∈ wsX6_isNoJoint := fun _ h => List.mem_cons_of_mem _ (List.mem_append_left _ (List.mem_append_right _ h))
  unfold f6_isNoJoint at hF
  refine lv_iload_n hx hb dX6_isNoJoint_0 rfl (lv_at hl 1 rfl) ?_
  refine lv_if_lt (tgt := 15) hx hb dX6_isNoJoint_1 (by decide) (fun c1 => ?_) (fun c1 => ?_)
  · have hF := zit c1 hF
    refine lv_iconst (v := 1) hx hb dX6_isNoJoint_15 (by decide) ?_
    refine lv_goto (tgt := 20) hx hb dX6_isNoJoint_16 (by decide) ?_
    subst hF
    exact z_rz hx hb hr hlk rfl rfl dX6_isNoJoint_20
  · have hF := zif c1 hF
    refine lv_iload_n hx hb dX6_isNoJoint_4 rfl (lv_at hl 1 rfl) ?_
    refine lv_aload_n hx hb dX6_isNoJoint_5 rfl (lv_at hl 0 rfl) ?_
    refine z_get (ci := 6) (v := .ref (q (13 + 2))) (C := RX6) (T := TX6) (N := 13) hx hb hts inX6 hown hK hP 0 rfl rfl 3 (by decide) (List.mem_of_getElem? (i := 1) rfl) rfl rfl dX6_isNoJoint_6 ?_
    refine z_get (ci := 3) (v := .int (((C.2.2.2.2.2.1).1).1 2)) (C := RX3) (T := TX3) (N := 13) hx hb hts inX3 hown hK hP 15 rfl rfl 2 (by decide) (List.mem_of_getElem? (i := 2) rfl) rfl rfl dX6_isNoJoint_9 ?_
    refine lv_icmp_lt (tgt := 19) hx hb dX6_isNoJoint_12 (by decide) (fun c2 => ?_) (fun c2 => ?_)
    · have hF := zit c2 hF
      refine lv_iconst (v := 0) hx hb dX6_isNoJoint_19 (by decide) ?_
      subst hF
      exact z_rz hx hb hr hlk rfl rfl dX6_isNoJoint_20
    · have hF := zif c2 hF
      refine lv_iconst (v := 1) hx hb dX6_isNoJoint_15 (by decide) ?_
      refine lv_goto (tgt := 20) hx hb dX6_isNoJoint_16 (by decide) ?_
      subst hF
      exact z_rz hx hb hr hlk rfl rfl dX6_isNoJoint_20
theorem b6_isNoJoint (C : Cs) (x1 : Int32) : narrow .boolean (.int (f6_isNoJoint C x1)) = .int (f6_isNoJoint C x1) := by
  unfold f6_isNoJoint
  repeat' split
  all_goals first | rfl | exact rfl
def f6_hear (C : Cs) (x1 : Int32) (x2 : Int32) (x3 : Int32) : Option (Int32 × Cs) := if (f6_isNoWalker C x1) = 0 then if (f6_isNoJoint C x2) = 0 then if x3 < 1 then some ((-2), C) else if x3 ≤ 9 then if ((C.2.2.2.2.2.2.2.1).2) < 6 then (f0_add (C.2.2.2.2.2.2.2.1) x1 x2 x3).bind fun U6 => bd (cHd C U6) (fun (C7 : Cs) => some (((C7.2.2.2.2.2.2.2.1).2), C7)) else some ((-4), C) else some ((-2), C) else some ((-1), C) else some ((-1), C)
abbrev rmX6_hear : Room := { frames := 2, cells := 0, slots := 0, locals := 45 }
set_option maxHeartbeats 4000000 in
set_option maxRecDepth 100000 in
theorem c6_hear (l : Launch) (g : zG) (q : Nat → Nat) (C : Cs) (x1 : Int32) (x2 : Int32) (x3 : Int32) (ro : Int32) (C_o : Cs) (hF : f6_hear C x1 x2 x3 = some (ro, C_o)) : zRW l g yX6_hear wsX6_hear rmX6_hear [.ref (q 0), .int x1, .int x2, .int x3] (CW g q C) (some (.int ro)) (CW g q C_o) := by
  refine zRW_of (cc := cX6_hear) (maxL := 4) (ret := (some .int)) (by decide) rfl (Nat.le_of_ble_eq_true rfl) ?_
  intro p e s m args below meth c A H locs ls hx hb hr hml hts hown hlk hK hA hP hD hS hl
  have hown : s.vm.findClass RX6 = some m.cls := hown
  have hl : lv_has ls 4 [(0, .ref (q 0)), (1, .int x1), (2, .int x2), (3, .int x3)] := hl
  have inX0 : ∀ w ∈ wsX00, w ∈ wsX6_hear := fun _ h => List.mem_cons_of_mem _ (List.mem_append_left _ (List.mem_append_right _ h))
  have inX6 : ∀ w ∈ wsX60, w ∈ wsX6_hear := fun _ h => List.mem_cons_of_mem _ (List.mem_append_left _ (List.mem_append_left _ (List.mem_append_right _ h)))
  unfold f6_hear at hF
  refine lv_aload_n hx hb dX6_hear_0 rfl (lv_at hl 0 rfl) ?_
  refine lv_iload_n hx hb dX6_hear_1 rfl (lv_at hl 1 rfl) ?_
  refine z_rgo (va_runV (As := [.int x1]) (rest := []) ⟨hx, hb, hml, hown, hts⟩ (c6_isNoWalker l g q C x1) (cwV 1 hts gX6_hear_X6_isNoWalker rfl rfl rfl (by decide +kernel) ⟨Nat.le_of_ble_eq_true rfl, Nat.le_of_ble_eq_true rfl⟩) (z_rpreV (ci := 6) (q := (RX6, TX6, 13)) (q0 := 0) hP hK rfl rfl) rfl rfl hl.1 rfl (lv_room (Nat.le_of_ble_eq_true rfl)) dX6_hear_2 ⟨Nat.zero_le _, Nat.zero_le _⟩) ?_
  refine lv_if_ne (tgt := 16) hx hb dX6_hear_5 (by decide) (fun c1 => ?_) (fun c1 => ?_)
  · have hF := zif c1 hF
    refine lv_iconst (v := (-1)) hx hb dX6_hear_16 (by decide) ?_
    cases hF
    exact z_wi hx hb hr hlk hP hD hS rfl rfl dX6_hear_17
  · have hF := zit c1 hF
    refine lv_aload_n hx hb dX6_hear_8 rfl (lv_at hl 0 rfl) ?_
    refine lv_iload_n hx hb dX6_hear_9 rfl (lv_at hl 2 rfl) ?_
    refine z_rgo (va_runV (As := [.int x2]) (rest := []) ⟨hx, hb, hml, hown, hts⟩ (c6_isNoJoint l g q C x2) (cwV 1 hts gX6_hear_X6_isNoJoint rfl rfl rfl (by decide +kernel) ⟨Nat.le_of_ble_eq_true rfl, Nat.le_of_ble_eq_true rfl⟩) (z_rpreV (ci := 6) (q := (RX6, TX6, 13)) (q0 := 0) hP hK rfl rfl) rfl rfl hl.1 rfl (lv_room (Nat.le_of_ble_eq_true rfl)) dX6_hear_10 ⟨Nat.zero_le _, Nat.zero_le _⟩) ?_
    refine lv_if_eq (tgt := 18) hx hb dX6_hear_13 (by decide) (fun c2 => ?_) (fun c2 => ?_)
    · have hF := zit c2 hF
      refine lv_iload_n hx hb dX6_hear_18 rfl (lv_at hl 3 rfl) ?_
      refine lv_iconst (v := 1) hx hb dX6_hear_19 (by decide) ?_
      refine lv_icmp_lt (tgt := 29) hx hb dX6_hear_20 (by decide) (fun c3 => ?_) (fun c3 => ?_)
      · have hF := zit c3 hF
        refine lv_bipush (v := (-2)) hx hb dX6_hear_29 (by decide) ?_
        cases hF
        exact z_wi hx hb hr hlk hP hD hS rfl rfl dX6_hear_31
      · have hF := zif c3 hF
        refine lv_iload_n hx hb dX6_hear_23 rfl (lv_at hl 3 rfl) ?_
        refine lv_bipush (v := 9) hx hb dX6_hear_24 (by decide) ?_
        refine lv_icmp_le (tgt := 32) hx hb dX6_hear_26 (by decide) (fun c4 => ?_) (fun c4 => ?_)
        · have hF := zit c4 hF
          refine lv_aload_n hx hb dX6_hear_32 rfl (lv_at hl 0 rfl) ?_
          refine z_get (ci := 6) (v := .ref (q 46)) (C := RX6) (T := TX6) (N := 13) hx hb hts inX6 hown hK hP 0 rfl rfl 10 (by decide) (List.mem_of_getElem? (i := 1) rfl) rfl rfl dX6_hear_33 ?_
          refine z_get (ci := 0) (v := .int ((C.2.2.2.2.2.2.2.1).2)) (C := RX0) (T := TX0) (N := 4) hx hb hts inX0 hown hK hP 46 rfl rfl 3 (by decide) (List.mem_of_getElem? (i := 2) rfl) rfl rfl dX6_hear_36 ?_
          refine lv_bipush (v := 6) hx hb dX6_hear_39 (by decide) ?_
          refine lv_icmp_lt (tgt := 47) hx hb dX6_hear_41 (by decide) (fun c5 => ?_) (fun c5 => ?_)
          · have hF := zit c5 hF
            refine lv_aload_n hx hb dX6_hear_47 rfl (lv_at hl 0 rfl) ?_
            refine z_get (ci := 6) (v := .ref (q 46)) (C := RX6) (T := TX6) (N := 13) hx hb hts inX6 hown hK hP 0 rfl rfl 10 (by decide) (List.mem_of_getElem? (i := 1) rfl) rfl rfl dX6_hear_48 ?_
            refine lv_iload_n hx hb dX6_hear_51 rfl (lv_at hl 1 rfl) ?_
            refine lv_iload_n hx hb dX6_hear_52 rfl (lv_at hl 2 rfl) ?_
            refine lv_iload_n hx hb dX6_hear_53 rfl (lv_at hl 3 rfl) ?_
            obtain ⟨U6, hU6, hF⟩ := zob hF
            refine z_wgo (wn := CW g q (cHd C U6)) (va_runV (As := [.int x1, .int x2, .int x3]) (rest := []) ⟨hx, hb, hml, hown, hts⟩ ((c0_add l g q 46 (C.2.2.2.2.2.2.2.1) x1 x2 x3  U6 hU6) H.size) (cwV 3 hts gX6_hear_X0_add rfl rfl rfl (by decide +kernel) ⟨Nat.le_of_ble_eq_true rfl, Nat.le_of_ble_eq_true rfl⟩) (z_wpreV (ci := 0) (q := (RX0, TX0, 4)) (q0 := 0) (hP.sub (ws' := HW g q 46 (C.2.2.2.2.2.2.2.1)) [46, 47, 48, 49] rfl) hK (z_any (hD.sub (ws' := HW g q 46 (C.2.2.2.2.2.2.2.1)) [46, 47, 48, 49] (by decide) rfl)) rfl rfl) rfl rfl hl.1 rfl (lv_room (Nat.le_of_ble_eq_true rfl)) dX6_hear_54 ⟨Nat.zero_le _, Nat.zero_le _⟩) hP hD hS hA [46, 47, 48, 49] rfl (by decide) rfl rfl (fun H locs hP hD hS => ?_)
            show W p l e (headSpec wsX6_hear rmX6_hear).room s m args below meth c H locs 0 0 (MQ below (zWQ g A (CW g q C_o) (some (.int ro))) args s 0 0 A) (F0 m 57 ls [])
            obtain ⟨C7, eC7⟩ : ∃ y : Cs, y = (cHd C U6) := ⟨_, rfl⟩
            rw [← eC7] at hP hD
            have hF := bd_eq eC7 hF
            refine lv_aload_n hx hb dX6_hear_57 rfl (lv_at hl 0 rfl) ?_
            refine z_get (ci := 6) (v := .ref (q 46)) (C := RX6) (T := TX6) (N := 13) hx hb hts inX6 hown hK hP 0 rfl rfl 10 (by decide) (List.mem_of_getElem? (i := 1) rfl) rfl rfl dX6_hear_58 ?_
            refine z_get (ci := 0) (v := .int ((C7.2.2.2.2.2.2.2.1).2)) (C := RX0) (T := TX0) (N := 4) hx hb hts inX0 hown hK hP 46 rfl rfl 3 (by decide) (List.mem_of_getElem? (i := 2) rfl) rfl rfl dX6_hear_61 ?_
            cases hF
            exact z_wi hx hb hr hlk hP hD hS rfl rfl dX6_hear_64
          · have hF := zif c5 hF
            refine lv_bipush (v := (-4)) hx hb dX6_hear_44 (by decide) ?_
            cases hF
            exact z_wi hx hb hr hlk hP hD hS rfl rfl dX6_hear_46
        · have hF := zif c4 hF
          refine lv_bipush (v := (-2)) hx hb dX6_hear_29 (by decide) ?_
          cases hF
          exact z_wi hx hb hr hlk hP hD hS rfl rfl dX6_hear_31
    · have hF := zif c2 hF
      refine lv_iconst (v := (-1)) hx hb dX6_hear_16 (by decide) ?_
      cases hF
      exact z_wi hx hb hr hlk hP hD hS rfl rfl dX6_hear_17
def f6_isAsHeard_l25 (x1 : Int32) : Nat → Int32 → Cs → Option (Int32 × Cs)
  | 0, _, _ => none
  | n25 + 1, y4, C5 => if 9 < y4 then some (1, C5) else (f2_advance (C5.1 1) ((C5.2.2.2.2.2.1).1)).bind fun M7 => bd (cM C5 1 M7) (fun (C8 : Cs) => (f0_allows (C8.2.2.2.2.2.2.2.1) x1 y4 (f6_cell 4 ((C8.1 1).2 0) x1) (((C8.2.2.2.2.2.1).1).1 2)).bind fun v9 => if v9 = 0 then some (0, C8) else f6_isAsHeard_l25 x1 n25 (y4 + 1) C8)
def f6_isAsHeard (C : Cs) (x1 : Int32) (x2 : Int32) : Option (Int32 × Cs) := (f2_copy (C.1 1) (C.1 0)).bind fun M1 => bd (cM C 1 M1) (fun (C2 : Cs) => bd (cM C2 1 (sA (C2.1 1) 3 (f6_put 4 ((C2.1 1).2 3) x1 x2))) (fun (C3 : Cs) => f6_isAsHeard_l25 x1 FU 1 C3))
abbrev rmX6_isAsHeard : Room := { frames := 5, cells := 0, slots := 0, locals := 118 }
set_option maxHeartbeats 4000000 in
set_option maxRecDepth 100000 in
theorem c6_isAsHeard (l : Launch) (g : zG) (q : Nat → Nat) (C : Cs) (x1 : Int32) (x2 : Int32) (ro : Int32) (C_o : Cs) (hF : f6_isAsHeard C x1 x2 = some (ro, C_o)) : zRW l g yX6_isAsHeard wsX6_isAsHeard rmX6_isAsHeard [.ref (q 0), .int x1, .int x2] (CW g q C) (some (.int ro)) (CW g q C_o) := by
  refine zRW_of (cc := cX6_isAsHeard) (maxL := 4) (ret := (some .boolean)) (by decide) rfl (Nat.le_of_ble_eq_true rfl) ?_
  intro p e s m args below meth c A H locs ls hx hb hr hml hts hown hlk hK hA hP hD hS hl
  have hown : s.vm.findClass RX6 = some m.cls := hown
  have hl : lv_has ls 4 [(0, .ref (q 0)), (1, .int x1), (2, .int x2)] := hl
  have inX2 : ∀ w ∈ wsX20, w ∈ wsX6_isAsHeard := fun _ h => List.mem_cons_of_mem _ (List.mem_append_left _ (List.mem_append_left _ (List.mem_append_right _ h)))
  have inX3 : ∀ w ∈ wsX30, w ∈ wsX6_isAsHeard := fun _ h => List.mem_cons_of_mem _ (List.mem_append_left _ (List.mem_append_right _ h))
  have inX6 : ∀ w ∈ wsX60, w ∈ wsX6_isAsHeard := fun _ h => List.mem_cons_of_mem _ (List.mem_append_left _ (List.mem_append_left _ (List.mem_append_left _ (List.mem_append_right _ h))))
  unfold f6_isAsHeard at hF
  refine lv_aload_n hx hb dX6_isAsHeard_0 rfl (lv_at hl 0 rfl) ?_
  refine z_get (ci := 6) (v := .ref (q 28)) (C := RX6) (T := TX6) (N := 13) hx hb hts inX6 hown hK hP 0 rfl rfl 5 (by decide) (List.mem_of_getElem? (i := 1) rfl) rfl rfl dX6_isAsHeard_1 ?_
  refine lv_aload_n hx hb dX6_isAsHeard_4 rfl (lv_at hl 0 rfl) ?_
  refine z_get (ci := 6) (v := .ref (q 23)) (C := RX6) (T := TX6) (N := 13) hx hb hts inX6 hown hK hP 0 rfl rfl 4 (by decide) (List.mem_of_getElem? (i := 2) rfl) rfl rfl dX6_isAsHeard_5 ?_
  obtain ⟨M1, hM1, hF⟩ := zob hF
  refine z_wgo (wn := CW g q (cM C 1 M1)) (va_runV (As := [.ref (q 23)]) (rest := []) ⟨hx, hb, hml, hown, hts⟩ ((c2_copy l g q 28 q 23 (C.1 1) (C.1 0)   M1 hM1) H.size) (cwV 1 hts gX6_isAsHeard_X2_copy rfl rfl rfl (by decide +kernel) ⟨Nat.le_of_ble_eq_true rfl, Nat.le_of_ble_eq_true rfl⟩) (z_wpreV (ci := 2) (q := (RX2, TX2, 9)) (q0 := 0) (hP.sub (ws' := (OW g q 28 (C.1 1) ++ OW g q 23 (C.1 0))) [28, 29, 30, 31, 32, 23, 24, 25, 26, 27] rfl) hK (z_any (hD.sub (ws' := (OW g q 28 (C.1 1) ++ OW g q 23 (C.1 0))) [28, 29, 30, 31, 32, 23, 24, 25, 26, 27] (by decide) rfl)) rfl rfl) rfl rfl hl.1 rfl (lv_room (Nat.le_of_ble_eq_true rfl)) dX6_isAsHeard_8 ⟨Nat.zero_le _, Nat.zero_le _⟩) hP hD hS hA [28, 29, 30, 31, 32, 23, 24, 25, 26, 27] rfl (by decide) rfl rfl (fun H locs hP hD hS => ?_)
  show W p l e (headSpec wsX6_isAsHeard rmX6_isAsHeard).room s m args below meth c H locs 0 0 (MQ below (zWQ g A (CW g q C_o) (some (.int ro))) args s 0 0 A) (F0 m 11 ls [])
  obtain ⟨C2, eC2⟩ : ∃ y : Cs, y = (cM C 1 M1) := ⟨_, rfl⟩
  rw [← eC2] at hP hD
  have hF := bd_eq eC2 hF
  refine lv_aload_n hx hb dX6_isAsHeard_11 rfl (lv_at hl 0 rfl) ?_
  refine z_get (ci := 6) (v := .ref (q 28)) (C := RX6) (T := TX6) (N := 13) hx hb hts inX6 hown hK hP 0 rfl rfl 5 (by decide) (List.mem_of_getElem? (i := 1) rfl) rfl rfl dX6_isAsHeard_12 ?_
  refine z_get (ci := 2) (v := .ref (q (28 + 4))) (C := RX2) (T := TX2) (N := 9) hx hb hts inX2 hown hK hP 28 rfl rfl 3 (by decide) (List.mem_of_getElem? (i := 3) rfl) rfl rfl dX6_isAsHeard_15 ?_
  refine lv_iload_n hx hb dX6_isAsHeard_18 rfl (lv_at hl 1 rfl) ?_
  refine lv_iload_n hx hb dX6_isAsHeard_19 rfl (lv_at hl 2 rfl) ?_
  refine z_wgo (wn := CW g q (cM C2 1 (sA (C2.1 1) 3 (f6_put 4 ((C2.1 1).2 3) x1 x2)))) (va_runS (As := [.ref (q (28 + 4)), .int x1, .int x2]) (rest := []) ⟨hx, hb, hml, hown, hts⟩ ((c6_put l g (q (28 + 4)) 4 (by decide) ((C2.1 1).2 3) x1 x2) H.size) (va_cwS 3 hts gX6_isAsHeard_X6_put rfl rfl rfl (by decide +kernel) ⟨Nat.le_of_ble_eq_true rfl, Nat.le_of_ble_eq_true rfl⟩) (z_wpre (hP.sub (ws' := [((q (28 + 4)), .inl (g.2.2.1, 4, .inl ((C2.1 1).2 3)))]) [32] rfl) hK (z_any (hD.sub (ws' := [((q (28 + 4)), .inl (g.2.2.1, 4, .inl ((C2.1 1).2 3)))]) [32] (by decide) rfl))) rfl rfl hl.1 rfl (lv_room (Nat.le_of_ble_eq_true rfl)) dX6_isAsHeard_20 ⟨Nat.zero_le _, Nat.zero_le _⟩) hP hD hS hA [32] rfl (by decide) rfl rfl (fun H locs hP hD hS => ?_)
  show W p l e (headSpec wsX6_isAsHeard rmX6_isAsHeard).room s m args below meth c H locs 0 0 (MQ below (zWQ g A (CW g q C_o) (some (.int ro))) args s 0 0 A) (F0 m 23 ls [])
  obtain ⟨C3, eC3⟩ : ∃ y : Cs, y = (cM C2 1 (sA (C2.1 1) 3 (f6_put 4 ((C2.1 1).2 3) x1 x2))) := ⟨_, rfl⟩
  rw [← eC3] at hP hD
  have hF := bd_eq eC3 hF
  refine lv_iconst (v := 1) hx hb dX6_isAsHeard_23 (by decide) ?_
  refine lv_istore_n (lv' := [(3, .int 1), (0, .ref (q 0)), (1, .int x1), (2, .int x2)]) hx hb dX6_isAsHeard_24 rfl hl (by decide) rfl (fun ls hl => ?_)
  have L25 : ∀ (n25 : Nat) (y4 : Int32) (C5 : Cs) (H : Heap) (locs : List Loc) (ls : Array Slot), f6_isAsHeard_l25 x1 n25 y4 C5 = some (ro, C_o) → va_P (zD g) vwCl (CW g q C5) H → va_D A (CW g q C5) → va_S A s.heap H locs → lv_has ls 4 [(0, .ref (q 0)), (1, .int x1), (3, .int y4)] → W p l e (headSpec wsX6_isAsHeard rmX6_isAsHeard).room s m args below meth c H locs 0 0 (MQ below (zWQ g A (CW g q C_o) (some (.int ro))) args s 0 0 A) (F0 m 25 ls []) := by
    intro n25
    induction n25 with
    | zero =>
      intro y4 C5 H locs ls hF hP hD hS hl
      exact absurd (show (none : Option (Int32 × Cs)) = some _ from hF) (fun h9 => by cases h9)
    | succ n25 ih25 =>
      intro y4 C5 H locs ls hF hP hD hS hl
      rw [f6_isAsHeard_l25] at hF
      refine lv_iload_n hx hb dX6_isAsHeard_25 rfl (lv_at hl 2 rfl) ?_
      refine lv_bipush (v := 9) hx hb dX6_isAsHeard_26 (by decide) ?_
      refine lv_icmp_gt (tgt := 80) hx hb dX6_isAsHeard_28 (by decide) (fun c6 => ?_) (fun c6 => ?_)
      · have hF := zit c6 hF
        refine lv_iconst (v := 1) hx hb dX6_isAsHeard_80 (by decide) ?_
        cases hF
        exact z_wz hx hb hr hlk rfl hP hD hS rfl rfl dX6_isAsHeard_81
      · have hF := zif c6 hF
        refine lv_aload_n hx hb dX6_isAsHeard_31 rfl (lv_at hl 0 rfl) ?_
        refine z_get (ci := 6) (v := .ref (q 28)) (C := RX6) (T := TX6) (N := 13) hx hb hts inX6 hown hK hP 0 rfl rfl 5 (by decide) (List.mem_of_getElem? (i := 1) rfl) rfl rfl dX6_isAsHeard_32 ?_
        refine lv_aload_n hx hb dX6_isAsHeard_35 rfl (lv_at hl 0 rfl) ?_
        refine z_get (ci := 6) (v := .ref (q (13 + 2))) (C := RX6) (T := TX6) (N := 13) hx hb hts inX6 hown hK hP 0 rfl rfl 3 (by decide) (List.mem_of_getElem? (i := 4) rfl) rfl rfl dX6_isAsHeard_36 ?_
        obtain ⟨M7, hM7, hF⟩ := zob hF
        refine z_wgo (wn := CW g q (cM C5 1 M7)) (va_runV (As := [.ref (q (13 + 2))]) (rest := []) ⟨hx, hb, hml, hown, hts⟩ ((c2_advance l g q 28 q (13 + 2) (C5.1 1) ((C5.2.2.2.2.2.1).1)   M7 hM7) H.size) (cwV 1 hts gX6_isAsHeard_X2_advance rfl rfl rfl (by decide +kernel) ⟨Nat.le_of_ble_eq_true rfl, Nat.le_of_ble_eq_true rfl⟩) (z_wpreV (ci := 2) (q := (RX2, TX2, 9)) (q0 := 0) (hP.sub (ws' := (OW g q 28 (C5.1 1) ++ NW g q (13 + 2) ((C5.2.2.2.2.2.1).1))) [28, 29, 30, 31, 32, 15, 16, 17, 18, 19, 20, 21, 22] rfl) hK (z_any (hD.sub (ws' := (OW g q 28 (C5.1 1) ++ NW g q (13 + 2) ((C5.2.2.2.2.2.1).1))) [28, 29, 30, 31, 32, 15, 16, 17, 18, 19, 20, 21, 22] (by decide) rfl)) rfl rfl) rfl rfl hl.1 rfl (lv_room (Nat.le_of_ble_eq_true rfl)) dX6_isAsHeard_39 ⟨Nat.zero_le _, Nat.zero_le _⟩) hP hD hS hA [28, 29, 30, 31, 32, 15, 16, 17, 18, 19, 20, 21, 22] rfl (by decide) rfl rfl (fun H locs hP hD hS => ?_)
        show W p l e (headSpec wsX6_isAsHeard rmX6_isAsHeard).room s m args below meth c H locs 0 0 (MQ below (zWQ g A (CW g q C_o) (some (.int ro))) args s 0 0 A) (F0 m 42 ls [])
        obtain ⟨C8, eC8⟩ : ∃ y : Cs, y = (cM C5 1 M7) := ⟨_, rfl⟩
        rw [← eC8] at hP hD
        have hF := bd_eq eC8 hF
        refine lv_aload_n hx hb dX6_isAsHeard_42 rfl (lv_at hl 0 rfl) ?_
        refine z_get (ci := 6) (v := .ref (q 46)) (C := RX6) (T := TX6) (N := 13) hx hb hts inX6 hown hK hP 0 rfl rfl 10 (by decide) (List.mem_of_getElem? (i := 5) rfl) rfl rfl dX6_isAsHeard_43 ?_
        refine lv_iload_n hx hb dX6_isAsHeard_46 rfl (lv_at hl 1 rfl) ?_
        refine lv_iload_n hx hb dX6_isAsHeard_47 rfl (lv_at hl 2 rfl) ?_
        refine lv_aload_n hx hb dX6_isAsHeard_48 rfl (lv_at hl 0 rfl) ?_
        refine z_get (ci := 6) (v := .ref (q 28)) (C := RX6) (T := TX6) (N := 13) hx hb hts inX6 hown hK hP 0 rfl rfl 5 (by decide) (List.mem_of_getElem? (i := 1) rfl) rfl rfl dX6_isAsHeard_49 ?_
        refine z_get (ci := 2) (v := .ref (q (28 + 1))) (C := RX2) (T := TX2) (N := 9) hx hb hts inX2 hown hK hP 28 rfl rfl 0 (by decide) (List.mem_of_getElem? (i := 6) rfl) rfl rfl dX6_isAsHeard_52 ?_
        refine lv_iload_n hx hb dX6_isAsHeard_55 rfl (lv_at hl 1 rfl) ?_
        refine z_rgo (va_runS (As := [.ref (q (28 + 1)), .int x1]) (rest := [.int y4, .int x1, .ref (q 46)]) ⟨hx, hb, hml, hown, hts⟩ (c6_cell l g (q (28 + 1)) 4 (by decide) ((C8.1 1).2 0) x1) (va_cwS 2 hts gX6_isAsHeard_X6_cell rfl rfl rfl (by decide +kernel) ⟨Nat.le_of_ble_eq_true rfl, Nat.le_of_ble_eq_true rfl⟩) (z_rpre (hP.sub (ws' := [((q (28 + 1)), .inl (g.2.2.1, 4, .inl ((C8.1 1).2 0)))]) [29] rfl) hK) rfl rfl hl.1 rfl (lv_room (Nat.le_of_ble_eq_true rfl)) dX6_isAsHeard_56 ⟨Nat.zero_le _, Nat.zero_le _⟩) ?_
        refine lv_aload_n hx hb dX6_isAsHeard_59 rfl (lv_at hl 0 rfl) ?_
        refine z_get (ci := 6) (v := .ref (q (13 + 2))) (C := RX6) (T := TX6) (N := 13) hx hb hts inX6 hown hK hP 0 rfl rfl 3 (by decide) (List.mem_of_getElem? (i := 4) rfl) rfl rfl dX6_isAsHeard_60 ?_
        refine z_get (ci := 3) (v := .int (((C8.2.2.2.2.2.1).1).1 2)) (C := RX3) (T := TX3) (N := 13) hx hb hts inX3 hown hK hP 15 rfl rfl 2 (by decide) (List.mem_of_getElem? (i := 7) rfl) rfl rfl dX6_isAsHeard_63 ?_
        obtain ⟨v9, hv9, hF⟩ := zob hF
        refine z_rgo (va_runV (As := [.int x1, .int y4, .int (f6_cell 4 ((C8.1 1).2 0) x1), .int (((C8.2.2.2.2.2.1).1).1 2)]) (rest := []) ⟨hx, hb, hml, hown, hts⟩ (c0_allows l g q 46 (C8.2.2.2.2.2.2.2.1) x1 y4 (f6_cell 4 ((C8.1 1).2 0) x1) (((C8.2.2.2.2.2.1).1).1 2) v9 hv9) (cwV 4 hts gX6_isAsHeard_X0_allows rfl rfl rfl (by decide +kernel) ⟨Nat.le_of_ble_eq_true rfl, Nat.le_of_ble_eq_true rfl⟩) (z_rpreV (ci := 0) (q := (RX0, TX0, 4)) (q0 := 0) (hP.sub (ws' := HW g q 46 (C8.2.2.2.2.2.2.2.1)) [46, 47, 48, 49] rfl) hK rfl rfl) rfl rfl hl.1 rfl (lv_room (Nat.le_of_ble_eq_true rfl)) dX6_isAsHeard_66 ⟨Nat.zero_le _, Nat.zero_le _⟩) ?_
        refine lv_if_ne (tgt := 74) hx hb dX6_isAsHeard_69 (by decide) (fun c10 => ?_) (fun c10 => ?_)
        · have hF := zif c10 hF
          refine lv_iinc (v := (y4 + 1)) (lv' := [(3, .int (y4 + 1)), (0, .ref (q 0)), (1, .int x1)]) hx hb dX6_isAsHeard_74 hl (k := 2) rfl rfl (by decide) rfl (fun ls hl => ?_)
          refine lv_goto (tgt := 25) hx hb dX6_isAsHeard_77 (by decide) ?_
          exact ih25 (y4 + 1) C8 H locs ls hF hP hD hS (lv_sub hl [1, 2, 0] rfl)
        · have hF := zit c10 hF
          refine lv_iconst (v := 0) hx hb dX6_isAsHeard_72 (by decide) ?_
          cases hF
          exact z_wz hx hb hr hlk rfl hP hD hS rfl rfl dX6_isAsHeard_73
  exact L25 FU 1 C3 H locs ls hF hP hD hS (lv_sub hl [1, 2, 0] rfl)
def f6_isBest_l13 (x2 : Int32) (x3 : Int32) (x4 : Int32) (v1 : Int32) (C : Cs) : Nat → Int32 → Option (Int32)
  | 0, _ => none
  | n13 + 1, y2 => if (((C.2.2.2.2.2.1).1).1 2) ≤ y2 then some 1 else if (f6_has (((C.2.2.2.2.2.1).1).1 5) y2) = 0 then f6_isBest_l13 x2 x3 x4 v1 C n13 (y2 + 1) else if (f6_gain y2 x2 x3 x4) ≤ v1 then f6_isBest_l13 x2 x3 x4 v1 C n13 (y2 + 1) else some 0
def f6_isBest (C : Cs) (x1 : Int32) (x2 : Int32) (x3 : Int32) (x4 : Int32) : Option (Int32) := bd (α := Int32) (f6_gain x1 x2 x3 x4) (fun (v1 : Int32) => f6_isBest_l13 x2 x3 x4 v1 C FU 0)
abbrev rmX6_isBest : Room := { frames := 1, cells := 0, slots := 0, locals := 23 }
set_option maxHeartbeats 4000000 in
set_option maxRecDepth 100000 in
theorem c6_isBest (l : Launch) (g : zG) (q : Nat → Nat) (C : Cs) (x1 : Int32) (x2 : Int32) (x3 : Int32) (x4 : Int32) (ro : Int32) (hF : f6_isBest C x1 x2 x3 x4 = some ro) : zRO l g yX6_isBest wsX6_isBest rmX6_isBest [.ref (q 0), .int x1, .int x2, .int x3, .int x4] (CW g q C) (some (.int ro)) := by
  refine zRO_of (cc := cX6_isBest) (maxL := 7) (ret := (some .boolean)) (by decide) rfl (Nat.le_of_ble_eq_true rfl) ?_
  intro p e s m args below meth c ls hx hb hr hml hts hown hlk hK hP hl
  have hown : s.vm.findClass RX6 = some m.cls := hown
  have hl : lv_has ls 7 [(0, .ref (q 0)), (1, .int x1), (2, .int x2), (3, .int x3), (4, .int x4)] := hl
  have inX3 : ∀ w ∈ wsX30, w ∈ wsX6_isBest := fun _ h => List.mem_cons_of_mem _ (List.mem_append_right _ h)
  have inX6 : ∀ w ∈ wsX60, w ∈ wsX6_isBest := fun _ h => List.mem_cons_of_mem _ (List.mem_append_left _ (List.mem_append_right _ h))
  unfold f6_isBest at hF
  refine lv_iload_n hx hb dX6_isBest_0 rfl (lv_at hl 1 rfl) ?_
  refine lv_iload_n hx hb dX6_isBest_1 rfl (lv_at hl 2 rfl) ?_
  refine lv_iload_n hx hb dX6_isBest_2 rfl (lv_at hl 3 rfl) ?_
  refine lv_iload hx hb dX6_isBest_3 (lv_at hl 4 rfl) ?_
  refine z_rgo (va_runS (As := [.int x1, .int x2, .int x3, .int x4]) (rest := []) ⟨hx, hb, hml, hown, hts⟩ (c6_gain l g   x1 x2 x3 x4) (va_cwS 4 hts gX6_isBest_X6_gain rfl rfl rfl (by decide +kernel) ⟨Nat.le_of_ble_eq_true rfl, Nat.le_of_ble_eq_true rfl⟩) (z_rpre z_nil hK) rfl rfl hl.1 rfl (lv_room (Nat.le_of_ble_eq_true rfl)) dX6_isBest_5 ⟨Nat.zero_le _, Nat.zero_le _⟩) ?_
  refine lv_topi (fun v1 ev1 => ?_)
  have hF := bd_eq ev1 hF
  refine lv_istore (lv' := [(5, .int v1), (0, .ref (q 0)), (1, .int x1), (2, .int x2), (3, .int x3), (4, .int x4)]) hx hb dX6_isBest_8 hl (by decide) rfl (fun ls hl => ?_)
  refine lv_iconst (v := 0) hx hb dX6_isBest_10 (by decide) ?_
  refine lv_istore (lv' := [(6, .int 0), (5, .int v1), (0, .ref (q 0)), (1, .int x1), (2, .int x2), (3, .int x3), (4, .int x4)]) hx hb dX6_isBest_11 hl (by decide) rfl (fun ls hl => ?_)
  have L13 : ∀ (n13 : Nat) (y2 : Int32) (ls : Array Slot), f6_isBest_l13 x2 x3 x4 v1 C n13 y2 = some ro → lv_has ls 7 [(0, .ref (q 0)), (2, .int x2), (3, .int x3), (4, .int x4), (5, .int v1), (6, .int y2)] → W p l e (headSpec wsX6_isBest rmX6_isBest).room s m args below meth c s.heap [] 0 0 (MQ below (zRQ (some (.int ro))) args s 0 0 (fun _ => False)) (F0 m 13 ls []) := by
    intro n13
    induction n13 with
    | zero =>
      intro y2 ls hF hl
      exact absurd (show (none : Option (Int32)) = some _ from hF) (fun h9 => by cases h9)
    | succ n13 ih13 =>
      intro y2 ls hF hl
      rw [f6_isBest_l13] at hF
      refine lv_iload hx hb dX6_isBest_13 (lv_at hl 5 rfl) ?_
      refine lv_aload_n hx hb dX6_isBest_15 rfl (lv_at hl 0 rfl) ?_
      refine z_get (ci := 6) (v := .ref (q (13 + 2))) (C := RX6) (T := TX6) (N := 13) hx hb hts inX6 hown hK hP 0 rfl rfl 3 (by decide) (List.mem_of_getElem? (i := 1) rfl) rfl rfl dX6_isBest_16 ?_
      refine z_get (ci := 3) (v := .int (((C.2.2.2.2.2.1).1).1 2)) (C := RX3) (T := TX3) (N := 13) hx hb hts inX3 hown hK hP 15 rfl rfl 2 (by decide) (List.mem_of_getElem? (i := 2) rfl) rfl rfl dX6_isBest_19 ?_
      refine lv_icmp_ge (tgt := 62) hx hb dX6_isBest_22 (by decide) (fun c3 => ?_) (fun c3 => ?_)
      · have hF := zit c3 hF
        refine lv_iconst (v := 1) hx hb dX6_isBest_62 (by decide) ?_
        cases hF
        exact z_rz hx hb hr hlk rfl rfl dX6_isBest_63
      · have hF := zif c3 hF
        refine lv_aload_n hx hb dX6_isBest_25 rfl (lv_at hl 0 rfl) ?_
        refine z_get (ci := 6) (v := .ref (q (13 + 2))) (C := RX6) (T := TX6) (N := 13) hx hb hts inX6 hown hK hP 0 rfl rfl 3 (by decide) (List.mem_of_getElem? (i := 1) rfl) rfl rfl dX6_isBest_26 ?_
        refine z_get (ci := 3) (v := .int (((C.2.2.2.2.2.1).1).1 5)) (C := RX3) (T := TX3) (N := 13) hx hb hts inX3 hown hK hP 15 rfl rfl 5 (by decide) (List.mem_of_getElem? (i := 3) rfl) rfl rfl dX6_isBest_29 ?_
        refine lv_iload hx hb dX6_isBest_32 (lv_at hl 5 rfl) ?_
        refine z_rgo (va_runS (As := [.int (((C.2.2.2.2.2.1).1).1 5), .int y2]) (rest := []) ⟨hx, hb, hml, hown, hts⟩ (c6_has l g   (((C.2.2.2.2.2.1).1).1 5) y2) (va_cwS 2 hts gX6_isBest_X6_has rfl rfl rfl (by decide +kernel) ⟨Nat.le_of_ble_eq_true rfl, Nat.le_of_ble_eq_true rfl⟩) (z_rpre z_nil hK) rfl rfl hl.1 rfl (lv_room (Nat.le_of_ble_eq_true rfl)) dX6_isBest_34 ⟨Nat.zero_le _, Nat.zero_le _⟩) ?_
        refine lv_if_eq (tgt := 56) hx hb dX6_isBest_37 (by decide) (fun c4 => ?_) (fun c4 => ?_)
        · have hF := zit c4 hF
          refine lv_iinc (v := (y2 + 1)) (lv' := [(6, .int (y2 + 1)), (0, .ref (q 0)), (2, .int x2), (3, .int x3), (4, .int x4), (5, .int v1)]) hx hb dX6_isBest_56 hl (k := 5) rfl rfl (by decide) rfl (fun ls hl => ?_)
          refine lv_goto (tgt := 13) hx hb dX6_isBest_59 (by decide) ?_
          exact ih13 (y2 + 1) ls hF (lv_sub hl [1, 2, 3, 4, 5, 0] rfl)
        · have hF := zif c4 hF
          refine lv_iload hx hb dX6_isBest_40 (lv_at hl 5 rfl) ?_
          refine lv_iload_n hx hb dX6_isBest_42 rfl (lv_at hl 1 rfl) ?_
          refine lv_iload_n hx hb dX6_isBest_43 rfl (lv_at hl 2 rfl) ?_
          refine lv_iload hx hb dX6_isBest_44 (lv_at hl 3 rfl) ?_
          refine z_rgo (va_runS (As := [.int y2, .int x2, .int x3, .int x4]) (rest := []) ⟨hx, hb, hml, hown, hts⟩ (c6_gain l g   y2 x2 x3 x4) (va_cwS 4 hts gX6_isBest_X6_gain rfl rfl rfl (by decide +kernel) ⟨Nat.le_of_ble_eq_true rfl, Nat.le_of_ble_eq_true rfl⟩) (z_rpre z_nil hK) rfl rfl hl.1 rfl (lv_room (Nat.le_of_ble_eq_true rfl)) dX6_isBest_46 ⟨Nat.zero_le _, Nat.zero_le _⟩) ?_
          refine lv_iload hx hb dX6_isBest_49 (lv_at hl 4 rfl) ?_
          refine lv_icmp_le (tgt := 56) hx hb dX6_isBest_51 (by decide) (fun c5 => ?_) (fun c5 => ?_)
          · have hF := zit c5 hF
            refine lv_iinc (v := (y2 + 1)) (lv' := [(6, .int (y2 + 1)), (0, .ref (q 0)), (2, .int x2), (3, .int x3), (4, .int x4), (5, .int v1)]) hx hb dX6_isBest_56 hl (k := 5) rfl rfl (by decide) rfl (fun ls hl => ?_)
            refine lv_goto (tgt := 13) hx hb dX6_isBest_59 (by decide) ?_
            exact ih13 (y2 + 1) ls hF (lv_sub hl [1, 2, 3, 4, 5, 0] rfl)
          · have hF := zif c5 hF
            refine lv_iconst (v := 0) hx hb dX6_isBest_54 (by decide) ?_
            cases hF
            exact z_rz hx hb hr hlk rfl rfl dX6_isBest_55
  exact L13 FU 0 ls hF (lv_sub hl [2, 4, 5, 6, 1, 0] rfl)
def f6_isAtRest (C : Cs) (x1 : Int32) (x2 : Int32) (x3 : Int32) (x4 : Int32) : Option (Int32) := if (f6_has (((C.2.2.2.2.2.1).1).1 5) x1) = 0 then some 0 else if (f6_has (((C.2.2.2.2.2.1).1).1 5) x2) = 0 then some 0 else (f6_isBest C x1 x2 x3 x4).bind fun v3 => if v3 = 0 then some 0 else (f6_isBest C x2 x1 x4 x3).bind fun v5 => if v5 = 0 then some 0 else some 1
abbrev rmX6_isAtRest : Room := { frames := 2, cells := 0, slots := 0, locals := 49 }
set_option maxHeartbeats 4000000 in
set_option maxRecDepth 100000 in
theorem c6_isAtRest (l : Launch) (g : zG) (q : Nat → Nat) (C : Cs) (x1 : Int32) (x2 : Int32) (x3 : Int32) (x4 : Int32) (ro : Int32) (hF : f6_isAtRest C x1 x2 x3 x4 = some ro) : zRO l g yX6_isAtRest wsX6_isAtRest rmX6_isAtRest [.ref (q 0), .int x1, .int x2, .int x3, .int x4] (CW g q C) (some (.int ro)) := by
  refine zRO_of (cc := cX6_isAtRest) (maxL := 5) (ret := (some .boolean)) (by decide) rfl (Nat.le_of_ble_eq_true rfl) ?_
  intro p e s m args below meth c ls hx hb hr hml hts hown hlk hK hP hl
  have hown : s.vm.findClass RX6 = some m.cls := hown
  have hl : lv_has ls 5 [(0, .ref (q 0)), (1, .int x1), (2, .int x2), (3, .int x3), (4, .int x4)] := hl
  have inX3 : ∀ w ∈ wsX30, w ∈ wsX6_isAtRest := fun _ h => List.mem_cons_of_mem _ (List.mem_append_right _ h)
  have inX6 : ∀ w ∈ wsX60, w ∈ wsX6_isAtRest := fun _ h => List.mem_cons_of_mem _ (List.mem_append_left _ (List.mem_append_right _ h))
  unfold f6_isAtRest at hF
  refine lv_aload_n hx hb dX6_isAtRest_0 rfl (lv_at hl 0 rfl) ?_
  refine z_get (ci := 6) (v := .ref (q (13 + 2))) (C := RX6) (T := TX6) (N := 13) hx hb hts inX6 hown hK hP 0 rfl rfl 3 (by decide) (List.mem_of_getElem? (i := 1) rfl) rfl rfl dX6_isAtRest_1 ?_
  refine z_get (ci := 3) (v := .int (((C.2.2.2.2.2.1).1).1 5)) (C := RX3) (T := TX3) (N := 13) hx hb hts inX3 hown hK hP 15 rfl rfl 5 (by decide) (List.mem_of_getElem? (i := 2) rfl) rfl rfl dX6_isAtRest_4 ?_
  refine lv_iload_n hx hb dX6_isAtRest_7 rfl (lv_at hl 1 rfl) ?_
  refine z_rgo (va_runS (As := [.int (((C.2.2.2.2.2.1).1).1 5), .int x1]) (rest := []) ⟨hx, hb, hml, hown, hts⟩ (c6_has l g   (((C.2.2.2.2.2.1).1).1 5) x1) (va_cwS 2 hts gX6_isAtRest_X6_has rfl rfl rfl (by decide +kernel) ⟨Nat.le_of_ble_eq_true rfl, Nat.le_of_ble_eq_true rfl⟩) (z_rpre z_nil hK) rfl rfl hl.1 rfl (lv_room (Nat.le_of_ble_eq_true rfl)) dX6_isAtRest_8 ⟨Nat.zero_le _, Nat.zero_le _⟩) ?_
  refine lv_if_eq (tgt := 56) hx hb dX6_isAtRest_11 (by decide) (fun c1 => ?_) (fun c1 => ?_)
  · have hF := zit c1 hF
    refine lv_iconst (v := 0) hx hb dX6_isAtRest_56 (by decide) ?_
    cases hF
    exact z_rz hx hb hr hlk rfl rfl dX6_isAtRest_57
  · have hF := zif c1 hF
    refine lv_aload_n hx hb dX6_isAtRest_14 rfl (lv_at hl 0 rfl) ?_
    refine z_get (ci := 6) (v := .ref (q (13 + 2))) (C := RX6) (T := TX6) (N := 13) hx hb hts inX6 hown hK hP 0 rfl rfl 3 (by decide) (List.mem_of_getElem? (i := 1) rfl) rfl rfl dX6_isAtRest_15 ?_
    refine z_get (ci := 3) (v := .int (((C.2.2.2.2.2.1).1).1 5)) (C := RX3) (T := TX3) (N := 13) hx hb hts inX3 hown hK hP 15 rfl rfl 5 (by decide) (List.mem_of_getElem? (i := 2) rfl) rfl rfl dX6_isAtRest_18 ?_
    refine lv_iload_n hx hb dX6_isAtRest_21 rfl (lv_at hl 2 rfl) ?_
    refine z_rgo (va_runS (As := [.int (((C.2.2.2.2.2.1).1).1 5), .int x2]) (rest := []) ⟨hx, hb, hml, hown, hts⟩ (c6_has l g   (((C.2.2.2.2.2.1).1).1 5) x2) (va_cwS 2 hts gX6_isAtRest_X6_has rfl rfl rfl (by decide +kernel) ⟨Nat.le_of_ble_eq_true rfl, Nat.le_of_ble_eq_true rfl⟩) (z_rpre z_nil hK) rfl rfl hl.1 rfl (lv_room (Nat.le_of_ble_eq_true rfl)) dX6_isAtRest_22 ⟨Nat.zero_le _, Nat.zero_le _⟩) ?_
    refine lv_if_eq (tgt := 56) hx hb dX6_isAtRest_25 (by decide) (fun c2 => ?_) (fun c2 => ?_)
    · have hF := zit c2 hF
      refine lv_iconst (v := 0) hx hb dX6_isAtRest_56 (by decide) ?_
      cases hF
      exact z_rz hx hb hr hlk rfl rfl dX6_isAtRest_57
    · have hF := zif c2 hF
      refine lv_aload_n hx hb dX6_isAtRest_28 rfl (lv_at hl 0 rfl) ?_
      refine lv_iload_n hx hb dX6_isAtRest_29 rfl (lv_at hl 1 rfl) ?_
      refine lv_iload_n hx hb dX6_isAtRest_30 rfl (lv_at hl 2 rfl) ?_
      refine lv_iload_n hx hb dX6_isAtRest_31 rfl (lv_at hl 3 rfl) ?_
      refine lv_iload hx hb dX6_isAtRest_32 (lv_at hl 4 rfl) ?_
      obtain ⟨v3, hv3, hF⟩ := zob hF
      refine z_rgo (va_runV (As := [.int x1, .int x2, .int x3, .int x4]) (rest := []) ⟨hx, hb, hml, hown, hts⟩ (c6_isBest l g q C x1 x2 x3 x4 v3 hv3) (cwV 4 hts gX6_isAtRest_X6_isBest rfl rfl rfl (by decide +kernel) ⟨Nat.le_of_ble_eq_true rfl, Nat.le_of_ble_eq_true rfl⟩) (z_rpreV (ci := 6) (q := (RX6, TX6, 13)) (q0 := 0) hP hK rfl rfl) rfl rfl hl.1 rfl (lv_room (Nat.le_of_ble_eq_true rfl)) dX6_isAtRest_34 ⟨Nat.zero_le _, Nat.zero_le _⟩) ?_
      refine lv_if_eq (tgt := 56) hx hb dX6_isAtRest_37 (by decide) (fun c4 => ?_) (fun c4 => ?_)
      · have hF := zit c4 hF
        refine lv_iconst (v := 0) hx hb dX6_isAtRest_56 (by decide) ?_
        cases hF
        exact z_rz hx hb hr hlk rfl rfl dX6_isAtRest_57
      · have hF := zif c4 hF
        refine lv_aload_n hx hb dX6_isAtRest_40 rfl (lv_at hl 0 rfl) ?_
        refine lv_iload_n hx hb dX6_isAtRest_41 rfl (lv_at hl 2 rfl) ?_
        refine lv_iload_n hx hb dX6_isAtRest_42 rfl (lv_at hl 1 rfl) ?_
        refine lv_iload hx hb dX6_isAtRest_43 (lv_at hl 4 rfl) ?_
        refine lv_iload_n hx hb dX6_isAtRest_45 rfl (lv_at hl 3 rfl) ?_
        obtain ⟨v5, hv5, hF⟩ := zob hF
        refine z_rgo (va_runV (As := [.int x2, .int x1, .int x4, .int x3]) (rest := []) ⟨hx, hb, hml, hown, hts⟩ (c6_isBest l g q C x2 x1 x4 x3 v5 hv5) (cwV 4 hts gX6_isAtRest_X6_isBest rfl rfl rfl (by decide +kernel) ⟨Nat.le_of_ble_eq_true rfl, Nat.le_of_ble_eq_true rfl⟩) (z_rpreV (ci := 6) (q := (RX6, TX6, 13)) (q0 := 0) hP hK rfl rfl) rfl rfl hl.1 rfl (lv_room (Nat.le_of_ble_eq_true rfl)) dX6_isAtRest_46 ⟨Nat.zero_le _, Nat.zero_le _⟩) ?_
        refine lv_if_eq (tgt := 56) hx hb dX6_isAtRest_49 (by decide) (fun c6 => ?_) (fun c6 => ?_)
        · have hF := zit c6 hF
          refine lv_iconst (v := 0) hx hb dX6_isAtRest_56 (by decide) ?_
          cases hF
          exact z_rz hx hb hr hlk rfl rfl dX6_isAtRest_57
        · have hF := zif c6 hF
          refine lv_iconst (v := 1) hx hb dX6_isAtRest_52 (by decide) ?_
          refine lv_goto (tgt := 57) hx hb dX6_isAtRest_53 (by decide) ?_
          cases hF
          exact z_rz hx hb hr hlk rfl rfl dX6_isAtRest_57
def f6_isNoPipe (C : Cs) (x1 : Int32) : Int32 := if x1 < 0 then 1 else if x1 < (((C.2.2.2.2.2.1).1).1 3) then 0 else 1
abbrev rmX6_isNoPipe : Room := { frames := 0, cells := 0, slots := 0, locals := 0 }
set_option maxHeartbeats 4000000 in
set_option maxRecDepth 100000 in
theorem c6_isNoPipe (l : Launch) (g : zG) (q : Nat → Nat) (C : Cs) (x1 : Int32) : zRO l g yX6_isNoPipe wsX6_isNoPipe rmX6_isNoPipe [.ref (q 0), .int x1] (CW g q C) (some (.int (f6_isNoPipe C x1))) := by
  obtain ⟨ro, hF⟩ : ∃ y : Int32, f6_isNoPipe C x1 = y := ⟨_, rfl⟩
  rw [hF]
  refine zRO_of (cc := cX6_isNoPipe) (maxL := 2) (ret := (some .boolean)) (by decide) rfl (Nat.le_of_ble_eq_true rfl) ?_
  intro p e s m args below meth c ls hx hb hr hml hts hown hlk hK hP hl
  have hown : s.vm.findClass RX6 = some m.cls := hown
  have hl : lv_has ls 2 [(0, .ref (q 0)), (1, .int x1)] := hl
  have inX3 : ∀ w ∈ wsX30, w ∈ wsX6_isNoPipe := fun _ h => List.mem_cons_of_mem _ (List.mem_append_right _ h)
  have inX6 : ∀ w ∈ wsX60, w ∈ wsX6_isNoPipe := fun _ h => List.mem_cons_of_mem _ (List.mem_append_left _ (List.mem_append_right _ h))
  unfold f6_isNoPipe at hF
  refine lv_iload_n hx hb dX6_isNoPipe_0 rfl (lv_at hl 1 rfl) ?_
  refine lv_if_lt (tgt := 15) hx hb dX6_isNoPipe_1 (by decide) (fun c1 => ?_) (fun c1 => ?_)
  · have hF := zit c1 hF
    refine lv_iconst (v := 1) hx hb dX6_isNoPipe_15 (by decide) ?_
    refine lv_goto (tgt := 20) hx hb dX6_isNoPipe_16 (by decide) ?_
    subst hF
    exact z_rz hx hb hr hlk rfl rfl dX6_isNoPipe_20
  · have hF := zif c1 hF
    refine lv_iload_n hx hb dX6_isNoPipe_4 rfl (lv_at hl 1 rfl) ?_
    refine lv_aload_n hx hb dX6_isNoPipe_5 rfl (lv_at hl 0 rfl) ?_
    refine z_get (ci := 6) (v := .ref (q (13 + 2))) (C := RX6) (T := TX6) (N := 13) hx hb hts inX6 hown hK hP 0 rfl rfl 3 (by decide) (List.mem_of_getElem? (i := 1) rfl) rfl rfl dX6_isNoPipe_6 ?_
    refine z_get (ci := 3) (v := .int (((C.2.2.2.2.2.1).1).1 3)) (C := RX3) (T := TX3) (N := 13) hx hb hts inX3 hown hK hP 15 rfl rfl 3 (by decide) (List.mem_of_getElem? (i := 2) rfl) rfl rfl dX6_isNoPipe_9 ?_
    refine lv_icmp_lt (tgt := 19) hx hb dX6_isNoPipe_12 (by decide) (fun c2 => ?_) (fun c2 => ?_)
    · have hF := zit c2 hF
      refine lv_iconst (v := 0) hx hb dX6_isNoPipe_19 (by decide) ?_
      subst hF
      exact z_rz hx hb hr hlk rfl rfl dX6_isNoPipe_20
    · have hF := zif c2 hF
      refine lv_iconst (v := 1) hx hb dX6_isNoPipe_15 (by decide) ?_
      refine lv_goto (tgt := 20) hx hb dX6_isNoPipe_16 (by decide) ?_
      subst hF
      exact z_rz hx hb hr hlk rfl rfl dX6_isNoPipe_20
theorem b6_isNoPipe (C : Cs) (x1 : Int32) : narrow .boolean (.int (f6_isNoPipe C x1)) = .int (f6_isNoPipe C x1) := by
  unfold f6_isNoPipe
  repeat' split
  all_goals first | rfl | exact rfl
def f6_isTried_j55 (x1 : Int32) (x2 : Int32) (C1 : Cs) : Option (Int32 × Cs) := if (f6_isNoPipe C1 x2) = 0 then bd (α := Int32) (if x1 = 1 then 1 else 0) (fun (v3 : Int32) => if (f6_has ((C1.1 1).1 6) x2) = v3 then (f2_turnPipe (C1.1 1) x2).bind fun M6 => bd (cM C1 1 M6) (fun (C7 : Cs) => some (1, C7)) else some (0, C1)) else some (0, C1)
def f6_isTried (C : Cs) (x1 : Int32) (x2 : Int32) : Option (Int32 × Cs) := if x1 = 0 then if x2 = 0 then (f2_advance (C.1 1) ((C.2.2.2.2.2.1).1)).bind fun M10 => bd (cM C 1 M10) (fun (C11 : Cs) => some (1, C11)) else some (0, C) else if x1 = 1 then f6_isTried_j55 x1 x2 C else if x1 = 2 then f6_isTried_j55 x1 x2 C else if x1 = 3 then if (f6_isNoJoint C x2) = 0 then if (f6_has (((C.2.2.2.2.2.1).1).1 5) x2) = 0 then some (0, C) else (f2_turnLid (C.1 1) x2).bind fun M17 => bd (cM C 1 M17) (fun (C18 : Cs) => some (1, C18)) else some (0, C) else if x1 = 4 then if (f6_isNoWalker C x2) = 0 then if (f6_has ((C.1 1).1 5) x2) = 0 then (f2_callBack (C.1 1) x2).bind fun M22 => bd (cM C 1 M22) (fun (C23 : Cs) => some (1, C23)) else some (0, C) else some (0, C) else some (0, C)
abbrev rmX6_isTried : Room := { frames := 5, cells := 0, slots := 0, locals := 118 }
set_option maxHeartbeats 4000000 in
set_option maxRecDepth 100000 in
theorem c6_isTried (l : Launch) (g : zG) (q : Nat → Nat) (C : Cs) (x1 : Int32) (x2 : Int32) (ro : Int32) (C_o : Cs) (hF : f6_isTried C x1 x2 = some (ro, C_o)) : zRW l g yX6_isTried wsX6_isTried rmX6_isTried [.ref (q 0), .int x1, .int x2] (CW g q C) (some (.int ro)) (CW g q C_o) := by
  refine zRW_of (cc := cX6_isTried) (maxL := 3) (ret := (some .boolean)) (by decide) rfl (Nat.le_of_ble_eq_true rfl) ?_
  intro p e s m args below meth c A H locs ls hx hb hr hml hts hown hlk hK hA hP hD hS hl
  have hown : s.vm.findClass RX6 = some m.cls := hown
  have hl : lv_has ls 3 [(0, .ref (q 0)), (1, .int x1), (2, .int x2)] := hl
  have inX2 : ∀ w ∈ wsX20, w ∈ wsX6_isTried := fun _ h => List.mem_cons_of_mem _ (List.mem_append_left _ (List.mem_append_right _ h))
  have inX3 : ∀ w ∈ wsX30, w ∈ wsX6_isTried := fun _ h => List.mem_cons_of_mem _ (List.mem_append_right _ h)
  have inX6 : ∀ w ∈ wsX60, w ∈ wsX6_isTried := fun _ h => List.mem_cons_of_mem _ (List.mem_append_left _ (List.mem_append_left _ (List.mem_append_right _ h)))
  unfold f6_isTried at hF
  refine lv_iload_n hx hb dX6_isTried_0 rfl (lv_at hl 1 rfl) ?_
  have L55 : ∀ (C1 : Cs) (H : Heap) (locs : List Loc) (ls : Array Slot), f6_isTried_j55 x1 x2 C1 = some (ro, C_o) → va_P (zD g) vwCl (CW g q C1) H → va_D A (CW g q C1) → va_S A s.heap H locs → lv_has ls 3 [(0, .ref (q 0)), (1, .int x1), (2, .int x2)] → W p l e (headSpec wsX6_isTried rmX6_isTried).room s m args below meth c H locs 0 0 (MQ below (zWQ g A (CW g q C_o) (some (.int ro))) args s 0 0 A) (F0 m 55 ls []) := by
    intro C1 H locs ls hF hP hD hS hl
    unfold f6_isTried_j55 at hF
    refine lv_aload_n hx hb dX6_isTried_55 rfl (lv_at hl 0 rfl) ?_
    refine lv_iload_n hx hb dX6_isTried_56 rfl (lv_at hl 2 rfl) ?_
    refine z_rgo (va_runV (As := [.int x2]) (rest := []) ⟨hx, hb, hml, hown, hts⟩ (c6_isNoPipe l g q C1 x2) (cwV 1 hts gX6_isTried_X6_isNoPipe rfl rfl rfl (by decide +kernel) ⟨Nat.le_of_ble_eq_true rfl, Nat.le_of_ble_eq_true rfl⟩) (z_rpreV (ci := 6) (q := (RX6, TX6, 13)) (q0 := 0) hP hK rfl rfl) rfl rfl hl.1 rfl (lv_room (Nat.le_of_ble_eq_true rfl)) dX6_isTried_57 ⟨Nat.zero_le _, Nat.zero_le _⟩) ?_
    refine lv_if_ne (tgt := 87) hx hb dX6_isTried_60 (by decide) (fun c2 => ?_) (fun c2 => ?_)
    · have hF := zif c2 hF
      refine lv_iconst (v := 0) hx hb dX6_isTried_87 (by decide) ?_
      cases hF
      exact z_wz hx hb hr hlk rfl hP hD hS rfl rfl dX6_isTried_88
    · have hF := zit c2 hF
      refine lv_aload_n hx hb dX6_isTried_63 rfl (lv_at hl 0 rfl) ?_
      refine z_get (ci := 6) (v := .ref (q 28)) (C := RX6) (T := TX6) (N := 13) hx hb hts inX6 hown hK hP 0 rfl rfl 5 (by decide) (List.mem_of_getElem? (i := 1) rfl) rfl rfl dX6_isTried_64 ?_
      refine z_get (ci := 2) (v := .int ((C1.1 1).1 6)) (C := RX2) (T := TX2) (N := 9) hx hb hts inX2 hown hK hP 28 rfl rfl 6 (by decide) (List.mem_of_getElem? (i := 3) rfl) rfl rfl dX6_isTried_67 ?_
      refine lv_iload_n hx hb dX6_isTried_70 rfl (lv_at hl 2 rfl) ?_
      refine z_rgo (va_runS (As := [.int ((C1.1 1).1 6), .int x2]) (rest := []) ⟨hx, hb, hml, hown, hts⟩ (c6_has l g   ((C1.1 1).1 6) x2) (va_cwS 2 hts gX6_isTried_X6_has rfl rfl rfl (by decide +kernel) ⟨Nat.le_of_ble_eq_true rfl, Nat.le_of_ble_eq_true rfl⟩) (z_rpre z_nil hK) rfl rfl hl.1 rfl (lv_room (Nat.le_of_ble_eq_true rfl)) dX6_isTried_71 ⟨Nat.zero_le _, Nat.zero_le _⟩) ?_
      refine lv_iload_n hx hb dX6_isTried_74 rfl (lv_at hl 1 rfl) ?_
      refine lv_iconst (v := 1) hx hb dX6_isTried_75 (by decide) ?_
      obtain ⟨v3, hVv3⟩ : ∃ y : Int32, (if x1 = 1 then 1 else 0 : Int32) = y := ⟨_, rfl⟩
      have hF := bd_eq hVv3.symm hF
      have Jv3 : W p l e (headSpec wsX6_isTried rmX6_isTried).room s m args below meth c H locs 0 0 (MQ below (zWQ g A (CW g q C_o) (some (.int ro))) args s 0 0 A) (F0 m 84 ls [.int v3, .int (f6_has ((C1.1 1).1 6) x2)]) := by
        refine lv_icmp_eq (tgt := 89) hx hb dX6_isTried_84 (by decide) (fun c5 => ?_) (fun c5 => ?_)
        · have hF := zit c5 hF
          refine lv_aload_n hx hb dX6_isTried_89 rfl (lv_at hl 0 rfl) ?_
          refine z_get (ci := 6) (v := .ref (q 28)) (C := RX6) (T := TX6) (N := 13) hx hb hts inX6 hown hK hP 0 rfl rfl 5 (by decide) (List.mem_of_getElem? (i := 1) rfl) rfl rfl dX6_isTried_90 ?_
          refine lv_iload_n hx hb dX6_isTried_93 rfl (lv_at hl 2 rfl) ?_
          obtain ⟨M6, hM6, hF⟩ := zob hF
          refine z_wgo (wn := CW g q (cM C1 1 M6)) (va_runV (As := [.int x2]) (rest := []) ⟨hx, hb, hml, hown, hts⟩ ((c2_turnPipe l g q 28 (C1.1 1) x2  M6 hM6) H.size) (cwV 1 hts gX6_isTried_X2_turnPipe rfl rfl rfl (by decide +kernel) ⟨Nat.le_of_ble_eq_true rfl, Nat.le_of_ble_eq_true rfl⟩) (z_wpreV (ci := 2) (q := (RX2, TX2, 9)) (q0 := 0) (hP.sub (ws' := OW g q 28 (C1.1 1)) [28, 29, 30, 31, 32] rfl) hK (z_any (hD.sub (ws' := OW g q 28 (C1.1 1)) [28, 29, 30, 31, 32] (by decide) rfl)) rfl rfl) rfl rfl hl.1 rfl (lv_room (Nat.le_of_ble_eq_true rfl)) dX6_isTried_94 ⟨Nat.zero_le _, Nat.zero_le _⟩) hP hD hS hA [28, 29, 30, 31, 32] rfl (by decide) rfl rfl (fun H locs hP hD hS => ?_)
          show W p l e (headSpec wsX6_isTried rmX6_isTried).room s m args below meth c H locs 0 0 (MQ below (zWQ g A (CW g q C_o) (some (.int ro))) args s 0 0 A) (F0 m 97 ls [])
          obtain ⟨C7, eC7⟩ : ∃ y : Cs, y = (cM C1 1 M6) := ⟨_, rfl⟩
          rw [← eC7] at hP hD
          have hF := bd_eq eC7 hF
          refine lv_iconst (v := 1) hx hb dX6_isTried_97 (by decide) ?_
          cases hF
          exact z_wz hx hb hr hlk rfl hP hD hS rfl rfl dX6_isTried_98
        · have hF := zif c5 hF
          refine lv_iconst (v := 0) hx hb dX6_isTried_87 (by decide) ?_
          cases hF
          exact z_wz hx hb hr hlk rfl hP hD hS rfl rfl dX6_isTried_88
      refine lv_icmp_ne (tgt := 83) hx hb dX6_isTried_76 (by decide) (fun c4 => ?_) (fun c4 => ?_)
      · have hVv3 := zif c4 hVv3
        refine lv_iconst (v := 0) hx hb dX6_isTried_83 (by decide) ?_
        subst hVv3
        exact Jv3
      · have hVv3 := zit c4 hVv3
        refine lv_iconst (v := 1) hx hb dX6_isTried_79 (by decide) ?_
        refine lv_goto (tgt := 84) hx hb dX6_isTried_80 (by decide) ?_
        subst hVv3
        exact Jv3
  by_cases c8 : x1 = 0
  · have hF := zit c8 hF
    refine z_tin (k := 0) (tgt := 36) hx hb dX6_isTried_1 c8 ⟨by decide, by decide, rfl, by decide⟩ ?_
    refine lv_iload_n hx hb dX6_isTried_36 rfl (lv_at hl 2 rfl) ?_
    refine lv_if_eq (tgt := 42) hx hb dX6_isTried_37 (by decide) (fun c9 => ?_) (fun c9 => ?_)
    · have hF := zit c9 hF
      refine lv_aload_n hx hb dX6_isTried_42 rfl (lv_at hl 0 rfl) ?_
      refine z_get (ci := 6) (v := .ref (q 28)) (C := RX6) (T := TX6) (N := 13) hx hb hts inX6 hown hK hP 0 rfl rfl 5 (by decide) (List.mem_of_getElem? (i := 1) rfl) rfl rfl dX6_isTried_43 ?_
      refine lv_aload_n hx hb dX6_isTried_46 rfl (lv_at hl 0 rfl) ?_
      refine z_get (ci := 6) (v := .ref (q (13 + 2))) (C := RX6) (T := TX6) (N := 13) hx hb hts inX6 hown hK hP 0 rfl rfl 3 (by decide) (List.mem_of_getElem? (i := 2) rfl) rfl rfl dX6_isTried_47 ?_
      obtain ⟨M10, hM10, hF⟩ := zob hF
      refine z_wgo (wn := CW g q (cM C 1 M10)) (va_runV (As := [.ref (q (13 + 2))]) (rest := []) ⟨hx, hb, hml, hown, hts⟩ ((c2_advance l g q 28 q (13 + 2) (C.1 1) ((C.2.2.2.2.2.1).1)   M10 hM10) H.size) (cwV 1 hts gX6_isTried_X2_advance rfl rfl rfl (by decide +kernel) ⟨Nat.le_of_ble_eq_true rfl, Nat.le_of_ble_eq_true rfl⟩) (z_wpreV (ci := 2) (q := (RX2, TX2, 9)) (q0 := 0) (hP.sub (ws' := (OW g q 28 (C.1 1) ++ NW g q (13 + 2) ((C.2.2.2.2.2.1).1))) [28, 29, 30, 31, 32, 15, 16, 17, 18, 19, 20, 21, 22] rfl) hK (z_any (hD.sub (ws' := (OW g q 28 (C.1 1) ++ NW g q (13 + 2) ((C.2.2.2.2.2.1).1))) [28, 29, 30, 31, 32, 15, 16, 17, 18, 19, 20, 21, 22] (by decide) rfl)) rfl rfl) rfl rfl hl.1 rfl (lv_room (Nat.le_of_ble_eq_true rfl)) dX6_isTried_50 ⟨Nat.zero_le _, Nat.zero_le _⟩) hP hD hS hA [28, 29, 30, 31, 32, 15, 16, 17, 18, 19, 20, 21, 22] rfl (by decide) rfl rfl (fun H locs hP hD hS => ?_)
      show W p l e (headSpec wsX6_isTried rmX6_isTried).room s m args below meth c H locs 0 0 (MQ below (zWQ g A (CW g q C_o) (some (.int ro))) args s 0 0 A) (F0 m 53 ls [])
      obtain ⟨C11, eC11⟩ : ∃ y : Cs, y = (cM C 1 M10) := ⟨_, rfl⟩
      rw [← eC11] at hP hD
      have hF := bd_eq eC11 hF
      refine lv_iconst (v := 1) hx hb dX6_isTried_53 (by decide) ?_
      cases hF
      exact z_wz hx hb hr hlk rfl hP hD hS rfl rfl dX6_isTried_54
    · have hF := zif c9 hF
      refine lv_iconst (v := 0) hx hb dX6_isTried_40 (by decide) ?_
      cases hF
      exact z_wz hx hb hr hlk rfl hP hD hS rfl rfl dX6_isTried_41
  · have hF := zif c8 hF
    by_cases c12 : x1 = 1
    · have hF := zit c12 hF
      refine z_tin (k := 1) (tgt := 55) hx hb dX6_isTried_1 c12 ⟨by decide, by decide, rfl, by decide⟩ ?_
      exact L55 C H locs ls hF hP hD hS (lv_sub hl [0, 1, 2] rfl)
    · have hF := zif c12 hF
      by_cases c13 : x1 = 2
      · have hF := zit c13 hF
        refine z_tin (k := 2) (tgt := 55) hx hb dX6_isTried_1 c13 ⟨by decide, by decide, rfl, by decide⟩ ?_
        exact L55 C H locs ls hF hP hD hS (lv_sub hl [0, 1, 2] rfl)
      · have hF := zif c13 hF
        by_cases c14 : x1 = 3
        · have hF := zit c14 hF
          refine z_tin (k := 3) (tgt := 99) hx hb dX6_isTried_1 c14 ⟨by decide, by decide, rfl, by decide⟩ ?_
          refine lv_aload_n hx hb dX6_isTried_99 rfl (lv_at hl 0 rfl) ?_
          refine lv_iload_n hx hb dX6_isTried_100 rfl (lv_at hl 2 rfl) ?_
          refine z_rgo (va_runV (As := [.int x2]) (rest := []) ⟨hx, hb, hml, hown, hts⟩ (c6_isNoJoint l g q C x2) (cwV 1 hts gX6_isTried_X6_isNoJoint rfl rfl rfl (by decide +kernel) ⟨Nat.le_of_ble_eq_true rfl, Nat.le_of_ble_eq_true rfl⟩) (z_rpreV (ci := 6) (q := (RX6, TX6, 13)) (q0 := 0) hP hK rfl rfl) rfl rfl hl.1 rfl (lv_room (Nat.le_of_ble_eq_true rfl)) dX6_isTried_101 ⟨Nat.zero_le _, Nat.zero_le _⟩) ?_
          refine lv_if_ne (tgt := 121) hx hb dX6_isTried_104 (by decide) (fun c15 => ?_) (fun c15 => ?_)
          · have hF := zif c15 hF
            refine lv_iconst (v := 0) hx hb dX6_isTried_121 (by decide) ?_
            cases hF
            exact z_wz hx hb hr hlk rfl hP hD hS rfl rfl dX6_isTried_122
          · have hF := zit c15 hF
            refine lv_aload_n hx hb dX6_isTried_107 rfl (lv_at hl 0 rfl) ?_
            refine z_get (ci := 6) (v := .ref (q (13 + 2))) (C := RX6) (T := TX6) (N := 13) hx hb hts inX6 hown hK hP 0 rfl rfl 3 (by decide) (List.mem_of_getElem? (i := 2) rfl) rfl rfl dX6_isTried_108 ?_
            refine z_get (ci := 3) (v := .int (((C.2.2.2.2.2.1).1).1 5)) (C := RX3) (T := TX3) (N := 13) hx hb hts inX3 hown hK hP 15 rfl rfl 5 (by decide) (List.mem_of_getElem? (i := 4) rfl) rfl rfl dX6_isTried_111 ?_
            refine lv_iload_n hx hb dX6_isTried_114 rfl (lv_at hl 2 rfl) ?_
            refine z_rgo (va_runS (As := [.int (((C.2.2.2.2.2.1).1).1 5), .int x2]) (rest := []) ⟨hx, hb, hml, hown, hts⟩ (c6_has l g   (((C.2.2.2.2.2.1).1).1 5) x2) (va_cwS 2 hts gX6_isTried_X6_has rfl rfl rfl (by decide +kernel) ⟨Nat.le_of_ble_eq_true rfl, Nat.le_of_ble_eq_true rfl⟩) (z_rpre z_nil hK) rfl rfl hl.1 rfl (lv_room (Nat.le_of_ble_eq_true rfl)) dX6_isTried_115 ⟨Nat.zero_le _, Nat.zero_le _⟩) ?_
            refine lv_if_ne (tgt := 123) hx hb dX6_isTried_118 (by decide) (fun c16 => ?_) (fun c16 => ?_)
            · have hF := zif c16 hF
              refine lv_aload_n hx hb dX6_isTried_123 rfl (lv_at hl 0 rfl) ?_
              refine z_get (ci := 6) (v := .ref (q 28)) (C := RX6) (T := TX6) (N := 13) hx hb hts inX6 hown hK hP 0 rfl rfl 5 (by decide) (List.mem_of_getElem? (i := 1) rfl) rfl rfl dX6_isTried_124 ?_
              refine lv_iload_n hx hb dX6_isTried_127 rfl (lv_at hl 2 rfl) ?_
              obtain ⟨M17, hM17, hF⟩ := zob hF
              refine z_wgo (wn := CW g q (cM C 1 M17)) (va_runV (As := [.int x2]) (rest := []) ⟨hx, hb, hml, hown, hts⟩ ((c2_turnLid l g q 28 (C.1 1) x2  M17 hM17) H.size) (cwV 1 hts gX6_isTried_X2_turnLid rfl rfl rfl (by decide +kernel) ⟨Nat.le_of_ble_eq_true rfl, Nat.le_of_ble_eq_true rfl⟩) (z_wpreV (ci := 2) (q := (RX2, TX2, 9)) (q0 := 0) (hP.sub (ws' := OW g q 28 (C.1 1)) [28, 29, 30, 31, 32] rfl) hK (z_any (hD.sub (ws' := OW g q 28 (C.1 1)) [28, 29, 30, 31, 32] (by decide) rfl)) rfl rfl) rfl rfl hl.1 rfl (lv_room (Nat.le_of_ble_eq_true rfl)) dX6_isTried_128 ⟨Nat.zero_le _, Nat.zero_le _⟩) hP hD hS hA [28, 29, 30, 31, 32] rfl (by decide) rfl rfl (fun H locs hP hD hS => ?_)
              show W p l e (headSpec wsX6_isTried rmX6_isTried).room s m args below meth c H locs 0 0 (MQ below (zWQ g A (CW g q C_o) (some (.int ro))) args s 0 0 A) (F0 m 131 ls [])
              obtain ⟨C18, eC18⟩ : ∃ y : Cs, y = (cM C 1 M17) := ⟨_, rfl⟩
              rw [← eC18] at hP hD
              have hF := bd_eq eC18 hF
              refine lv_iconst (v := 1) hx hb dX6_isTried_131 (by decide) ?_
              cases hF
              exact z_wz hx hb hr hlk rfl hP hD hS rfl rfl dX6_isTried_132
            · have hF := zit c16 hF
              refine lv_iconst (v := 0) hx hb dX6_isTried_121 (by decide) ?_
              cases hF
              exact z_wz hx hb hr hlk rfl hP hD hS rfl rfl dX6_isTried_122
        · have hF := zif c14 hF
          by_cases c19 : x1 = 4
          · have hF := zit c19 hF
            refine z_tin (k := 4) (tgt := 133) hx hb dX6_isTried_1 c19 ⟨by decide, by decide, rfl, by decide⟩ ?_
            refine lv_aload_n hx hb dX6_isTried_133 rfl (lv_at hl 0 rfl) ?_
            refine lv_iload_n hx hb dX6_isTried_134 rfl (lv_at hl 2 rfl) ?_
            refine z_rgo (va_runV (As := [.int x2]) (rest := []) ⟨hx, hb, hml, hown, hts⟩ (c6_isNoWalker l g q C x2) (cwV 1 hts gX6_isTried_X6_isNoWalker rfl rfl rfl (by decide +kernel) ⟨Nat.le_of_ble_eq_true rfl, Nat.le_of_ble_eq_true rfl⟩) (z_rpreV (ci := 6) (q := (RX6, TX6, 13)) (q0 := 0) hP hK rfl rfl) rfl rfl hl.1 rfl (lv_room (Nat.le_of_ble_eq_true rfl)) dX6_isTried_135 ⟨Nat.zero_le _, Nat.zero_le _⟩) ?_
            refine lv_if_ne (tgt := 155) hx hb dX6_isTried_138 (by decide) (fun c20 => ?_) (fun c20 => ?_)
            · have hF := zif c20 hF
              refine lv_iconst (v := 0) hx hb dX6_isTried_155 (by decide) ?_
              cases hF
              exact z_wz hx hb hr hlk rfl hP hD hS rfl rfl dX6_isTried_156
            · have hF := zit c20 hF
              refine lv_aload_n hx hb dX6_isTried_141 rfl (lv_at hl 0 rfl) ?_
              refine z_get (ci := 6) (v := .ref (q 28)) (C := RX6) (T := TX6) (N := 13) hx hb hts inX6 hown hK hP 0 rfl rfl 5 (by decide) (List.mem_of_getElem? (i := 1) rfl) rfl rfl dX6_isTried_142 ?_
              refine z_get (ci := 2) (v := .int ((C.1 1).1 5)) (C := RX2) (T := TX2) (N := 9) hx hb hts inX2 hown hK hP 28 rfl rfl 5 (by decide) (List.mem_of_getElem? (i := 5) rfl) rfl rfl dX6_isTried_145 ?_
              refine lv_iload_n hx hb dX6_isTried_148 rfl (lv_at hl 2 rfl) ?_
              refine z_rgo (va_runS (As := [.int ((C.1 1).1 5), .int x2]) (rest := []) ⟨hx, hb, hml, hown, hts⟩ (c6_has l g   ((C.1 1).1 5) x2) (va_cwS 2 hts gX6_isTried_X6_has rfl rfl rfl (by decide +kernel) ⟨Nat.le_of_ble_eq_true rfl, Nat.le_of_ble_eq_true rfl⟩) (z_rpre z_nil hK) rfl rfl hl.1 rfl (lv_room (Nat.le_of_ble_eq_true rfl)) dX6_isTried_149 ⟨Nat.zero_le _, Nat.zero_le _⟩) ?_
              refine lv_if_eq (tgt := 157) hx hb dX6_isTried_152 (by decide) (fun c21 => ?_) (fun c21 => ?_)
              · have hF := zit c21 hF
                refine lv_aload_n hx hb dX6_isTried_157 rfl (lv_at hl 0 rfl) ?_
                refine z_get (ci := 6) (v := .ref (q 28)) (C := RX6) (T := TX6) (N := 13) hx hb hts inX6 hown hK hP 0 rfl rfl 5 (by decide) (List.mem_of_getElem? (i := 1) rfl) rfl rfl dX6_isTried_158 ?_
                refine lv_iload_n hx hb dX6_isTried_161 rfl (lv_at hl 2 rfl) ?_
                obtain ⟨M22, hM22, hF⟩ := zob hF
                refine z_wgo (wn := CW g q (cM C 1 M22)) (va_runV (As := [.int x2]) (rest := []) ⟨hx, hb, hml, hown, hts⟩ ((c2_callBack l g q 28 (C.1 1) x2  M22 hM22) H.size) (cwV 1 hts gX6_isTried_X2_callBack rfl rfl rfl (by decide +kernel) ⟨Nat.le_of_ble_eq_true rfl, Nat.le_of_ble_eq_true rfl⟩) (z_wpreV (ci := 2) (q := (RX2, TX2, 9)) (q0 := 0) (hP.sub (ws' := OW g q 28 (C.1 1)) [28, 29, 30, 31, 32] rfl) hK (z_any (hD.sub (ws' := OW g q 28 (C.1 1)) [28, 29, 30, 31, 32] (by decide) rfl)) rfl rfl) rfl rfl hl.1 rfl (lv_room (Nat.le_of_ble_eq_true rfl)) dX6_isTried_162 ⟨Nat.zero_le _, Nat.zero_le _⟩) hP hD hS hA [28, 29, 30, 31, 32] rfl (by decide) rfl rfl (fun H locs hP hD hS => ?_)
                show W p l e (headSpec wsX6_isTried rmX6_isTried).room s m args below meth c H locs 0 0 (MQ below (zWQ g A (CW g q C_o) (some (.int ro))) args s 0 0 A) (F0 m 165 ls [])
                obtain ⟨C23, eC23⟩ : ∃ y : Cs, y = (cM C 1 M22) := ⟨_, rfl⟩
                rw [← eC23] at hP hD
                have hF := bd_eq eC23 hF
                refine lv_iconst (v := 1) hx hb dX6_isTried_165 (by decide) ?_
                cases hF
                exact z_wz hx hb hr hlk rfl hP hD hS rfl rfl dX6_isTried_166
              · have hF := zif c21 hF
                refine lv_iconst (v := 0) hx hb dX6_isTried_155 (by decide) ?_
                cases hF
                exact z_wz hx hb hr hlk rfl hP hD hS rfl rfl dX6_isTried_156
          · have hF := zif c19 hF
            refine z_tout hx hb dX6_isTried_1 [0, 1, 2, 3, 4] (fun k hk => ?_) rfl (tgt := 167) (by decide) ?_
            · simp only [List.mem_cons, List.not_mem_nil, or_false] at hk
              rcases hk with rfl | rfl | rfl | rfl | rfl <;> assumption
            · refine lv_iconst (v := 0) hx hb dX6_isTried_167 (by decide) ?_
              cases hF
              exact z_wz hx hb hr hlk rfl hP hD hS rfl rfl dX6_isTried_168
def f6_joint (C : Cs) (x1 : Int32) (x2 : Int32) : Option (Int32) := if (f6_isNoJoint C x1) = 0 then if x2 = 0 then some (f6_cell 6 (((C.2.2.2.2.2.1).1).2 6) x1) else if x2 = 1 then some (f6_flag (f6_has (((C.2.2.2.2.2.1).1).1 5) x1)) else if x2 = 2 then some (f6_flag (f6_has ((C.1 0).1 7) x1)) else if x2 = 3 then (f3_under ((C.2.2.2.2.2.1).1) (f3_tide ((C.2.2.2.2.2.1).1) ((C.1 0).1 8))).bind fun v6 => some (f6_flag (f6_has v6 x1)) else if x2 = 4 then (f3_beside ((C.2.2.2.2.2.1).1) x1 ((C.1 0).1 6)).bind fun v8 => some v8 else some (-2) else some (-1)
abbrev rmX6_joint : Room := { frames := 2, cells := 0, slots := 0, locals := 47 }
set_option maxHeartbeats 4000000 in
set_option maxRecDepth 100000 in
theorem c6_joint (l : Launch) (g : zG) (q : Nat → Nat) (C : Cs) (x1 : Int32) (x2 : Int32) (ro : Int32) (hF : f6_joint C x1 x2 = some ro) : zRO l g yX6_joint wsX6_joint rmX6_joint [.ref (q 0), .int x1, .int x2] (CW g q C) (some (.int ro)) := by
  refine zRO_of (cc := cX6_joint) (maxL := 3) (ret := (some .int)) (by decide) rfl (Nat.le_of_ble_eq_true rfl) ?_
  intro p e s m args below meth c ls hx hb hr hml hts hown hlk hK hP hl
  have hown : s.vm.findClass RX6 = some m.cls := hown
  have hl : lv_has ls 3 [(0, .ref (q 0)), (1, .int x1), (2, .int x2)] := hl
  have inX2 : ∀ w ∈ wsX20, w ∈ wsX6_joint := fun _ h => List.mem_cons_of_mem _ (List.mem_append_right _ h)
  have inX3 : ∀ w ∈ wsX30, w ∈ wsX6_joint := fun _ h => List.mem_cons_of_mem _ (List.mem_append_left _ (List.mem_append_right _ h))
  have inX6 : ∀ w ∈ wsX60, w ∈ wsX6_joint := fun _ h => List.mem_cons_of_mem _ (List.mem_append_left _ (List.mem_append_left _ (List.mem_append_right _ h)))
  unfold f6_joint at hF
  refine lv_aload_n hx hb dX6_joint_0 rfl (lv_at hl 0 rfl) ?_
  refine lv_iload_n hx hb dX6_joint_1 rfl (lv_at hl 1 rfl) ?_
  refine z_rgo (va_runV (As := [.int x1]) (rest := []) ⟨hx, hb, hml, hown, hts⟩ (c6_isNoJoint l g q C x1) (cwV 1 hts gX6_joint_X6_isNoJoint rfl rfl rfl (by decide +kernel) ⟨Nat.le_of_ble_eq_true rfl, Nat.le_of_ble_eq_true rfl⟩) (z_rpreV (ci := 6) (q := (RX6, TX6, 13)) (q0 := 0) hP hK rfl rfl) rfl rfl hl.1 rfl (lv_room (Nat.le_of_ble_eq_true rfl)) dX6_joint_2 ⟨Nat.zero_le _, Nat.zero_le _⟩) ?_
  refine lv_if_eq (tgt := 10) hx hb dX6_joint_5 (by decide) (fun c1 => ?_) (fun c1 => ?_)
  · have hF := zit c1 hF
    refine lv_iload_n hx hb dX6_joint_10 rfl (lv_at hl 2 rfl) ?_
    by_cases c2 : x2 = 0
    · have hF := zit c2 hF
      refine z_tin (k := 0) (tgt := 44) hx hb dX6_joint_11 c2 ⟨by decide, by decide, rfl, by decide⟩ ?_
      refine lv_aload_n hx hb dX6_joint_44 rfl (lv_at hl 0 rfl) ?_
      refine z_get (ci := 6) (v := .ref (q (13 + 2))) (C := RX6) (T := TX6) (N := 13) hx hb hts inX6 hown hK hP 0 rfl rfl 3 (by decide) (List.mem_of_getElem? (i := 1) rfl) rfl rfl dX6_joint_45 ?_
      refine z_get (ci := 3) (v := .ref (q ((13 + 2) + 1))) (C := RX3) (T := TX3) (N := 13) hx hb hts inX3 hown hK hP 15 rfl rfl 6 (by decide) (List.mem_of_getElem? (i := 2) rfl) rfl rfl dX6_joint_48 ?_
      refine lv_iload_n hx hb dX6_joint_51 rfl (lv_at hl 1 rfl) ?_
      refine z_rgo (va_runS (As := [.ref (q ((13 + 2) + 1)), .int x1]) (rest := []) ⟨hx, hb, hml, hown, hts⟩ (c6_cell l g (q ((13 + 2) + 1)) 6 (by decide) (((C.2.2.2.2.2.1).1).2 6) x1) (va_cwS 2 hts gX6_joint_X6_cell rfl rfl rfl (by decide +kernel) ⟨Nat.le_of_ble_eq_true rfl, Nat.le_of_ble_eq_true rfl⟩) (z_rpre (hP.sub (ws' := [((q ((13 + 2) + 1)), .inl (g.2.2.1, 6, .inl (((C.2.2.2.2.2.1).1).2 6)))]) [16] rfl) hK) rfl rfl hl.1 rfl (lv_room (Nat.le_of_ble_eq_true rfl)) dX6_joint_52 ⟨Nat.zero_le _, Nat.zero_le _⟩) ?_
      cases hF
      exact z_ri hx hb hr hlk rfl dX6_joint_55
    · have hF := zif c2 hF
      by_cases c3 : x2 = 1
      · have hF := zit c3 hF
        refine z_tin (k := 1) (tgt := 56) hx hb dX6_joint_11 c3 ⟨by decide, by decide, rfl, by decide⟩ ?_
        refine lv_aload_n hx hb dX6_joint_56 rfl (lv_at hl 0 rfl) ?_
        refine z_get (ci := 6) (v := .ref (q (13 + 2))) (C := RX6) (T := TX6) (N := 13) hx hb hts inX6 hown hK hP 0 rfl rfl 3 (by decide) (List.mem_of_getElem? (i := 1) rfl) rfl rfl dX6_joint_57 ?_
        refine z_get (ci := 3) (v := .int (((C.2.2.2.2.2.1).1).1 5)) (C := RX3) (T := TX3) (N := 13) hx hb hts inX3 hown hK hP 15 rfl rfl 5 (by decide) (List.mem_of_getElem? (i := 3) rfl) rfl rfl dX6_joint_60 ?_
        refine lv_iload_n hx hb dX6_joint_63 rfl (lv_at hl 1 rfl) ?_
        refine z_rgo (va_runS (As := [.int (((C.2.2.2.2.2.1).1).1 5), .int x1]) (rest := []) ⟨hx, hb, hml, hown, hts⟩ (c6_has l g   (((C.2.2.2.2.2.1).1).1 5) x1) (va_cwS 2 hts gX6_joint_X6_has rfl rfl rfl (by decide +kernel) ⟨Nat.le_of_ble_eq_true rfl, Nat.le_of_ble_eq_true rfl⟩) (z_rpre z_nil hK) rfl rfl hl.1 rfl (lv_room (Nat.le_of_ble_eq_true rfl)) dX6_joint_64 ⟨Nat.zero_le _, Nat.zero_le _⟩) ?_
        refine z_rgo (va_runS (As := [.int (f6_has (((C.2.2.2.2.2.1).1).1 5) x1)]) (rest := []) ⟨hx, hb, hml, hown, hts⟩ (c6_flag l g   (f6_has (((C.2.2.2.2.2.1).1).1 5) x1)) (va_cwS 1 hts gX6_joint_X6_flag rfl rfl rfl (by decide +kernel) ⟨Nat.le_of_ble_eq_true rfl, Nat.le_of_ble_eq_true rfl⟩) (z_rpre z_nil hK) rfl rfl hl.1 rfl (lv_room (Nat.le_of_ble_eq_true rfl)) dX6_joint_67 ⟨Nat.zero_le _, Nat.zero_le _⟩) ?_
        cases hF
        exact z_ri hx hb hr hlk rfl dX6_joint_70
      · have hF := zif c3 hF
        by_cases c4 : x2 = 2
        · have hF := zit c4 hF
          refine z_tin (k := 2) (tgt := 71) hx hb dX6_joint_11 c4 ⟨by decide, by decide, rfl, by decide⟩ ?_
          refine lv_aload_n hx hb dX6_joint_71 rfl (lv_at hl 0 rfl) ?_
          refine z_get (ci := 6) (v := .ref (q 23)) (C := RX6) (T := TX6) (N := 13) hx hb hts inX6 hown hK hP 0 rfl rfl 4 (by decide) (List.mem_of_getElem? (i := 4) rfl) rfl rfl dX6_joint_72 ?_
          refine z_get (ci := 2) (v := .int ((C.1 0).1 7)) (C := RX2) (T := TX2) (N := 9) hx hb hts inX2 hown hK hP 23 rfl rfl 7 (by decide) (List.mem_of_getElem? (i := 5) rfl) rfl rfl dX6_joint_75 ?_
          refine lv_iload_n hx hb dX6_joint_78 rfl (lv_at hl 1 rfl) ?_
          refine z_rgo (va_runS (As := [.int ((C.1 0).1 7), .int x1]) (rest := []) ⟨hx, hb, hml, hown, hts⟩ (c6_has l g   ((C.1 0).1 7) x1) (va_cwS 2 hts gX6_joint_X6_has rfl rfl rfl (by decide +kernel) ⟨Nat.le_of_ble_eq_true rfl, Nat.le_of_ble_eq_true rfl⟩) (z_rpre z_nil hK) rfl rfl hl.1 rfl (lv_room (Nat.le_of_ble_eq_true rfl)) dX6_joint_79 ⟨Nat.zero_le _, Nat.zero_le _⟩) ?_
          refine z_rgo (va_runS (As := [.int (f6_has ((C.1 0).1 7) x1)]) (rest := []) ⟨hx, hb, hml, hown, hts⟩ (c6_flag l g   (f6_has ((C.1 0).1 7) x1)) (va_cwS 1 hts gX6_joint_X6_flag rfl rfl rfl (by decide +kernel) ⟨Nat.le_of_ble_eq_true rfl, Nat.le_of_ble_eq_true rfl⟩) (z_rpre z_nil hK) rfl rfl hl.1 rfl (lv_room (Nat.le_of_ble_eq_true rfl)) dX6_joint_82 ⟨Nat.zero_le _, Nat.zero_le _⟩) ?_
          cases hF
          exact z_ri hx hb hr hlk rfl dX6_joint_85
        · have hF := zif c4 hF
          by_cases c5 : x2 = 3
          · have hF := zit c5 hF
            refine z_tin (k := 3) (tgt := 86) hx hb dX6_joint_11 c5 ⟨by decide, by decide, rfl, by decide⟩ ?_
            refine lv_aload_n hx hb dX6_joint_86 rfl (lv_at hl 0 rfl) ?_
            refine z_get (ci := 6) (v := .ref (q (13 + 2))) (C := RX6) (T := TX6) (N := 13) hx hb hts inX6 hown hK hP 0 rfl rfl 3 (by decide) (List.mem_of_getElem? (i := 1) rfl) rfl rfl dX6_joint_87 ?_
            refine lv_aload_n hx hb dX6_joint_90 rfl (lv_at hl 0 rfl) ?_
            refine z_get (ci := 6) (v := .ref (q (13 + 2))) (C := RX6) (T := TX6) (N := 13) hx hb hts inX6 hown hK hP 0 rfl rfl 3 (by decide) (List.mem_of_getElem? (i := 1) rfl) rfl rfl dX6_joint_91 ?_
            refine lv_aload_n hx hb dX6_joint_94 rfl (lv_at hl 0 rfl) ?_
            refine z_get (ci := 6) (v := .ref (q 23)) (C := RX6) (T := TX6) (N := 13) hx hb hts inX6 hown hK hP 0 rfl rfl 4 (by decide) (List.mem_of_getElem? (i := 4) rfl) rfl rfl dX6_joint_95 ?_
            refine z_get (ci := 2) (v := .int ((C.1 0).1 8)) (C := RX2) (T := TX2) (N := 9) hx hb hts inX2 hown hK hP 23 rfl rfl 8 (by decide) (List.mem_of_getElem? (i := 6) rfl) rfl rfl dX6_joint_98 ?_
            refine z_rgo (va_runV (As := [.int ((C.1 0).1 8)]) (rest := [.ref (q (13 + 2))]) ⟨hx, hb, hml, hown, hts⟩ (c3_tide l g q (13 + 2) ((C.2.2.2.2.2.1).1) ((C.1 0).1 8)) (cwV 1 hts gX6_joint_X3_tide rfl rfl rfl (by decide +kernel) ⟨Nat.le_of_ble_eq_true rfl, Nat.le_of_ble_eq_true rfl⟩) (z_rpreV (ci := 3) (q := (RX3, TX3, 13)) (q0 := 0) (hP.sub (ws' := NW g q (13 + 2) ((C.2.2.2.2.2.1).1)) [15, 16, 17, 18, 19, 20, 21, 22] rfl) hK rfl rfl) rfl rfl hl.1 rfl (lv_room (Nat.le_of_ble_eq_true rfl)) dX6_joint_101 ⟨Nat.zero_le _, Nat.zero_le _⟩) ?_
            obtain ⟨v6, hv6, hF⟩ := zob hF
            refine z_rgo (va_runV (As := [.int (f3_tide ((C.2.2.2.2.2.1).1) ((C.1 0).1 8))]) (rest := []) ⟨hx, hb, hml, hown, hts⟩ (c3_under l g q (13 + 2) ((C.2.2.2.2.2.1).1) (f3_tide ((C.2.2.2.2.2.1).1) ((C.1 0).1 8)) v6 hv6) (cwV 1 hts gX6_joint_X3_under rfl rfl rfl (by decide +kernel) ⟨Nat.le_of_ble_eq_true rfl, Nat.le_of_ble_eq_true rfl⟩) (z_rpreV (ci := 3) (q := (RX3, TX3, 13)) (q0 := 0) (hP.sub (ws' := NW g q (13 + 2) ((C.2.2.2.2.2.1).1)) [15, 16, 17, 18, 19, 20, 21, 22] rfl) hK rfl rfl) rfl rfl hl.1 rfl (lv_room (Nat.le_of_ble_eq_true rfl)) dX6_joint_104 ⟨Nat.zero_le _, Nat.zero_le _⟩) ?_
            refine lv_iload_n hx hb dX6_joint_107 rfl (lv_at hl 1 rfl) ?_
            refine z_rgo (va_runS (As := [.int v6, .int x1]) (rest := []) ⟨hx, hb, hml, hown, hts⟩ (c6_has l g   v6 x1) (va_cwS 2 hts gX6_joint_X6_has rfl rfl rfl (by decide +kernel) ⟨Nat.le_of_ble_eq_true rfl, Nat.le_of_ble_eq_true rfl⟩) (z_rpre z_nil hK) rfl rfl hl.1 rfl (lv_room (Nat.le_of_ble_eq_true rfl)) dX6_joint_108 ⟨Nat.zero_le _, Nat.zero_le _⟩) ?_
            refine z_rgo (va_runS (As := [.int (f6_has v6 x1)]) (rest := []) ⟨hx, hb, hml, hown, hts⟩ (c6_flag l g   (f6_has v6 x1)) (va_cwS 1 hts gX6_joint_X6_flag rfl rfl rfl (by decide +kernel) ⟨Nat.le_of_ble_eq_true rfl, Nat.le_of_ble_eq_true rfl⟩) (z_rpre z_nil hK) rfl rfl hl.1 rfl (lv_room (Nat.le_of_ble_eq_true rfl)) dX6_joint_111 ⟨Nat.zero_le _, Nat.zero_le _⟩) ?_
            cases hF
            exact z_ri hx hb hr hlk rfl dX6_joint_114
          · have hF := zif c5 hF
            by_cases c7 : x2 = 4
            · have hF := zit c7 hF
              refine z_tin (k := 4) (tgt := 115) hx hb dX6_joint_11 c7 ⟨by decide, by decide, rfl, by decide⟩ ?_
              refine lv_aload_n hx hb dX6_joint_115 rfl (lv_at hl 0 rfl) ?_
              refine z_get (ci := 6) (v := .ref (q (13 + 2))) (C := RX6) (T := TX6) (N := 13) hx hb hts inX6 hown hK hP 0 rfl rfl 3 (by decide) (List.mem_of_getElem? (i := 1) rfl) rfl rfl dX6_joint_116 ?_
              refine lv_iload_n hx hb dX6_joint_119 rfl (lv_at hl 1 rfl) ?_
              refine lv_aload_n hx hb dX6_joint_120 rfl (lv_at hl 0 rfl) ?_
              refine z_get (ci := 6) (v := .ref (q 23)) (C := RX6) (T := TX6) (N := 13) hx hb hts inX6 hown hK hP 0 rfl rfl 4 (by decide) (List.mem_of_getElem? (i := 4) rfl) rfl rfl dX6_joint_121 ?_
              refine z_get (ci := 2) (v := .int ((C.1 0).1 6)) (C := RX2) (T := TX2) (N := 9) hx hb hts inX2 hown hK hP 23 rfl rfl 6 (by decide) (List.mem_of_getElem? (i := 7) rfl) rfl rfl dX6_joint_124 ?_
              obtain ⟨v8, hv8, hF⟩ := zob hF
              refine z_rgo (va_runV (As := [.int x1, .int ((C.1 0).1 6)]) (rest := []) ⟨hx, hb, hml, hown, hts⟩ (c3_beside l g q (13 + 2) ((C.2.2.2.2.2.1).1) x1 ((C.1 0).1 6) v8 hv8) (cwV 2 hts gX6_joint_X3_beside rfl rfl rfl (by decide +kernel) ⟨Nat.le_of_ble_eq_true rfl, Nat.le_of_ble_eq_true rfl⟩) (z_rpreV (ci := 3) (q := (RX3, TX3, 13)) (q0 := 0) (hP.sub (ws' := NW g q (13 + 2) ((C.2.2.2.2.2.1).1)) [15, 16, 17, 18, 19, 20, 21, 22] rfl) hK rfl rfl) rfl rfl hl.1 rfl (lv_room (Nat.le_of_ble_eq_true rfl)) dX6_joint_127 ⟨Nat.zero_le _, Nat.zero_le _⟩) ?_
              cases hF
              exact z_ri hx hb hr hlk rfl dX6_joint_130
            · have hF := zif c7 hF
              refine z_tout hx hb dX6_joint_11 [0, 1, 2, 3, 4] (fun k hk => ?_) rfl (tgt := 131) (by decide) ?_
              · simp only [List.mem_cons, List.not_mem_nil, or_false] at hk
                rcases hk with rfl | rfl | rfl | rfl | rfl <;> assumption
              · refine lv_bipush (v := (-2)) hx hb dX6_joint_131 (by decide) ?_
                cases hF
                exact z_ri hx hb hr hlk rfl dX6_joint_133
  · have hF := zif c1 hF
    refine lv_iconst (v := (-1)) hx hb dX6_joint_8 (by decide) ?_
    cases hF
    exact z_ri hx hb hr hlk rfl dX6_joint_9
def f6_judge_l39 (x1 : Int32) (x2 : Int32) : Nat → Int32 → Cs → Option (Int32 × Cs)
  | 0, _, _ => none
  | n39 + 1, y8, C9 => if x1 ≤ y8 then some ((-9), C9) else (f6_doingOf x2 x1 y8).bind fun v11 => (f6_isTried C9 (v11 / 10) (v11 - v11 / 10 * 10)).bind fun (v13, C12) => if v13 = 0 then some (y8, C12) else f6_judge_l39 x1 x2 n39 (y8 + 1) C12
def f6_judge (C : Cs) (x1 : Int32) (x2 : Int32) : Option (Int32 × Cs) := if x1 < 1 then some ((-2), C) else if 4 < x1 then some ((-2), C) else if x2 < 0 then some ((-2), C) else (f6_doingOf x2 x1 (-1)).bind fun v4 => if v4 ≤ 0 then (f2_copy (C.1 1) (C.1 0)).bind fun M6 => bd (cM C 1 M6) (fun (C7 : Cs) => f6_judge_l39 x1 x2 FU 0 C7) else some ((-2), C)
abbrev rmX6_judge : Room := { frames := 6, cells := 0, slots := 0, locals := 140 }
set_option maxHeartbeats 4000000 in
set_option maxRecDepth 100000 in
theorem c6_judge (l : Launch) (g : zG) (q : Nat → Nat) (C : Cs) (x1 : Int32) (x2 : Int32) (ro : Int32) (C_o : Cs) (hF : f6_judge C x1 x2 = some (ro, C_o)) : zRW l g yX6_judge wsX6_judge rmX6_judge [.ref (q 0), .int x1, .int x2] (CW g q C) (some (.int ro)) (CW g q C_o) := by
  refine zRW_of (cc := cX6_judge) (maxL := 5) (ret := (some .int)) (by decide) rfl (Nat.le_of_ble_eq_true rfl) ?_
  intro p e s m args below meth c A H locs ls hx hb hr hml hts hown hlk hK hA hP hD hS hl
  have hown : s.vm.findClass RX6 = some m.cls := hown
  have hl : lv_has ls 5 [(0, .ref (q 0)), (1, .int x1), (2, .int x2)] := hl
  have inX6 : ∀ w ∈ wsX60, w ∈ wsX6_judge := fun _ h => List.mem_cons_of_mem _ (List.mem_append_left _ (List.mem_append_left _ (List.mem_append_right _ h)))
  unfold f6_judge at hF
  refine lv_iload_n hx hb dX6_judge_0 rfl (lv_at hl 1 rfl) ?_
  refine lv_iconst (v := 1) hx hb dX6_judge_1 (by decide) ?_
  refine lv_icmp_lt (tgt := 23) hx hb dX6_judge_2 (by decide) (fun c1 => ?_) (fun c1 => ?_)
  · have hF := zit c1 hF
    refine lv_bipush (v := (-2)) hx hb dX6_judge_23 (by decide) ?_
    cases hF
    exact z_wi hx hb hr hlk hP hD hS rfl rfl dX6_judge_25
  · have hF := zif c1 hF
    refine lv_iload_n hx hb dX6_judge_5 rfl (lv_at hl 1 rfl) ?_
    refine lv_iconst (v := 4) hx hb dX6_judge_6 (by decide) ?_
    refine lv_icmp_gt (tgt := 23) hx hb dX6_judge_7 (by decide) (fun c2 => ?_) (fun c2 => ?_)
    · have hF := zit c2 hF
      refine lv_bipush (v := (-2)) hx hb dX6_judge_23 (by decide) ?_
      cases hF
      exact z_wi hx hb hr hlk hP hD hS rfl rfl dX6_judge_25
    · have hF := zif c2 hF
      refine lv_iload_n hx hb dX6_judge_10 rfl (lv_at hl 2 rfl) ?_
      refine lv_if_lt (tgt := 23) hx hb dX6_judge_11 (by decide) (fun c3 => ?_) (fun c3 => ?_)
      · have hF := zit c3 hF
        refine lv_bipush (v := (-2)) hx hb dX6_judge_23 (by decide) ?_
        cases hF
        exact z_wi hx hb hr hlk hP hD hS rfl rfl dX6_judge_25
      · have hF := zif c3 hF
        refine lv_iload_n hx hb dX6_judge_14 rfl (lv_at hl 2 rfl) ?_
        refine lv_iload_n hx hb dX6_judge_15 rfl (lv_at hl 1 rfl) ?_
        refine lv_iconst (v := (-1)) hx hb dX6_judge_16 (by decide) ?_
        obtain ⟨v4, hv4, hF⟩ := zob hF
        refine z_rgo (va_runS (As := [.int x2, .int x1, .int (-1)]) (rest := []) ⟨hx, hb, hml, hown, hts⟩ (c6_doingOf l g   x2 x1 (-1) v4 hv4) (va_cwS 3 hts gX6_judge_X6_doingOf rfl rfl rfl (by decide +kernel) ⟨Nat.le_of_ble_eq_true rfl, Nat.le_of_ble_eq_true rfl⟩) (z_rpre z_nil hK) rfl rfl hl.1 rfl (lv_room (Nat.le_of_ble_eq_true rfl)) dX6_judge_17 ⟨Nat.zero_le _, Nat.zero_le _⟩) ?_
        refine lv_if_le (tgt := 26) hx hb dX6_judge_20 (by decide) (fun c5 => ?_) (fun c5 => ?_)
        · have hF := zit c5 hF
          refine lv_aload_n hx hb dX6_judge_26 rfl (lv_at hl 0 rfl) ?_
          refine z_get (ci := 6) (v := .ref (q 28)) (C := RX6) (T := TX6) (N := 13) hx hb hts inX6 hown hK hP 0 rfl rfl 5 (by decide) (List.mem_of_getElem? (i := 1) rfl) rfl rfl dX6_judge_27 ?_
          refine lv_aload_n hx hb dX6_judge_30 rfl (lv_at hl 0 rfl) ?_
          refine z_get (ci := 6) (v := .ref (q 23)) (C := RX6) (T := TX6) (N := 13) hx hb hts inX6 hown hK hP 0 rfl rfl 4 (by decide) (List.mem_of_getElem? (i := 2) rfl) rfl rfl dX6_judge_31 ?_
          obtain ⟨M6, hM6, hF⟩ := zob hF
          refine z_wgo (wn := CW g q (cM C 1 M6)) (va_runV (As := [.ref (q 23)]) (rest := []) ⟨hx, hb, hml, hown, hts⟩ ((c2_copy l g q 28 q 23 (C.1 1) (C.1 0)   M6 hM6) H.size) (cwV 1 hts gX6_judge_X2_copy rfl rfl rfl (by decide +kernel) ⟨Nat.le_of_ble_eq_true rfl, Nat.le_of_ble_eq_true rfl⟩) (z_wpreV (ci := 2) (q := (RX2, TX2, 9)) (q0 := 0) (hP.sub (ws' := (OW g q 28 (C.1 1) ++ OW g q 23 (C.1 0))) [28, 29, 30, 31, 32, 23, 24, 25, 26, 27] rfl) hK (z_any (hD.sub (ws' := (OW g q 28 (C.1 1) ++ OW g q 23 (C.1 0))) [28, 29, 30, 31, 32, 23, 24, 25, 26, 27] (by decide) rfl)) rfl rfl) rfl rfl hl.1 rfl (lv_room (Nat.le_of_ble_eq_true rfl)) dX6_judge_34 ⟨Nat.zero_le _, Nat.zero_le _⟩) hP hD hS hA [28, 29, 30, 31, 32, 23, 24, 25, 26, 27] rfl (by decide) rfl rfl (fun H locs hP hD hS => ?_)
          show W p l e (headSpec wsX6_judge rmX6_judge).room s m args below meth c H locs 0 0 (MQ below (zWQ g A (CW g q C_o) (some (.int ro))) args s 0 0 A) (F0 m 37 ls [])
          obtain ⟨C7, eC7⟩ : ∃ y : Cs, y = (cM C 1 M6) := ⟨_, rfl⟩
          rw [← eC7] at hP hD
          have hF := bd_eq eC7 hF
          refine lv_iconst (v := 0) hx hb dX6_judge_37 (by decide) ?_
          refine lv_istore_n (lv' := [(3, .int 0), (0, .ref (q 0)), (1, .int x1), (2, .int x2)]) hx hb dX6_judge_38 rfl hl (by decide) rfl (fun ls hl => ?_)
          have L39 : ∀ (n39 : Nat) (y8 : Int32) (C9 : Cs) (H : Heap) (locs : List Loc) (ls : Array Slot), f6_judge_l39 x1 x2 n39 y8 C9 = some (ro, C_o) → va_P (zD g) vwCl (CW g q C9) H → va_D A (CW g q C9) → va_S A s.heap H locs → lv_has ls 5 [(0, .ref (q 0)), (1, .int x1), (2, .int x2), (3, .int y8)] → W p l e (headSpec wsX6_judge rmX6_judge).room s m args below meth c H locs 0 0 (MQ below (zWQ g A (CW g q C_o) (some (.int ro))) args s 0 0 A) (F0 m 39 ls []) := by
            intro n39
            induction n39 with
            | zero =>
              intro y8 C9 H locs ls hF hP hD hS hl
              exact absurd (show (none : Option (Int32 × Cs)) = some _ from hF) (fun h9 => by cases h9)
            | succ n39 ih39 =>
              intro y8 C9 H locs ls hF hP hD hS hl
              rw [f6_judge_l39] at hF
              refine lv_iload_n hx hb dX6_judge_39 rfl (lv_at hl 3 rfl) ?_
              refine lv_iload_n hx hb dX6_judge_40 rfl (lv_at hl 1 rfl) ?_
              refine lv_icmp_ge (tgt := 77) hx hb dX6_judge_41 (by decide) (fun c10 => ?_) (fun c10 => ?_)
              · have hF := zit c10 hF
                refine lv_bipush (v := (-9)) hx hb dX6_judge_77 (by decide) ?_
                cases hF
                exact z_wi hx hb hr hlk hP hD hS rfl rfl dX6_judge_79
              · have hF := zif c10 hF
                refine lv_iload_n hx hb dX6_judge_44 rfl (lv_at hl 2 rfl) ?_
                refine lv_iload_n hx hb dX6_judge_45 rfl (lv_at hl 1 rfl) ?_
                refine lv_iload_n hx hb dX6_judge_46 rfl (lv_at hl 3 rfl) ?_
                obtain ⟨v11, hv11, hF⟩ := zob hF
                refine z_rgo (va_runS (As := [.int x2, .int x1, .int y8]) (rest := []) ⟨hx, hb, hml, hown, hts⟩ (c6_doingOf l g   x2 x1 y8 v11 hv11) (va_cwS 3 hts gX6_judge_X6_doingOf rfl rfl rfl (by decide +kernel) ⟨Nat.le_of_ble_eq_true rfl, Nat.le_of_ble_eq_true rfl⟩) (z_rpre z_nil hK) rfl rfl hl.1 rfl (lv_room (Nat.le_of_ble_eq_true rfl)) dX6_judge_47 ⟨Nat.zero_le _, Nat.zero_le _⟩) ?_
                refine lv_istore (lv' := [(4, .int v11), (0, .ref (q 0)), (1, .int x1), (2, .int x2), (3, .int y8)]) hx hb dX6_judge_50 hl (by decide) rfl (fun ls hl => ?_)
                refine lv_aload_n hx hb dX6_judge_52 rfl (lv_at hl 1 rfl) ?_
                refine lv_iload hx hb dX6_judge_53 (lv_at hl 0 rfl) ?_
                refine lv_bipush (v := 10) hx hb dX6_judge_55 (by decide) ?_
                refine lv_idiv hx hb dX6_judge_57 (by decide) ?_
                refine lv_iload hx hb dX6_judge_58 (lv_at hl 0 rfl) ?_
                refine lv_bipush (v := 10) hx hb dX6_judge_60 (by decide) ?_
                refine lv_irem hx hb dX6_judge_62 (by decide) ?_
                obtain ⟨⟨v13, C12⟩, hC12, hF⟩ := zob hF
                refine z_wgoW (va_runV (As := [.int (v11 / 10), .int (v11 - v11 / 10 * 10)]) (rest := []) ⟨hx, hb, hml, hown, hts⟩ ((c6_isTried l g q C9 (v11 / 10) (v11 - v11 / 10 * 10) v13  C12 hC12) H.size) (cwV 2 hts gX6_judge_X6_isTried rfl rfl rfl (by decide +kernel) ⟨Nat.le_of_ble_eq_true rfl, Nat.le_of_ble_eq_true rfl⟩) (z_wpreV (ci := 6) (q := (RX6, TX6, 13)) (q0 := 0) hP hK (z_any hD) rfl rfl) rfl rfl hl.1 rfl (lv_room (Nat.le_of_ble_eq_true rfl)) dX6_judge_63 ⟨Nat.zero_le _, Nat.zero_le _⟩) hP hD hS hA (fun H locs hP hD hS => ?_)
                show W p l e (headSpec wsX6_judge rmX6_judge).room s m args below meth c H locs 0 0 (MQ below (zWQ g A (CW g q C_o) (some (.int ro))) args s 0 0 A) (F0 m 66 ls [.int v13])
                refine lv_if_ne (tgt := 71) hx hb dX6_judge_66 (by decide) (fun c14 => ?_) (fun c14 => ?_)
                · have hF := zif c14 hF
                  refine lv_iinc (v := (y8 + 1)) (lv' := [(3, .int (y8 + 1)), (4, .int v11), (0, .ref (q 0)), (1, .int x1), (2, .int x2)]) hx hb dX6_judge_71 hl (k := 4) rfl rfl (by decide) rfl (fun ls hl => ?_)
                  refine lv_goto (tgt := 39) hx hb dX6_judge_74 (by decide) ?_
                  exact ih39 (y8 + 1) C12 H locs ls hF hP hD hS (lv_sub hl [2, 3, 4, 0] rfl)
                · have hF := zit c14 hF
                  refine lv_iload_n hx hb dX6_judge_69 rfl (lv_at hl 4 rfl) ?_
                  cases hF
                  exact z_wi hx hb hr hlk hP hD hS rfl rfl dX6_judge_70
          exact L39 FU 0 C7 H locs ls hF hP hD hS (lv_sub hl [1, 2, 3, 0] rfl)
        · have hF := zif c5 hF
          refine lv_bipush (v := (-2)) hx hb dX6_judge_23 (by decide) ?_
          cases hF
          exact z_wi hx hb hr hlk hP hD hS rfl rfl dX6_judge_25
def f6_keep (C : Cs) (x1 : Int32) : Option (Int32 × Cs) := if (f6_isNoChoice x1) = 0 then if x1 = 0 then (f2_copy (C.1 2) (C.1 0)).bind fun M3 => bd (cM C 2 M3) (fun (C4 : Cs) => bd (cKp C4 ((C4.2.2.2.2.2.2.2.2.1) ||| (f6_bit x1))) (fun (C5 : Cs) => some (((C5.1 0).1 8), C5))) else (f2_copy (C.1 3) (C.1 0)).bind fun M6 => bd (cM C 3 M6) (fun (C7 : Cs) => bd (cKp C7 ((C7.2.2.2.2.2.2.2.2.1) ||| (f6_bit x1))) (fun (C8 : Cs) => some (((C8.1 0).1 8), C8))) else some ((-1), C)
abbrev rmX6_keep : Room := { frames := 2, cells := 0, slots := 0, locals := 44 }
set_option maxHeartbeats 4000000 in
set_option maxRecDepth 100000 in
theorem c6_keep (l : Launch) (g : zG) (q : Nat → Nat) (C : Cs) (x1 : Int32) (ro : Int32) (C_o : Cs) (hF : f6_keep C x1 = some (ro, C_o)) : zRW l g yX6_keep wsX6_keep rmX6_keep [.ref (q 0), .int x1] (CW g q C) (some (.int ro)) (CW g q C_o) := by
  refine zRW_of (cc := cX6_keep) (maxL := 2) (ret := (some .int)) (by decide) rfl (Nat.le_of_ble_eq_true rfl) ?_
  intro p e s m args below meth c A H locs ls hx hb hr hml hts hown hlk hK hA hP hD hS hl
  have hown : s.vm.findClass RX6 = some m.cls := hown
  have hl : lv_has ls 2 [(0, .ref (q 0)), (1, .int x1)] := hl
  have inX2 : ∀ w ∈ wsX20, w ∈ wsX6_keep := fun _ h => List.mem_cons_of_mem _ (List.mem_append_right _ h)
  have inX6 : ∀ w ∈ wsX60, w ∈ wsX6_keep := fun _ h => List.mem_cons_of_mem _ (List.mem_append_left _ (List.mem_append_right _ h))
  unfold f6_keep at hF
  refine lv_iload_n hx hb dX6_keep_0 rfl (lv_at hl 1 rfl) ?_
  refine z_rgo (va_runS (As := [.int x1]) (rest := []) ⟨hx, hb, hml, hown, hts⟩ (c6_isNoChoice l g   x1) (va_cwS 1 hts gX6_keep_X6_isNoChoice rfl rfl rfl (by decide +kernel) ⟨Nat.le_of_ble_eq_true rfl, Nat.le_of_ble_eq_true rfl⟩) (z_rpre z_nil hK) rfl rfl hl.1 rfl (lv_room (Nat.le_of_ble_eq_true rfl)) dX6_keep_1 ⟨Nat.zero_le _, Nat.zero_le _⟩) ?_
  refine lv_if_eq (tgt := 9) hx hb dX6_keep_4 (by decide) (fun c1 => ?_) (fun c1 => ?_)
  · have hF := zit c1 hF
    refine lv_aload_n hx hb dX6_keep_9 rfl (lv_at hl 0 rfl) ?_
    refine lv_iload_n hx hb dX6_keep_10 rfl (lv_at hl 1 rfl) ?_
    by_cases c2 : x1 = 0
    · have hF := zit c2 hF
      refine z_rgo (va_runV (As := [.int x1]) (rest := []) ⟨hx, hb, hml, hown, hts⟩ (c6_slot0 l g q C x1 c2) (cwV 1 hts gX6_keep_X6_slotOf rfl rfl rfl (by decide +kernel) ⟨Nat.le_of_ble_eq_true rfl, Nat.le_of_ble_eq_true rfl⟩) (z_rpreV (ci := 6) (q := (RX6, TX6, 13)) (q0 := 0) hP hK rfl rfl) rfl rfl hl.1 rfl (lv_room (Nat.le_of_ble_eq_true rfl)) dX6_keep_11 ⟨Nat.zero_le _, Nat.zero_le _⟩) ?_
      refine lv_aload_n hx hb dX6_keep_14 rfl (lv_at hl 0 rfl) ?_
      refine z_get (ci := 6) (v := .ref (q 23)) (C := RX6) (T := TX6) (N := 13) hx hb hts inX6 hown hK hP 0 rfl rfl 4 (by decide) (List.mem_of_getElem? (i := 1) rfl) rfl rfl dX6_keep_15 ?_
      obtain ⟨M3, hM3, hF⟩ := zob hF
      refine z_wgo (wn := CW g q (cM C 2 M3)) (va_runV (As := [.ref (q 23)]) (rest := []) ⟨hx, hb, hml, hown, hts⟩ ((c2_copy l g q 36 q 23 (C.1 2) (C.1 0)   M3 hM3) H.size) (cwV 1 hts gX6_keep_X2_copy rfl rfl rfl (by decide +kernel) ⟨Nat.le_of_ble_eq_true rfl, Nat.le_of_ble_eq_true rfl⟩) (z_wpreV (ci := 2) (q := (RX2, TX2, 9)) (q0 := 0) (hP.sub (ws' := (OW g q 36 (C.1 2) ++ OW g q 23 (C.1 0))) [36, 37, 38, 39, 40, 23, 24, 25, 26, 27] rfl) hK (z_any (hD.sub (ws' := (OW g q 36 (C.1 2) ++ OW g q 23 (C.1 0))) [36, 37, 38, 39, 40, 23, 24, 25, 26, 27] (by decide) rfl)) rfl rfl) rfl rfl hl.1 rfl (lv_room (Nat.le_of_ble_eq_true rfl)) dX6_keep_18 ⟨Nat.zero_le _, Nat.zero_le _⟩) hP hD hS hA [36, 37, 38, 39, 40, 23, 24, 25, 26, 27] rfl (by decide) rfl rfl (fun H locs hP hD hS => ?_)
      show W p l e (headSpec wsX6_keep rmX6_keep).room s m args below meth c H locs 0 0 (MQ below (zWQ g A (CW g q C_o) (some (.int ro))) args s 0 0 A) (F0 m 21 ls [])
      obtain ⟨C4, eC4⟩ : ∃ y : Cs, y = (cM C 2 M3) := ⟨_, rfl⟩
      rw [← eC4] at hP hD
      have hF := bd_eq eC4 hF
      refine lv_aload_n hx hb dX6_keep_21 rfl (lv_at hl 0 rfl) ?_
      refine lv_dup hx hb dX6_keep_22 rfl ?_
      refine z_get (ci := 6) (v := .int (C4.2.2.2.2.2.2.2.2.1)) (C := RX6) (T := TX6) (N := 13) hx hb hts inX6 hown hK hP 0 rfl rfl 11 (by decide) (List.mem_of_getElem? (i := 2) rfl) rfl rfl dX6_keep_23 ?_
      refine lv_iload_n hx hb dX6_keep_26 rfl (lv_at hl 1 rfl) ?_
      refine z_rgo (va_runS (As := [.int x1]) (rest := [.int (C4.2.2.2.2.2.2.2.2.1), .ref (q 0)]) ⟨hx, hb, hml, hown, hts⟩ (c6_bit l g   x1) (va_cwS 1 hts gX6_keep_X6_bit rfl rfl rfl (by decide +kernel) ⟨Nat.le_of_ble_eq_true rfl, Nat.le_of_ble_eq_true rfl⟩) (z_rpre z_nil hK) rfl rfl hl.1 rfl (lv_room (Nat.le_of_ble_eq_true rfl)) dX6_keep_27 ⟨Nat.zero_le _, Nat.zero_le _⟩) ?_
      refine lv_ior hx hb dX6_keep_30 ?_
      refine z_put (ci := 6) (v := .int ((C4.2.2.2.2.2.2.2.2.1) ||| (f6_bit x1))) (C := RX6) (T := TX6) (N := 13) (ws' := CW g q (cKp C4 ((C4.2.2.2.2.2.2.2.2.1) ||| (f6_bit x1)))) hx hb hts inX6 tyX6 tyX6_ok nmX6 hown hK hP hD hS 0 rfl rfl 11 (by decide) (List.mem_of_getElem? (i := 2) rfl) rfl rfl rfl rfl (Nat.le_of_ble_eq_true rfl) rfl dX6_keep_31 (fun H locs hP hD hS => ?_)
      obtain ⟨C5, eC5⟩ : ∃ y : Cs, y = (cKp C4 ((C4.2.2.2.2.2.2.2.2.1) ||| (f6_bit x1))) := ⟨_, rfl⟩
      rw [← eC5] at hP hD
      have hF := bd_eq eC5 hF
      refine lv_aload_n hx hb dX6_keep_34 rfl (lv_at hl 0 rfl) ?_
      refine z_get (ci := 6) (v := .ref (q 23)) (C := RX6) (T := TX6) (N := 13) hx hb hts inX6 hown hK hP 0 rfl rfl 4 (by decide) (List.mem_of_getElem? (i := 1) rfl) rfl rfl dX6_keep_35 ?_
      refine z_get (ci := 2) (v := .int ((C5.1 0).1 8)) (C := RX2) (T := TX2) (N := 9) hx hb hts inX2 hown hK hP 23 rfl rfl 8 (by decide) (List.mem_of_getElem? (i := 3) rfl) rfl rfl dX6_keep_38 ?_
      cases hF
      exact z_wi hx hb hr hlk hP hD hS rfl rfl dX6_keep_41
    · have hF := zif c2 hF
      refine z_rgo (va_runV (As := [.int x1]) (rest := []) ⟨hx, hb, hml, hown, hts⟩ (c6_slot1 l g q C x1 c2) (cwV 1 hts gX6_keep_X6_slotOf rfl rfl rfl (by decide +kernel) ⟨Nat.le_of_ble_eq_true rfl, Nat.le_of_ble_eq_true rfl⟩) (z_rpreV (ci := 6) (q := (RX6, TX6, 13)) (q0 := 0) hP hK rfl rfl) rfl rfl hl.1 rfl (lv_room (Nat.le_of_ble_eq_true rfl)) dX6_keep_11 ⟨Nat.zero_le _, Nat.zero_le _⟩) ?_
      refine lv_aload_n hx hb dX6_keep_14 rfl (lv_at hl 0 rfl) ?_
      refine z_get (ci := 6) (v := .ref (q 23)) (C := RX6) (T := TX6) (N := 13) hx hb hts inX6 hown hK hP 0 rfl rfl 4 (by decide) (List.mem_of_getElem? (i := 1) rfl) rfl rfl dX6_keep_15 ?_
      obtain ⟨M6, hM6, hF⟩ := zob hF
      refine z_wgo (wn := CW g q (cM C 3 M6)) (va_runV (As := [.ref (q 23)]) (rest := []) ⟨hx, hb, hml, hown, hts⟩ ((c2_copy l g q 41 q 23 (C.1 3) (C.1 0)   M6 hM6) H.size) (cwV 1 hts gX6_keep_X2_copy rfl rfl rfl (by decide +kernel) ⟨Nat.le_of_ble_eq_true rfl, Nat.le_of_ble_eq_true rfl⟩) (z_wpreV (ci := 2) (q := (RX2, TX2, 9)) (q0 := 0) (hP.sub (ws' := (OW g q 41 (C.1 3) ++ OW g q 23 (C.1 0))) [41, 42, 43, 44, 45, 23, 24, 25, 26, 27] rfl) hK (z_any (hD.sub (ws' := (OW g q 41 (C.1 3) ++ OW g q 23 (C.1 0))) [41, 42, 43, 44, 45, 23, 24, 25, 26, 27] (by decide) rfl)) rfl rfl) rfl rfl hl.1 rfl (lv_room (Nat.le_of_ble_eq_true rfl)) dX6_keep_18 ⟨Nat.zero_le _, Nat.zero_le _⟩) hP hD hS hA [41, 42, 43, 44, 45, 23, 24, 25, 26, 27] rfl (by decide) rfl rfl (fun H locs hP hD hS => ?_)
      show W p l e (headSpec wsX6_keep rmX6_keep).room s m args below meth c H locs 0 0 (MQ below (zWQ g A (CW g q C_o) (some (.int ro))) args s 0 0 A) (F0 m 21 ls [])
      obtain ⟨C7, eC7⟩ : ∃ y : Cs, y = (cM C 3 M6) := ⟨_, rfl⟩
      rw [← eC7] at hP hD
      have hF := bd_eq eC7 hF
      refine lv_aload_n hx hb dX6_keep_21 rfl (lv_at hl 0 rfl) ?_
      refine lv_dup hx hb dX6_keep_22 rfl ?_
      refine z_get (ci := 6) (v := .int (C7.2.2.2.2.2.2.2.2.1)) (C := RX6) (T := TX6) (N := 13) hx hb hts inX6 hown hK hP 0 rfl rfl 11 (by decide) (List.mem_of_getElem? (i := 2) rfl) rfl rfl dX6_keep_23 ?_
      refine lv_iload_n hx hb dX6_keep_26 rfl (lv_at hl 1 rfl) ?_
      refine z_rgo (va_runS (As := [.int x1]) (rest := [.int (C7.2.2.2.2.2.2.2.2.1), .ref (q 0)]) ⟨hx, hb, hml, hown, hts⟩ (c6_bit l g   x1) (va_cwS 1 hts gX6_keep_X6_bit rfl rfl rfl (by decide +kernel) ⟨Nat.le_of_ble_eq_true rfl, Nat.le_of_ble_eq_true rfl⟩) (z_rpre z_nil hK) rfl rfl hl.1 rfl (lv_room (Nat.le_of_ble_eq_true rfl)) dX6_keep_27 ⟨Nat.zero_le _, Nat.zero_le _⟩) ?_
      refine lv_ior hx hb dX6_keep_30 ?_
      refine z_put (ci := 6) (v := .int ((C7.2.2.2.2.2.2.2.2.1) ||| (f6_bit x1))) (C := RX6) (T := TX6) (N := 13) (ws' := CW g q (cKp C7 ((C7.2.2.2.2.2.2.2.2.1) ||| (f6_bit x1)))) hx hb hts inX6 tyX6 tyX6_ok nmX6 hown hK hP hD hS 0 rfl rfl 11 (by decide) (List.mem_of_getElem? (i := 2) rfl) rfl rfl rfl rfl (Nat.le_of_ble_eq_true rfl) rfl dX6_keep_31 (fun H locs hP hD hS => ?_)
      obtain ⟨C8, eC8⟩ : ∃ y : Cs, y = (cKp C7 ((C7.2.2.2.2.2.2.2.2.1) ||| (f6_bit x1))) := ⟨_, rfl⟩
      rw [← eC8] at hP hD
      have hF := bd_eq eC8 hF
      refine lv_aload_n hx hb dX6_keep_34 rfl (lv_at hl 0 rfl) ?_
      refine z_get (ci := 6) (v := .ref (q 23)) (C := RX6) (T := TX6) (N := 13) hx hb hts inX6 hown hK hP 0 rfl rfl 4 (by decide) (List.mem_of_getElem? (i := 1) rfl) rfl rfl dX6_keep_35 ?_
      refine z_get (ci := 2) (v := .int ((C8.1 0).1 8)) (C := RX2) (T := TX2) (N := 9) hx hb hts inX2 hown hK hP 23 rfl rfl 8 (by decide) (List.mem_of_getElem? (i := 3) rfl) rfl rfl dX6_keep_38 ?_
      cases hF
      exact z_wi hx hb hr hlk hP hD hS rfl rfl dX6_keep_41
  · have hF := zif c1 hF
    refine lv_iconst (v := (-1)) hx hb dX6_keep_7 (by decide) ?_
    cases hF
    exact z_wi hx hb hr hlk hP hD hS rfl rfl dX6_keep_8
def f6_meetsAll_l2 (x1 : Int32) (C : Cs) : Nat → Int32 → Option (Int32)
  | 0, _ => none
  | n2 + 1, y1 => if (((C.2.2.2.2.2.1).1).1 4) ≤ y1 then some 1 else if (f6_has ((C.1 0).1 5) y1) = 0 then if ((f6_cell 4 (C.2.2.2.2.2.2.1) y1) &&& x1) = 0 then some 0 else f6_meetsAll_l2 x1 C n2 (y1 + 1) else f6_meetsAll_l2 x1 C n2 (y1 + 1)
def f6_meetsAll (C : Cs) (x1 : Int32) : Option (Int32) := f6_meetsAll_l2 x1 C FU 0
abbrev rmX6_meetsAll : Room := { frames := 1, cells := 0, slots := 0, locals := 21 }
set_option maxHeartbeats 4000000 in
set_option maxRecDepth 100000 in
theorem c6_meetsAll (l : Launch) (g : zG) (q : Nat → Nat) (C : Cs) (x1 : Int32) (ro : Int32) (hF : f6_meetsAll C x1 = some ro) : zRO l g yX6_meetsAll wsX6_meetsAll rmX6_meetsAll [.ref (q 0), .int x1] (CW g q C) (some (.int ro)) := by
  refine zRO_of (cc := cX6_meetsAll) (maxL := 3) (ret := (some .boolean)) (by decide) rfl (Nat.le_of_ble_eq_true rfl) ?_
  intro p e s m args below meth c ls hx hb hr hml hts hown hlk hK hP hl
  have hown : s.vm.findClass RX6 = some m.cls := hown
  have hl : lv_has ls 3 [(0, .ref (q 0)), (1, .int x1)] := hl
  have inX2 : ∀ w ∈ wsX20, w ∈ wsX6_meetsAll := fun _ h => List.mem_cons_of_mem _ (List.mem_append_right _ h)
  have inX3 : ∀ w ∈ wsX30, w ∈ wsX6_meetsAll := fun _ h => List.mem_cons_of_mem _ (List.mem_append_left _ (List.mem_append_right _ h))
  have inX6 : ∀ w ∈ wsX60, w ∈ wsX6_meetsAll := fun _ h => List.mem_cons_of_mem _ (List.mem_append_left _ (List.mem_append_left _ (List.mem_append_right _ h)))
  unfold f6_meetsAll at hF
  refine lv_iconst (v := 0) hx hb dX6_meetsAll_0 (by decide) ?_
  refine lv_istore_n (lv' := [(2, .int 0), (0, .ref (q 0)), (1, .int x1)]) hx hb dX6_meetsAll_1 rfl hl (by decide) rfl (fun ls hl => ?_)
  have L2 : ∀ (n2 : Nat) (y1 : Int32) (ls : Array Slot), f6_meetsAll_l2 x1 C n2 y1 = some ro → lv_has ls 3 [(0, .ref (q 0)), (1, .int x1), (2, .int y1)] → W p l e (headSpec wsX6_meetsAll rmX6_meetsAll).room s m args below meth c s.heap [] 0 0 (MQ below (zRQ (some (.int ro))) args s 0 0 (fun _ => False)) (F0 m 2 ls []) := by
    intro n2
    induction n2 with
    | zero =>
      intro y1 ls hF hl
      exact absurd (show (none : Option (Int32)) = some _ from hF) (fun h9 => by cases h9)
    | succ n2 ih2 =>
      intro y1 ls hF hl
      rw [f6_meetsAll_l2] at hF
      refine lv_iload_n hx hb dX6_meetsAll_2 rfl (lv_at hl 2 rfl) ?_
      refine lv_aload_n hx hb dX6_meetsAll_3 rfl (lv_at hl 0 rfl) ?_
      refine z_get (ci := 6) (v := .ref (q (13 + 2))) (C := RX6) (T := TX6) (N := 13) hx hb hts inX6 hown hK hP 0 rfl rfl 3 (by decide) (List.mem_of_getElem? (i := 1) rfl) rfl rfl dX6_meetsAll_4 ?_
      refine z_get (ci := 3) (v := .int (((C.2.2.2.2.2.1).1).1 4)) (C := RX3) (T := TX3) (N := 13) hx hb hts inX3 hown hK hP 15 rfl rfl 4 (by decide) (List.mem_of_getElem? (i := 2) rfl) rfl rfl dX6_meetsAll_7 ?_
      refine lv_icmp_ge (tgt := 48) hx hb dX6_meetsAll_10 (by decide) (fun c2 => ?_) (fun c2 => ?_)
      · have hF := zit c2 hF
        refine lv_iconst (v := 1) hx hb dX6_meetsAll_48 (by decide) ?_
        cases hF
        exact z_rz hx hb hr hlk rfl rfl dX6_meetsAll_49
      · have hF := zif c2 hF
        refine lv_aload_n hx hb dX6_meetsAll_13 rfl (lv_at hl 0 rfl) ?_
        refine z_get (ci := 6) (v := .ref (q 23)) (C := RX6) (T := TX6) (N := 13) hx hb hts inX6 hown hK hP 0 rfl rfl 4 (by decide) (List.mem_of_getElem? (i := 3) rfl) rfl rfl dX6_meetsAll_14 ?_
        refine z_get (ci := 2) (v := .int ((C.1 0).1 5)) (C := RX2) (T := TX2) (N := 9) hx hb hts inX2 hown hK hP 23 rfl rfl 5 (by decide) (List.mem_of_getElem? (i := 4) rfl) rfl rfl dX6_meetsAll_17 ?_
        refine lv_iload_n hx hb dX6_meetsAll_20 rfl (lv_at hl 2 rfl) ?_
        refine z_rgo (va_runS (As := [.int ((C.1 0).1 5), .int y1]) (rest := []) ⟨hx, hb, hml, hown, hts⟩ (c6_has l g   ((C.1 0).1 5) y1) (va_cwS 2 hts gX6_meetsAll_X6_has rfl rfl rfl (by decide +kernel) ⟨Nat.le_of_ble_eq_true rfl, Nat.le_of_ble_eq_true rfl⟩) (z_rpre z_nil hK) rfl rfl hl.1 rfl (lv_room (Nat.le_of_ble_eq_true rfl)) dX6_meetsAll_21 ⟨Nat.zero_le _, Nat.zero_le _⟩) ?_
        refine lv_if_ne (tgt := 42) hx hb dX6_meetsAll_24 (by decide) (fun c3 => ?_) (fun c3 => ?_)
        · have hF := zif c3 hF
          refine lv_iinc (v := (y1 + 1)) (lv' := [(2, .int (y1 + 1)), (0, .ref (q 0)), (1, .int x1)]) hx hb dX6_meetsAll_42 hl (k := 2) rfl rfl (by decide) rfl (fun ls hl => ?_)
          refine lv_goto (tgt := 2) hx hb dX6_meetsAll_45 (by decide) ?_
          exact ih2 (y1 + 1) ls hF (lv_sub hl [1, 2, 0] rfl)
        · have hF := zit c3 hF
          refine lv_aload_n hx hb dX6_meetsAll_27 rfl (lv_at hl 0 rfl) ?_
          refine z_get (ci := 6) (v := .ref (q 33)) (C := RX6) (T := TX6) (N := 13) hx hb hts inX6 hown hK hP 0 rfl rfl 6 (by decide) (List.mem_of_getElem? (i := 5) rfl) rfl rfl dX6_meetsAll_28 ?_
          refine lv_iload_n hx hb dX6_meetsAll_31 rfl (lv_at hl 2 rfl) ?_
          refine z_rgo (va_runS (As := [.ref (q 33), .int y1]) (rest := []) ⟨hx, hb, hml, hown, hts⟩ (c6_cell l g (q 33) 4 (by decide) (C.2.2.2.2.2.2.1) y1) (va_cwS 2 hts gX6_meetsAll_X6_cell rfl rfl rfl (by decide +kernel) ⟨Nat.le_of_ble_eq_true rfl, Nat.le_of_ble_eq_true rfl⟩) (z_rpre (hP.sub (ws' := [((q 33), .inl (g.2.2.1, 4, .inl (C.2.2.2.2.2.2.1)))]) [33] rfl) hK) rfl rfl hl.1 rfl (lv_room (Nat.le_of_ble_eq_true rfl)) dX6_meetsAll_32 ⟨Nat.zero_le _, Nat.zero_le _⟩) ?_
          refine lv_iload_n hx hb dX6_meetsAll_35 rfl (lv_at hl 1 rfl) ?_
          refine lv_iand hx hb dX6_meetsAll_36 ?_
          refine lv_if_ne (tgt := 42) hx hb dX6_meetsAll_37 (by decide) (fun c4 => ?_) (fun c4 => ?_)
          · have hF := zif c4 hF
            refine lv_iinc (v := (y1 + 1)) (lv' := [(2, .int (y1 + 1)), (0, .ref (q 0)), (1, .int x1)]) hx hb dX6_meetsAll_42 hl (k := 2) rfl rfl (by decide) rfl (fun ls hl => ?_)
            refine lv_goto (tgt := 2) hx hb dX6_meetsAll_45 (by decide) ?_
            exact ih2 (y1 + 1) ls hF (lv_sub hl [1, 2, 0] rfl)
          · have hF := zit c4 hF
            refine lv_iconst (v := 0) hx hb dX6_meetsAll_40 (by decide) ?_
            cases hF
            exact z_rz hx hb hr hlk rfl rfl dX6_meetsAll_41
  exact L2 FU 0 ls hF (lv_sub hl [1, 2, 0] rfl)
def f6_mend_l29 (x1 : Int32) : Nat → Int32 → Cs → Option (Int32 × Cs)
  | 0, _, _ => none
  | n29 + 1, y3, C4 => if (((C4.2.2.2.2.2.1).1).1 3) ≤ y3 then some ((-9), C4) else (f2_copy (C4.1 1) (C4.1 0)).bind fun M6 => bd (cM C4 1 M6) (fun (C7 : Cs) => (f2_turnPipe (C7.1 1) y3).bind fun M8 => bd (cM C7 1 M8) (fun (C9 : Cs) => (f2_goUntilOut (C9.1 1) ((C9.2.2.2.2.2.1).1) x1).bind fun (v11, M10) => bd (cM C9 1 M10) (fun (C12 : Cs) => if (f2_isRight (C12.1 1) ((C12.2.2.2.2.2.1).1) x1) = 0 then f6_mend_l29 x1 n29 (y3 + 1) C12 else some (y3, C12))))
def f6_mend (C : Cs) (x1 : Int32) : Option (Int32 × Cs) := if (f6_isNoWalker C x1) = 0 then if (f6_has ((C.1 0).1 5) x1) = 0 then f6_mend_l29 x1 FU 0 C else some ((-3), C) else some ((-1), C)
abbrev rmX6_mend : Room := { frames := 5, cells := 0, slots := 0, locals := 120 }
set_option maxHeartbeats 4000000 in
set_option maxRecDepth 100000 in
theorem c6_mend (l : Launch) (g : zG) (q : Nat → Nat) (C : Cs) (x1 : Int32) (ro : Int32) (C_o : Cs) (hF : f6_mend C x1 = some (ro, C_o)) : zRW l g yX6_mend wsX6_mend rmX6_mend [.ref (q 0), .int x1] (CW g q C) (some (.int ro)) (CW g q C_o) := by
  refine zRW_of (cc := cX6_mend) (maxL := 3) (ret := (some .int)) (by decide) rfl (Nat.le_of_ble_eq_true rfl) ?_
  intro p e s m args below meth c A H locs ls hx hb hr hml hts hown hlk hK hA hP hD hS hl
  have hown : s.vm.findClass RX6 = some m.cls := hown
  have hl : lv_has ls 3 [(0, .ref (q 0)), (1, .int x1)] := hl
  have inX2 : ∀ w ∈ wsX20, w ∈ wsX6_mend := fun _ h => List.mem_cons_of_mem _ (List.mem_append_left _ (List.mem_append_right _ h))
  have inX3 : ∀ w ∈ wsX30, w ∈ wsX6_mend := fun _ h => List.mem_cons_of_mem _ (List.mem_append_right _ h)
  have inX6 : ∀ w ∈ wsX60, w ∈ wsX6_mend := fun _ h => List.mem_cons_of_mem _ (List.mem_append_left _ (List.mem_append_left _ (List.mem_append_right _ h)))
  unfold f6_mend at hF
  refine lv_aload_n hx hb dX6_mend_0 rfl (lv_at hl 0 rfl) ?_
  refine lv_iload_n hx hb dX6_mend_1 rfl (lv_at hl 1 rfl) ?_
  refine z_rgo (va_runV (As := [.int x1]) (rest := []) ⟨hx, hb, hml, hown, hts⟩ (c6_isNoWalker l g q C x1) (cwV 1 hts gX6_mend_X6_isNoWalker rfl rfl rfl (by decide +kernel) ⟨Nat.le_of_ble_eq_true rfl, Nat.le_of_ble_eq_true rfl⟩) (z_rpreV (ci := 6) (q := (RX6, TX6, 13)) (q0 := 0) hP hK rfl rfl) rfl rfl hl.1 rfl (lv_room (Nat.le_of_ble_eq_true rfl)) dX6_mend_2 ⟨Nat.zero_le _, Nat.zero_le _⟩) ?_
  refine lv_if_eq (tgt := 10) hx hb dX6_mend_5 (by decide) (fun c1 => ?_) (fun c1 => ?_)
  · have hF := zit c1 hF
    refine lv_aload_n hx hb dX6_mend_10 rfl (lv_at hl 0 rfl) ?_
    refine z_get (ci := 6) (v := .ref (q 23)) (C := RX6) (T := TX6) (N := 13) hx hb hts inX6 hown hK hP 0 rfl rfl 4 (by decide) (List.mem_of_getElem? (i := 1) rfl) rfl rfl dX6_mend_11 ?_
    refine z_get (ci := 2) (v := .int ((C.1 0).1 5)) (C := RX2) (T := TX2) (N := 9) hx hb hts inX2 hown hK hP 23 rfl rfl 5 (by decide) (List.mem_of_getElem? (i := 2) rfl) rfl rfl dX6_mend_14 ?_
    refine lv_iload_n hx hb dX6_mend_17 rfl (lv_at hl 1 rfl) ?_
    refine z_rgo (va_runS (As := [.int ((C.1 0).1 5), .int x1]) (rest := []) ⟨hx, hb, hml, hown, hts⟩ (c6_has l g   ((C.1 0).1 5) x1) (va_cwS 2 hts gX6_mend_X6_has rfl rfl rfl (by decide +kernel) ⟨Nat.le_of_ble_eq_true rfl, Nat.le_of_ble_eq_true rfl⟩) (z_rpre z_nil hK) rfl rfl hl.1 rfl (lv_room (Nat.le_of_ble_eq_true rfl)) dX6_mend_18 ⟨Nat.zero_le _, Nat.zero_le _⟩) ?_
    refine lv_if_eq (tgt := 27) hx hb dX6_mend_21 (by decide) (fun c2 => ?_) (fun c2 => ?_)
    · have hF := zit c2 hF
      refine lv_iconst (v := 0) hx hb dX6_mend_27 (by decide) ?_
      refine lv_istore_n (lv' := [(2, .int 0), (0, .ref (q 0)), (1, .int x1)]) hx hb dX6_mend_28 rfl hl (by decide) rfl (fun ls hl => ?_)
      have L29 : ∀ (n29 : Nat) (y3 : Int32) (C4 : Cs) (H : Heap) (locs : List Loc) (ls : Array Slot), f6_mend_l29 x1 n29 y3 C4 = some (ro, C_o) → va_P (zD g) vwCl (CW g q C4) H → va_D A (CW g q C4) → va_S A s.heap H locs → lv_has ls 3 [(0, .ref (q 0)), (1, .int x1), (2, .int y3)] → W p l e (headSpec wsX6_mend rmX6_mend).room s m args below meth c H locs 0 0 (MQ below (zWQ g A (CW g q C_o) (some (.int ro))) args s 0 0 A) (F0 m 29 ls []) := by
        intro n29
        induction n29 with
        | zero =>
          intro y3 C4 H locs ls hF hP hD hS hl
          exact absurd (show (none : Option (Int32 × Cs)) = some _ from hF) (fun h9 => by cases h9)
        | succ n29 ih29 =>
          intro y3 C4 H locs ls hF hP hD hS hl
          rw [f6_mend_l29] at hF
          refine lv_iload_n hx hb dX6_mend_29 rfl (lv_at hl 2 rfl) ?_
          refine lv_aload_n hx hb dX6_mend_30 rfl (lv_at hl 0 rfl) ?_
          refine z_get (ci := 6) (v := .ref (q (13 + 2))) (C := RX6) (T := TX6) (N := 13) hx hb hts inX6 hown hK hP 0 rfl rfl 3 (by decide) (List.mem_of_getElem? (i := 3) rfl) rfl rfl dX6_mend_31 ?_
          refine z_get (ci := 3) (v := .int (((C4.2.2.2.2.2.1).1).1 3)) (C := RX3) (T := TX3) (N := 13) hx hb hts inX3 hown hK hP 15 rfl rfl 3 (by decide) (List.mem_of_getElem? (i := 4) rfl) rfl rfl dX6_mend_34 ?_
          refine lv_icmp_ge (tgt := 95) hx hb dX6_mend_37 (by decide) (fun c5 => ?_) (fun c5 => ?_)
          · have hF := zit c5 hF
            refine lv_bipush (v := (-9)) hx hb dX6_mend_95 (by decide) ?_
            cases hF
            exact z_wi hx hb hr hlk hP hD hS rfl rfl dX6_mend_97
          · have hF := zif c5 hF
            refine lv_aload_n hx hb dX6_mend_40 rfl (lv_at hl 0 rfl) ?_
            refine z_get (ci := 6) (v := .ref (q 28)) (C := RX6) (T := TX6) (N := 13) hx hb hts inX6 hown hK hP 0 rfl rfl 5 (by decide) (List.mem_of_getElem? (i := 5) rfl) rfl rfl dX6_mend_41 ?_
            refine lv_aload_n hx hb dX6_mend_44 rfl (lv_at hl 0 rfl) ?_
            refine z_get (ci := 6) (v := .ref (q 23)) (C := RX6) (T := TX6) (N := 13) hx hb hts inX6 hown hK hP 0 rfl rfl 4 (by decide) (List.mem_of_getElem? (i := 1) rfl) rfl rfl dX6_mend_45 ?_
            obtain ⟨M6, hM6, hF⟩ := zob hF
            refine z_wgo (wn := CW g q (cM C4 1 M6)) (va_runV (As := [.ref (q 23)]) (rest := []) ⟨hx, hb, hml, hown, hts⟩ ((c2_copy l g q 28 q 23 (C4.1 1) (C4.1 0)   M6 hM6) H.size) (cwV 1 hts gX6_mend_X2_copy rfl rfl rfl (by decide +kernel) ⟨Nat.le_of_ble_eq_true rfl, Nat.le_of_ble_eq_true rfl⟩) (z_wpreV (ci := 2) (q := (RX2, TX2, 9)) (q0 := 0) (hP.sub (ws' := (OW g q 28 (C4.1 1) ++ OW g q 23 (C4.1 0))) [28, 29, 30, 31, 32, 23, 24, 25, 26, 27] rfl) hK (z_any (hD.sub (ws' := (OW g q 28 (C4.1 1) ++ OW g q 23 (C4.1 0))) [28, 29, 30, 31, 32, 23, 24, 25, 26, 27] (by decide) rfl)) rfl rfl) rfl rfl hl.1 rfl (lv_room (Nat.le_of_ble_eq_true rfl)) dX6_mend_48 ⟨Nat.zero_le _, Nat.zero_le _⟩) hP hD hS hA [28, 29, 30, 31, 32, 23, 24, 25, 26, 27] rfl (by decide) rfl rfl (fun H locs hP hD hS => ?_)
            show W p l e (headSpec wsX6_mend rmX6_mend).room s m args below meth c H locs 0 0 (MQ below (zWQ g A (CW g q C_o) (some (.int ro))) args s 0 0 A) (F0 m 51 ls [])
            obtain ⟨C7, eC7⟩ : ∃ y : Cs, y = (cM C4 1 M6) := ⟨_, rfl⟩
            rw [← eC7] at hP hD
            have hF := bd_eq eC7 hF
            refine lv_aload_n hx hb dX6_mend_51 rfl (lv_at hl 0 rfl) ?_
            refine z_get (ci := 6) (v := .ref (q 28)) (C := RX6) (T := TX6) (N := 13) hx hb hts inX6 hown hK hP 0 rfl rfl 5 (by decide) (List.mem_of_getElem? (i := 5) rfl) rfl rfl dX6_mend_52 ?_
            refine lv_iload_n hx hb dX6_mend_55 rfl (lv_at hl 2 rfl) ?_
            obtain ⟨M8, hM8, hF⟩ := zob hF
            refine z_wgo (wn := CW g q (cM C7 1 M8)) (va_runV (As := [.int y3]) (rest := []) ⟨hx, hb, hml, hown, hts⟩ ((c2_turnPipe l g q 28 (C7.1 1) y3  M8 hM8) H.size) (cwV 1 hts gX6_mend_X2_turnPipe rfl rfl rfl (by decide +kernel) ⟨Nat.le_of_ble_eq_true rfl, Nat.le_of_ble_eq_true rfl⟩) (z_wpreV (ci := 2) (q := (RX2, TX2, 9)) (q0 := 0) (hP.sub (ws' := OW g q 28 (C7.1 1)) [28, 29, 30, 31, 32] rfl) hK (z_any (hD.sub (ws' := OW g q 28 (C7.1 1)) [28, 29, 30, 31, 32] (by decide) rfl)) rfl rfl) rfl rfl hl.1 rfl (lv_room (Nat.le_of_ble_eq_true rfl)) dX6_mend_56 ⟨Nat.zero_le _, Nat.zero_le _⟩) hP hD hS hA [28, 29, 30, 31, 32] rfl (by decide) rfl rfl (fun H locs hP hD hS => ?_)
            show W p l e (headSpec wsX6_mend rmX6_mend).room s m args below meth c H locs 0 0 (MQ below (zWQ g A (CW g q C_o) (some (.int ro))) args s 0 0 A) (F0 m 59 ls [])
            obtain ⟨C9, eC9⟩ : ∃ y : Cs, y = (cM C7 1 M8) := ⟨_, rfl⟩
            rw [← eC9] at hP hD
            have hF := bd_eq eC9 hF
            refine lv_aload_n hx hb dX6_mend_59 rfl (lv_at hl 0 rfl) ?_
            refine z_get (ci := 6) (v := .ref (q 28)) (C := RX6) (T := TX6) (N := 13) hx hb hts inX6 hown hK hP 0 rfl rfl 5 (by decide) (List.mem_of_getElem? (i := 5) rfl) rfl rfl dX6_mend_60 ?_
            refine lv_iload_n hx hb dX6_mend_63 rfl (lv_at hl 1 rfl) ?_
            refine lv_aload_n hx hb dX6_mend_64 rfl (lv_at hl 0 rfl) ?_
            refine z_get (ci := 6) (v := .ref (q (13 + 2))) (C := RX6) (T := TX6) (N := 13) hx hb hts inX6 hown hK hP 0 rfl rfl 3 (by decide) (List.mem_of_getElem? (i := 3) rfl) rfl rfl dX6_mend_65 ?_
            obtain ⟨⟨v11, M10⟩, hM10, hF⟩ := zob hF
            refine z_wgo (wn := CW g q (cM C9 1 M10)) (va_runV (As := [.int x1, .ref (q (13 + 2))]) (rest := []) ⟨hx, hb, hml, hown, hts⟩ ((c2_goUntilOut l g q 28 q (13 + 2) (C9.1 1) ((C9.2.2.2.2.2.1).1) x1 v11  M10 hM10) H.size) (cwV 2 hts gX6_mend_X2_goUntilOut rfl rfl rfl (by decide +kernel) ⟨Nat.le_of_ble_eq_true rfl, Nat.le_of_ble_eq_true rfl⟩) (z_wpreV (ci := 2) (q := (RX2, TX2, 9)) (q0 := 0) (hP.sub (ws' := (OW g q 28 (C9.1 1) ++ NW g q (13 + 2) ((C9.2.2.2.2.2.1).1))) [28, 29, 30, 31, 32, 15, 16, 17, 18, 19, 20, 21, 22] rfl) hK (z_any (hD.sub (ws' := (OW g q 28 (C9.1 1) ++ NW g q (13 + 2) ((C9.2.2.2.2.2.1).1))) [28, 29, 30, 31, 32, 15, 16, 17, 18, 19, 20, 21, 22] (by decide) rfl)) rfl rfl) rfl rfl hl.1 rfl (lv_room (Nat.le_of_ble_eq_true rfl)) dX6_mend_68 ⟨Nat.zero_le _, Nat.zero_le _⟩) hP hD hS hA [28, 29, 30, 31, 32, 15, 16, 17, 18, 19, 20, 21, 22] rfl (by decide) rfl rfl (fun H locs hP hD hS => ?_)
            show W p l e (headSpec wsX6_mend rmX6_mend).room s m args below meth c H locs 0 0 (MQ below (zWQ g A (CW g q C_o) (some (.int ro))) args s 0 0 A) (F0 m 71 ls [.int v11])
            obtain ⟨C12, eC12⟩ : ∃ y : Cs, y = (cM C9 1 M10) := ⟨_, rfl⟩
            rw [← eC12] at hP hD
            have hF := bd_eq eC12 hF
            refine lv_pop hx hb dX6_mend_71 rfl ?_
            refine lv_aload_n hx hb dX6_mend_72 rfl (lv_at hl 0 rfl) ?_
            refine z_get (ci := 6) (v := .ref (q 28)) (C := RX6) (T := TX6) (N := 13) hx hb hts inX6 hown hK hP 0 rfl rfl 5 (by decide) (List.mem_of_getElem? (i := 5) rfl) rfl rfl dX6_mend_73 ?_
            refine lv_iload_n hx hb dX6_mend_76 rfl (lv_at hl 1 rfl) ?_
            refine lv_aload_n hx hb dX6_mend_77 rfl (lv_at hl 0 rfl) ?_
            refine z_get (ci := 6) (v := .ref (q (13 + 2))) (C := RX6) (T := TX6) (N := 13) hx hb hts inX6 hown hK hP 0 rfl rfl 3 (by decide) (List.mem_of_getElem? (i := 3) rfl) rfl rfl dX6_mend_78 ?_
            refine z_rgo (va_runV (As := [.int x1, .ref (q (13 + 2))]) (rest := []) ⟨hx, hb, hml, hown, hts⟩ (c2_isRight l g q 28 q (13 + 2) (C12.1 1) ((C12.2.2.2.2.2.1).1) x1) (cwV 2 hts gX6_mend_X2_isRight rfl rfl rfl (by decide +kernel) ⟨Nat.le_of_ble_eq_true rfl, Nat.le_of_ble_eq_true rfl⟩) (z_rpreV (ci := 2) (q := (RX2, TX2, 9)) (q0 := 0) (hP.sub (ws' := (OW g q 28 (C12.1 1) ++ NW g q (13 + 2) ((C12.2.2.2.2.2.1).1))) [28, 29, 30, 31, 32, 15, 16, 17, 18, 19, 20, 21, 22] rfl) hK rfl rfl) rfl rfl hl.1 rfl (lv_room (Nat.le_of_ble_eq_true rfl)) dX6_mend_81 ⟨Nat.zero_le _, Nat.zero_le _⟩) ?_
            refine lv_if_eq (tgt := 89) hx hb dX6_mend_84 (by decide) (fun c13 => ?_) (fun c13 => ?_)
            · have hF := zit c13 hF
              refine lv_iinc (v := (y3 + 1)) (lv' := [(2, .int (y3 + 1)), (0, .ref (q 0)), (1, .int x1)]) hx hb dX6_mend_89 hl (k := 2) rfl rfl (by decide) rfl (fun ls hl => ?_)
              refine lv_goto (tgt := 29) hx hb dX6_mend_92 (by decide) ?_
              exact ih29 (y3 + 1) C12 H locs ls hF hP hD hS (lv_sub hl [1, 2, 0] rfl)
            · have hF := zif c13 hF
              refine lv_iload_n hx hb dX6_mend_87 rfl (lv_at hl 2 rfl) ?_
              cases hF
              exact z_wi hx hb hr hlk hP hD hS rfl rfl dX6_mend_88
      exact L29 FU 0 C H locs ls hF hP hD hS (lv_sub hl [1, 2, 0] rfl)
    · have hF := zif c2 hF
      refine lv_bipush (v := (-3)) hx hb dX6_mend_24 (by decide) ?_
      cases hF
      exact z_wi hx hb hr hlk hP hD hS rfl rfl dX6_mend_26
  · have hF := zif c1 hF
    refine lv_iconst (v := (-1)) hx hb dX6_mend_8 (by decide) ?_
    cases hF
    exact z_wi hx hb hr hlk hP hD hS rfl rfl dX6_mend_9
def f6_net (C : Cs) : Option (Int32 × Cs) := (f4_read (C.2.2.2.2.1) (C.2.2.2.1)).bind fun (v2, R1) => bd (cCk C R1) (fun (C3 : Cs) => if v2 = (-9) then (f4_read (C3.2.2.2.2.2.1) (C3.2.2.2.1)).bind fun (v6, R5) => bd (cMk C3 R5) (fun (C7 : Cs) => (f2_begin (C7.1 0) ((C7.2.2.2.2.2.1).1)).bind fun M8 => bd (cM C7 0 M8) (fun (C9 : Cs) => bd (cRn C9 0) (fun (C10 : Cs) => bd (cKp C10 0) (fun (C11 : Cs) => some ((((100 * (((C11.2.2.2.2.2.1).1).1 2)) + (10 * (((C11.2.2.2.2.2.1).1).1 3))) + (((C11.2.2.2.2.2.1).1).1 4)), C11))))) else some ((-3), C3))
abbrev rmX6_net : Room := { frames := 6, cells := 0, slots := 0, locals := 133 }
set_option maxHeartbeats 4000000 in
set_option maxRecDepth 100000 in
theorem c6_net (l : Launch) (g : zG) (q : Nat → Nat) (C : Cs) (ro : Int32) (C_o : Cs) (hF : f6_net C = some (ro, C_o)) : zRW l g yX6_net wsX6_net rmX6_net [.ref (q 0)] (CW g q C) (some (.int ro)) (CW g q C_o) := by
  refine zRW_of (cc := cX6_net) (maxL := 1) (ret := (some .int)) (by decide) rfl (Nat.le_of_ble_eq_true rfl) ?_
  intro p e s m args below meth c A H locs ls hx hb hr hml hts hown hlk hK hA hP hD hS hl
  have hown : s.vm.findClass RX6 = some m.cls := hown
  have hl : lv_has ls 1 [(0, .ref (q 0))] := hl
  have inX3 : ∀ w ∈ wsX30, w ∈ wsX6_net := fun _ h => List.mem_cons_of_mem _ (List.mem_append_left _ (List.mem_append_left _ (List.mem_append_left _ (List.mem_append_right _ h))))
  have inX5 : ∀ w ∈ wsX50, w ∈ wsX6_net := fun _ h => List.mem_cons_of_mem _ (List.mem_append_left _ (List.mem_append_left _ (List.mem_append_left _ (List.mem_append_left _ (List.mem_append_right _ h)))))
  have inX6 : ∀ w ∈ wsX60, w ∈ wsX6_net := fun _ h => List.mem_cons_of_mem _ (List.mem_append_left _ (List.mem_append_left _ (List.mem_append_left _ (List.mem_append_left _ (List.mem_append_left _ (List.mem_append_right _ h))))))
  unfold f6_net at hF
  refine lv_aload_n hx hb dX6_net_0 rfl (lv_at hl 0 rfl) ?_
  refine z_get (ci := 6) (v := .ref (q 3)) (C := RX6) (T := TX6) (N := 13) hx hb hts inX6 hown hK hP 0 rfl rfl 1 (by decide) (List.mem_of_getElem? (i := 1) rfl) rfl rfl dX6_net_1 ?_
  refine lv_aload_n hx hb dX6_net_4 rfl (lv_at hl 0 rfl) ?_
  refine z_get (ci := 6) (v := .ref (q 1)) (C := RX6) (T := TX6) (N := 13) hx hb hts inX6 hown hK hP 0 rfl rfl 0 (by decide) (List.mem_of_getElem? (i := 2) rfl) rfl rfl dX6_net_5 ?_
  obtain ⟨⟨v2, R1⟩, hR1, hF⟩ := zob hF
  refine z_wgo (wn := CW g q (cCk C R1)) (va_runV (As := [.ref (q 1)]) (rest := []) ⟨hx, hb, hml, hown, hts⟩ ((c4_read l g q 3 q 1 (C.2.2.2.2.1) (C.2.2.2.1)  v2  R1 hR1) H.size) (cwV 1 hts gX6_net_X4_read rfl rfl rfl (by decide +kernel) ⟨Nat.le_of_ble_eq_true rfl, Nat.le_of_ble_eq_true rfl⟩) (z_wpreV (ci := 4) (q := (RX4, TX4, 4)) (q0 := 0) (hP.sub (ws' := (RW g q 3 (C.2.2.2.2.1) ++ LW g q 1 (C.2.2.2.1))) [3, 4, 5, 6, 7, 8, 9, 10, 11, 12, 1, 2] rfl) hK (z_any (hD.sub (ws' := (RW g q 3 (C.2.2.2.2.1) ++ LW g q 1 (C.2.2.2.1))) [3, 4, 5, 6, 7, 8, 9, 10, 11, 12, 1, 2] (by decide) rfl)) rfl rfl) rfl rfl hl.1 rfl (lv_room (Nat.le_of_ble_eq_true rfl)) dX6_net_8 ⟨Nat.zero_le _, Nat.zero_le _⟩) hP hD hS hA [3, 4, 5, 6, 7, 8, 9, 10, 11, 12, 1, 2] rfl (by decide) rfl rfl (fun H locs hP hD hS => ?_)
  show W p l e (headSpec wsX6_net rmX6_net).room s m args below meth c H locs 0 0 (MQ below (zWQ g A (CW g q C_o) (some (.int ro))) args s 0 0 A) (F0 m 11 ls [.int v2])
  obtain ⟨C3, eC3⟩ : ∃ y : Cs, y = (cCk C R1) := ⟨_, rfl⟩
  rw [← eC3] at hP hD
  have hF := bd_eq eC3 hF
  refine lv_bipush (v := (-9)) hx hb dX6_net_11 (by decide) ?_
  refine lv_icmp_eq (tgt := 19) hx hb dX6_net_13 (by decide) (fun c4 => ?_) (fun c4 => ?_)
  · have hF := zit c4 hF
    refine lv_aload_n hx hb dX6_net_19 rfl (lv_at hl 0 rfl) ?_
    refine z_get (ci := 6) (v := .ref (q 13)) (C := RX6) (T := TX6) (N := 13) hx hb hts inX6 hown hK hP 0 rfl rfl 2 (by decide) (List.mem_of_getElem? (i := 3) rfl) rfl rfl dX6_net_20 ?_
    refine lv_aload_n hx hb dX6_net_23 rfl (lv_at hl 0 rfl) ?_
    refine z_get (ci := 6) (v := .ref (q 1)) (C := RX6) (T := TX6) (N := 13) hx hb hts inX6 hown hK hP 0 rfl rfl 0 (by decide) (List.mem_of_getElem? (i := 2) rfl) rfl rfl dX6_net_24 ?_
    obtain ⟨⟨v6, R5⟩, hR5, hF⟩ := zob hF
    refine z_wgo (wn := CW g q (cMk C3 R5)) (va_runV (As := [.ref (q 1)]) (rest := []) ⟨hx, hb, hml, hown, hts⟩ ((c4_read l g q 13 q 1 (C3.2.2.2.2.2.1) (C3.2.2.2.1)  v6  R5 hR5) H.size) (cwV 1 hts gX6_net_X4_read rfl rfl rfl (by decide +kernel) ⟨Nat.le_of_ble_eq_true rfl, Nat.le_of_ble_eq_true rfl⟩) (z_wpreV (ci := 4) (q := (RX4, TX4, 4)) (q0 := 0) (hP.sub (ws' := (RW g q 13 (C3.2.2.2.2.2.1) ++ LW g q 1 (C3.2.2.2.1))) [13, 14, 15, 16, 17, 18, 19, 20, 21, 22, 1, 2] rfl) hK (z_any (hD.sub (ws' := (RW g q 13 (C3.2.2.2.2.2.1) ++ LW g q 1 (C3.2.2.2.1))) [13, 14, 15, 16, 17, 18, 19, 20, 21, 22, 1, 2] (by decide) rfl)) rfl rfl) rfl rfl hl.1 rfl (lv_room (Nat.le_of_ble_eq_true rfl)) dX6_net_27 ⟨Nat.zero_le _, Nat.zero_le _⟩) hP hD hS hA [13, 14, 15, 16, 17, 18, 19, 20, 21, 22, 1, 2] rfl (by decide) rfl rfl (fun H locs hP hD hS => ?_)
    show W p l e (headSpec wsX6_net rmX6_net).room s m args below meth c H locs 0 0 (MQ below (zWQ g A (CW g q C_o) (some (.int ro))) args s 0 0 A) (F0 m 30 ls [.int v6])
    obtain ⟨C7, eC7⟩ : ∃ y : Cs, y = (cMk C3 R5) := ⟨_, rfl⟩
    rw [← eC7] at hP hD
    have hF := bd_eq eC7 hF
    refine lv_pop hx hb dX6_net_30 rfl ?_
    refine lv_aload_n hx hb dX6_net_31 rfl (lv_at hl 0 rfl) ?_
    refine z_get (ci := 6) (v := .ref (q 23)) (C := RX6) (T := TX6) (N := 13) hx hb hts inX6 hown hK hP 0 rfl rfl 4 (by decide) (List.mem_of_getElem? (i := 4) rfl) rfl rfl dX6_net_32 ?_
    refine lv_aload_n hx hb dX6_net_35 rfl (lv_at hl 0 rfl) ?_
    refine z_get (ci := 6) (v := .ref (q (13 + 2))) (C := RX6) (T := TX6) (N := 13) hx hb hts inX6 hown hK hP 0 rfl rfl 3 (by decide) (List.mem_of_getElem? (i := 5) rfl) rfl rfl dX6_net_36 ?_
    obtain ⟨M8, hM8, hF⟩ := zob hF
    refine z_wgo (wn := CW g q (cM C7 0 M8)) (va_runV (As := [.ref (q (13 + 2))]) (rest := []) ⟨hx, hb, hml, hown, hts⟩ ((c2_begin l g q 23 q (13 + 2) (C7.1 0) ((C7.2.2.2.2.2.1).1)   M8 hM8) H.size) (cwV 1 hts gX6_net_X2_begin rfl rfl rfl (by decide +kernel) ⟨Nat.le_of_ble_eq_true rfl, Nat.le_of_ble_eq_true rfl⟩) (z_wpreV (ci := 2) (q := (RX2, TX2, 9)) (q0 := 0) (hP.sub (ws' := (OW g q 23 (C7.1 0) ++ NW g q (13 + 2) ((C7.2.2.2.2.2.1).1))) [23, 24, 25, 26, 27, 15, 16, 17, 18, 19, 20, 21, 22] rfl) hK (z_any (hD.sub (ws' := (OW g q 23 (C7.1 0) ++ NW g q (13 + 2) ((C7.2.2.2.2.2.1).1))) [23, 24, 25, 26, 27, 15, 16, 17, 18, 19, 20, 21, 22] (by decide) rfl)) rfl rfl) rfl rfl hl.1 rfl (lv_room (Nat.le_of_ble_eq_true rfl)) dX6_net_39 ⟨Nat.zero_le _, Nat.zero_le _⟩) hP hD hS hA [23, 24, 25, 26, 27, 15, 16, 17, 18, 19, 20, 21, 22] rfl (by decide) rfl rfl (fun H locs hP hD hS => ?_)
    show W p l e (headSpec wsX6_net rmX6_net).room s m args below meth c H locs 0 0 (MQ below (zWQ g A (CW g q C_o) (some (.int ro))) args s 0 0 A) (F0 m 42 ls [])
    obtain ⟨C9, eC9⟩ : ∃ y : Cs, y = (cM C7 0 M8) := ⟨_, rfl⟩
    rw [← eC9] at hP hD
    have hF := bd_eq eC9 hF
    refine lv_aload_n hx hb dX6_net_42 rfl (lv_at hl 0 rfl) ?_
    refine z_get (ci := 6) (v := .ref (q 34)) (C := RX6) (T := TX6) (N := 13) hx hb hts inX6 hown hK hP 0 rfl rfl 7 (by decide) (List.mem_of_getElem? (i := 6) rfl) rfl rfl dX6_net_43 ?_
    refine lv_iconst (v := 0) hx hb dX6_net_46 (by decide) ?_
    refine z_put (ci := 5) (v := .int 0) (C := RX5) (T := TX5) (N := 2) (ws' := CW g q (cRn C9 0)) hx hb hts inX5 tyX5 tyX5_ok nmX5 hown hK hP hD hS 34 rfl rfl 1 (by decide) (List.mem_of_getElem? (i := 7) rfl) rfl rfl rfl rfl (Nat.le_of_ble_eq_true rfl) rfl dX6_net_47 (fun H locs hP hD hS => ?_)
    obtain ⟨C10, eC10⟩ : ∃ y : Cs, y = (cRn C9 0) := ⟨_, rfl⟩
    rw [← eC10] at hP hD
    have hF := bd_eq eC10 hF
    refine lv_aload_n hx hb dX6_net_50 rfl (lv_at hl 0 rfl) ?_
    refine lv_iconst (v := 0) hx hb dX6_net_51 (by decide) ?_
    refine z_put (ci := 6) (v := .int 0) (C := RX6) (T := TX6) (N := 13) (ws' := CW g q (cKp C10 0)) hx hb hts inX6 tyX6 tyX6_ok nmX6 hown hK hP hD hS 0 rfl rfl 11 (by decide) (List.mem_of_getElem? (i := 8) rfl) rfl rfl rfl rfl (Nat.le_of_ble_eq_true rfl) rfl dX6_net_52 (fun H locs hP hD hS => ?_)
    obtain ⟨C11, eC11⟩ : ∃ y : Cs, y = (cKp C10 0) := ⟨_, rfl⟩
    rw [← eC11] at hP hD
    have hF := bd_eq eC11 hF
    refine lv_bipush (v := 100) hx hb dX6_net_55 (by decide) ?_
    refine lv_aload_n hx hb dX6_net_57 rfl (lv_at hl 0 rfl) ?_
    refine z_get (ci := 6) (v := .ref (q (13 + 2))) (C := RX6) (T := TX6) (N := 13) hx hb hts inX6 hown hK hP 0 rfl rfl 3 (by decide) (List.mem_of_getElem? (i := 5) rfl) rfl rfl dX6_net_58 ?_
    refine z_get (ci := 3) (v := .int (((C11.2.2.2.2.2.1).1).1 2)) (C := RX3) (T := TX3) (N := 13) hx hb hts inX3 hown hK hP 15 rfl rfl 2 (by decide) (List.mem_of_getElem? (i := 9) rfl) rfl rfl dX6_net_61 ?_
    refine lv_imul hx hb dX6_net_64 ?_
    refine lv_bipush (v := 10) hx hb dX6_net_65 (by decide) ?_
    refine lv_aload_n hx hb dX6_net_67 rfl (lv_at hl 0 rfl) ?_
    refine z_get (ci := 6) (v := .ref (q (13 + 2))) (C := RX6) (T := TX6) (N := 13) hx hb hts inX6 hown hK hP 0 rfl rfl 3 (by decide) (List.mem_of_getElem? (i := 5) rfl) rfl rfl dX6_net_68 ?_
    refine z_get (ci := 3) (v := .int (((C11.2.2.2.2.2.1).1).1 3)) (C := RX3) (T := TX3) (N := 13) hx hb hts inX3 hown hK hP 15 rfl rfl 3 (by decide) (List.mem_of_getElem? (i := 10) rfl) rfl rfl dX6_net_71 ?_
    refine lv_imul hx hb dX6_net_74 ?_
    refine lv_iadd hx hb dX6_net_75 ?_
    refine lv_aload_n hx hb dX6_net_76 rfl (lv_at hl 0 rfl) ?_
    refine z_get (ci := 6) (v := .ref (q (13 + 2))) (C := RX6) (T := TX6) (N := 13) hx hb hts inX6 hown hK hP 0 rfl rfl 3 (by decide) (List.mem_of_getElem? (i := 5) rfl) rfl rfl dX6_net_77 ?_
    refine z_get (ci := 3) (v := .int (((C11.2.2.2.2.2.1).1).1 4)) (C := RX3) (T := TX3) (N := 13) hx hb hts inX3 hown hK hP 15 rfl rfl 4 (by decide) (List.mem_of_getElem? (i := 11) rfl) rfl rfl dX6_net_80 ?_
    refine lv_iadd hx hb dX6_net_83 ?_
    cases hF
    exact z_wi hx hb hr hlk hP hD hS rfl rfl dX6_net_84
  · have hF := zif c4 hF
    refine lv_bipush (v := (-3)) hx hb dX6_net_16 (by decide) ?_
    cases hF
    exact z_wi hx hb hr hlk hP hD hS rfl rfl dX6_net_18
def f6_pipe (C : Cs) (x1 : Int32) (x2 : Int32) : Int32 := if (f6_isNoPipe C x1) = 0 then if x2 = 0 then (f6_cell 8 (((C.2.2.2.2.2.1).1).2 7) x1) else if x2 = 1 then (f6_cell 8 (((C.2.2.2.2.2.1).1).2 8) x1) else if x2 = 2 then (f6_flag (f6_has ((C.1 0).1 6) x1)) else (-2) else (-1)
abbrev rmX6_pipe : Room := { frames := 1, cells := 0, slots := 0, locals := 21 }
set_option maxHeartbeats 4000000 in
set_option maxRecDepth 100000 in
theorem c6_pipe (l : Launch) (g : zG) (q : Nat → Nat) (C : Cs) (x1 : Int32) (x2 : Int32) : zRO l g yX6_pipe wsX6_pipe rmX6_pipe [.ref (q 0), .int x1, .int x2] (CW g q C) (some (.int (f6_pipe C x1 x2))) := by
  obtain ⟨ro, hF⟩ : ∃ y : Int32, f6_pipe C x1 x2 = y := ⟨_, rfl⟩
  rw [hF]
  refine zRO_of (cc := cX6_pipe) (maxL := 3) (ret := (some .int)) (by decide) rfl (Nat.le_of_ble_eq_true rfl) ?_
  intro p e s m args below meth c ls hx hb hr hml hts hown hlk hK hP hl
  have hown : s.vm.findClass RX6 = some m.cls := hown
  have hl : lv_has ls 3 [(0, .ref (q 0)), (1, .int x1), (2, .int x2)] := hl
  have inX2 : ∀ w ∈ wsX20, w ∈ wsX6_pipe := fun _ h => List.mem_cons_of_mem _ (List.mem_append_right _ h)
  have inX3 : ∀ w ∈ wsX30, w ∈ wsX6_pipe := fun _ h => List.mem_cons_of_mem _ (List.mem_append_left _ (List.mem_append_right _ h))
  have inX6 : ∀ w ∈ wsX60, w ∈ wsX6_pipe := fun _ h => List.mem_cons_of_mem _ (List.mem_append_left _ (List.mem_append_left _ (List.mem_append_right _ h)))
  unfold f6_pipe at hF
  refine lv_aload_n hx hb dX6_pipe_0 rfl (lv_at hl 0 rfl) ?_
  refine lv_iload_n hx hb dX6_pipe_1 rfl (lv_at hl 1 rfl) ?_
  refine z_rgo (va_runV (As := [.int x1]) (rest := []) ⟨hx, hb, hml, hown, hts⟩ (c6_isNoPipe l g q C x1) (cwV 1 hts gX6_pipe_X6_isNoPipe rfl rfl rfl (by decide +kernel) ⟨Nat.le_of_ble_eq_true rfl, Nat.le_of_ble_eq_true rfl⟩) (z_rpreV (ci := 6) (q := (RX6, TX6, 13)) (q0 := 0) hP hK rfl rfl) rfl rfl hl.1 rfl (lv_room (Nat.le_of_ble_eq_true rfl)) dX6_pipe_2 ⟨Nat.zero_le _, Nat.zero_le _⟩) ?_
  refine lv_if_eq (tgt := 10) hx hb dX6_pipe_5 (by decide) (fun c1 => ?_) (fun c1 => ?_)
  · have hF := zit c1 hF
    refine lv_iload_n hx hb dX6_pipe_10 rfl (lv_at hl 2 rfl) ?_
    by_cases c2 : x2 = 0
    · have hF := zit c2 hF
      refine z_tin (k := 0) (tgt := 36) hx hb dX6_pipe_11 c2 ⟨by decide, by decide, rfl, by decide⟩ ?_
      refine lv_aload_n hx hb dX6_pipe_36 rfl (lv_at hl 0 rfl) ?_
      refine z_get (ci := 6) (v := .ref (q (13 + 2))) (C := RX6) (T := TX6) (N := 13) hx hb hts inX6 hown hK hP 0 rfl rfl 3 (by decide) (List.mem_of_getElem? (i := 1) rfl) rfl rfl dX6_pipe_37 ?_
      refine z_get (ci := 3) (v := .ref (q ((13 + 2) + 2))) (C := RX3) (T := TX3) (N := 13) hx hb hts inX3 hown hK hP 15 rfl rfl 7 (by decide) (List.mem_of_getElem? (i := 2) rfl) rfl rfl dX6_pipe_40 ?_
      refine lv_iload_n hx hb dX6_pipe_43 rfl (lv_at hl 1 rfl) ?_
      refine z_rgo (va_runS (As := [.ref (q ((13 + 2) + 2)), .int x1]) (rest := []) ⟨hx, hb, hml, hown, hts⟩ (c6_cell l g (q ((13 + 2) + 2)) 8 (by decide) (((C.2.2.2.2.2.1).1).2 7) x1) (va_cwS 2 hts gX6_pipe_X6_cell rfl rfl rfl (by decide +kernel) ⟨Nat.le_of_ble_eq_true rfl, Nat.le_of_ble_eq_true rfl⟩) (z_rpre (hP.sub (ws' := [((q ((13 + 2) + 2)), .inl (g.2.2.1, 8, .inl (((C.2.2.2.2.2.1).1).2 7)))]) [17] rfl) hK) rfl rfl hl.1 rfl (lv_room (Nat.le_of_ble_eq_true rfl)) dX6_pipe_44 ⟨Nat.zero_le _, Nat.zero_le _⟩) ?_
      subst hF
      exact z_ri hx hb hr hlk rfl dX6_pipe_47
    · have hF := zif c2 hF
      by_cases c3 : x2 = 1
      · have hF := zit c3 hF
        refine z_tin (k := 1) (tgt := 48) hx hb dX6_pipe_11 c3 ⟨by decide, by decide, rfl, by decide⟩ ?_
        refine lv_aload_n hx hb dX6_pipe_48 rfl (lv_at hl 0 rfl) ?_
        refine z_get (ci := 6) (v := .ref (q (13 + 2))) (C := RX6) (T := TX6) (N := 13) hx hb hts inX6 hown hK hP 0 rfl rfl 3 (by decide) (List.mem_of_getElem? (i := 1) rfl) rfl rfl dX6_pipe_49 ?_
        refine z_get (ci := 3) (v := .ref (q ((13 + 2) + 3))) (C := RX3) (T := TX3) (N := 13) hx hb hts inX3 hown hK hP 15 rfl rfl 8 (by decide) (List.mem_of_getElem? (i := 3) rfl) rfl rfl dX6_pipe_52 ?_
        refine lv_iload_n hx hb dX6_pipe_55 rfl (lv_at hl 1 rfl) ?_
        refine z_rgo (va_runS (As := [.ref (q ((13 + 2) + 3)), .int x1]) (rest := []) ⟨hx, hb, hml, hown, hts⟩ (c6_cell l g (q ((13 + 2) + 3)) 8 (by decide) (((C.2.2.2.2.2.1).1).2 8) x1) (va_cwS 2 hts gX6_pipe_X6_cell rfl rfl rfl (by decide +kernel) ⟨Nat.le_of_ble_eq_true rfl, Nat.le_of_ble_eq_true rfl⟩) (z_rpre (hP.sub (ws' := [((q ((13 + 2) + 3)), .inl (g.2.2.1, 8, .inl (((C.2.2.2.2.2.1).1).2 8)))]) [18] rfl) hK) rfl rfl hl.1 rfl (lv_room (Nat.le_of_ble_eq_true rfl)) dX6_pipe_56 ⟨Nat.zero_le _, Nat.zero_le _⟩) ?_
        subst hF
        exact z_ri hx hb hr hlk rfl dX6_pipe_59
      · have hF := zif c3 hF
        by_cases c4 : x2 = 2
        · have hF := zit c4 hF
          refine z_tin (k := 2) (tgt := 60) hx hb dX6_pipe_11 c4 ⟨by decide, by decide, rfl, by decide⟩ ?_
          refine lv_aload_n hx hb dX6_pipe_60 rfl (lv_at hl 0 rfl) ?_
          refine z_get (ci := 6) (v := .ref (q 23)) (C := RX6) (T := TX6) (N := 13) hx hb hts inX6 hown hK hP 0 rfl rfl 4 (by decide) (List.mem_of_getElem? (i := 4) rfl) rfl rfl dX6_pipe_61 ?_
          refine z_get (ci := 2) (v := .int ((C.1 0).1 6)) (C := RX2) (T := TX2) (N := 9) hx hb hts inX2 hown hK hP 23 rfl rfl 6 (by decide) (List.mem_of_getElem? (i := 5) rfl) rfl rfl dX6_pipe_64 ?_
          refine lv_iload_n hx hb dX6_pipe_67 rfl (lv_at hl 1 rfl) ?_
          refine z_rgo (va_runS (As := [.int ((C.1 0).1 6), .int x1]) (rest := []) ⟨hx, hb, hml, hown, hts⟩ (c6_has l g   ((C.1 0).1 6) x1) (va_cwS 2 hts gX6_pipe_X6_has rfl rfl rfl (by decide +kernel) ⟨Nat.le_of_ble_eq_true rfl, Nat.le_of_ble_eq_true rfl⟩) (z_rpre z_nil hK) rfl rfl hl.1 rfl (lv_room (Nat.le_of_ble_eq_true rfl)) dX6_pipe_68 ⟨Nat.zero_le _, Nat.zero_le _⟩) ?_
          refine z_rgo (va_runS (As := [.int (f6_has ((C.1 0).1 6) x1)]) (rest := []) ⟨hx, hb, hml, hown, hts⟩ (c6_flag l g   (f6_has ((C.1 0).1 6) x1)) (va_cwS 1 hts gX6_pipe_X6_flag rfl rfl rfl (by decide +kernel) ⟨Nat.le_of_ble_eq_true rfl, Nat.le_of_ble_eq_true rfl⟩) (z_rpre z_nil hK) rfl rfl hl.1 rfl (lv_room (Nat.le_of_ble_eq_true rfl)) dX6_pipe_71 ⟨Nat.zero_le _, Nat.zero_le _⟩) ?_
          subst hF
          exact z_ri hx hb hr hlk rfl dX6_pipe_74
        · have hF := zif c4 hF
          refine z_tout hx hb dX6_pipe_11 [0, 1, 2] (fun k hk => ?_) rfl (tgt := 75) (by decide) ?_
          · simp only [List.mem_cons, List.not_mem_nil, or_false] at hk
            rcases hk with rfl | rfl | rfl <;> assumption
          · refine lv_bipush (v := (-2)) hx hb dX6_pipe_75 (by decide) ?_
            subst hF
            exact z_ri hx hb hr hlk rfl dX6_pipe_77
  · have hF := zif c1 hF
    refine lv_iconst (v := (-1)) hx hb dX6_pipe_8 (by decide) ?_
    subst hF
    exact z_ri hx hb hr hlk rfl dX6_pipe_9
def f6_rests_l84 (v6 : Int32) (v7 : Int32) (y10 : Int32) (k69 : (Int32 → Int32 → Int32 → Cs → Option (Int32 × Cs))) : Nat → Int32 → Int32 → Int32 → Cs → Option (Int32 × Cs)
  | 0, _, _, _, _ => none
  | n84 + 1, y14, y15, y16, C17 => if (((C17.2.2.2.2.2.1).1).1 2) ≤ y16 then k69 y14 y15 (y10 + 1) C17 else (f6_isAtRest C17 y10 y16 v6 v7).bind fun v19 => if v19 = 0 then f6_rests_l84 v6 v7 y10 k69 n84 y14 y15 (y16 + 1) C17 else if y14 = 0 then bd (α := Int32) ((10 * y10) + y16) (fun (v22 : Int32) => f6_rests_l84 v6 v7 y10 k69 n84 (y14 + 1) v22 (y16 + 1) C17) else f6_rests_l84 v6 v7 y10 k69 n84 (y14 + 1) y15 (y16 + 1) C17
def f6_rests_l69 (x3 : Int32) (v6 : Int32) (v7 : Int32) : Nat → Int32 → Int32 → Int32 → Cs → Option (Int32 × Cs)
  | 0, _, _, _, _ => none
  | n69 + 1, y8, y9, y10, C11 => if (((C11.2.2.2.2.2.1).1).1 2) ≤ y10 then if x3 = 0 then some (y8, C11) else some (y9, C11) else f6_rests_l84 v6 v7 y10 (fun y8 y9 y10 C11 => f6_rests_l69 x3 v6 v7 n69 y8 y9 y10 C11) FU y8 y9 0 C11
def f6_rests (C : Cs) (x1 : Int32) (x2 : Int32) (x3 : Int32) : Option (Int32 × Cs) := if (f6_isNoWalker C x1) = 0 then if (f6_isNoWalker C x2) = 0 then if x1 = x2 then some ((-2), C) else if (f6_isNoChoice x3) = 0 then (f6_tryFromNow C 40).bind fun C5 => bd (α := Int32) (f2_outAt (C5.1 1) x1) (fun (v6 : Int32) => bd (α := Int32) (f2_outAt (C5.1 1) x2) (fun (v7 : Int32) => f6_rests_l69 x3 v6 v7 FU 0 (-9) 0 C5)) else some ((-2), C) else some ((-1), C) else some ((-1), C)
abbrev rmX6_rests : Room := { frames := 6, cells := 0, slots := 0, locals := 141 }
set_option maxHeartbeats 4000000 in
set_option maxRecDepth 100000 in
theorem c6_rests (l : Launch) (g : zG) (q : Nat → Nat) (C : Cs) (x1 : Int32) (x2 : Int32) (x3 : Int32) (ro : Int32) (C_o : Cs) (hF : f6_rests C x1 x2 x3 = some (ro, C_o)) : zRW l g yX6_rests wsX6_rests rmX6_rests [.ref (q 0), .int x1, .int x2, .int x3] (CW g q C) (some (.int ro)) (CW g q C_o) := by
  refine zRW_of (cc := cX6_rests) (maxL := 10) (ret := (some .int)) (by decide) rfl (Nat.le_of_ble_eq_true rfl) ?_
  intro p e s m args below meth c A H locs ls hx hb hr hml hts hown hlk hK hA hP hD hS hl
  have hown : s.vm.findClass RX6 = some m.cls := hown
  have hl : lv_has ls 10 [(0, .ref (q 0)), (1, .int x1), (2, .int x2), (3, .int x3)] := hl
  have inX3 : ∀ w ∈ wsX30, w ∈ wsX6_rests := fun _ h => List.mem_cons_of_mem _ (List.mem_append_left _ (List.mem_append_right _ h))
  have inX6 : ∀ w ∈ wsX60, w ∈ wsX6_rests := fun _ h => List.mem_cons_of_mem _ (List.mem_append_left _ (List.mem_append_left _ (List.mem_append_right _ h)))
  unfold f6_rests at hF
  refine lv_aload_n hx hb dX6_rests_0 rfl (lv_at hl 0 rfl) ?_
  refine lv_iload_n hx hb dX6_rests_1 rfl (lv_at hl 1 rfl) ?_
  refine z_rgo (va_runV (As := [.int x1]) (rest := []) ⟨hx, hb, hml, hown, hts⟩ (c6_isNoWalker l g q C x1) (cwV 1 hts gX6_rests_X6_isNoWalker rfl rfl rfl (by decide +kernel) ⟨Nat.le_of_ble_eq_true rfl, Nat.le_of_ble_eq_true rfl⟩) (z_rpreV (ci := 6) (q := (RX6, TX6, 13)) (q0 := 0) hP hK rfl rfl) rfl rfl hl.1 rfl (lv_room (Nat.le_of_ble_eq_true rfl)) dX6_rests_2 ⟨Nat.zero_le _, Nat.zero_le _⟩) ?_
  refine lv_if_ne (tgt := 16) hx hb dX6_rests_5 (by decide) (fun c1 => ?_) (fun c1 => ?_)
  · have hF := zif c1 hF
    refine lv_iconst (v := (-1)) hx hb dX6_rests_16 (by decide) ?_
    cases hF
    exact z_wi hx hb hr hlk hP hD hS rfl rfl dX6_rests_17
  · have hF := zit c1 hF
    refine lv_aload_n hx hb dX6_rests_8 rfl (lv_at hl 0 rfl) ?_
    refine lv_iload_n hx hb dX6_rests_9 rfl (lv_at hl 2 rfl) ?_
    refine z_rgo (va_runV (As := [.int x2]) (rest := []) ⟨hx, hb, hml, hown, hts⟩ (c6_isNoWalker l g q C x2) (cwV 1 hts gX6_rests_X6_isNoWalker rfl rfl rfl (by decide +kernel) ⟨Nat.le_of_ble_eq_true rfl, Nat.le_of_ble_eq_true rfl⟩) (z_rpreV (ci := 6) (q := (RX6, TX6, 13)) (q0 := 0) hP hK rfl rfl) rfl rfl hl.1 rfl (lv_room (Nat.le_of_ble_eq_true rfl)) dX6_rests_10 ⟨Nat.zero_le _, Nat.zero_le _⟩) ?_
    refine lv_if_eq (tgt := 18) hx hb dX6_rests_13 (by decide) (fun c2 => ?_) (fun c2 => ?_)
    · have hF := zit c2 hF
      refine lv_iload_n hx hb dX6_rests_18 rfl (lv_at hl 1 rfl) ?_
      refine lv_iload_n hx hb dX6_rests_19 rfl (lv_at hl 2 rfl) ?_
      refine lv_icmp_eq (tgt := 30) hx hb dX6_rests_20 (by decide) (fun c3 => ?_) (fun c3 => ?_)
      · have hF := zit c3 hF
        refine lv_bipush (v := (-2)) hx hb dX6_rests_30 (by decide) ?_
        cases hF
        exact z_wi hx hb hr hlk hP hD hS rfl rfl dX6_rests_32
      · have hF := zif c3 hF
        refine lv_iload_n hx hb dX6_rests_23 rfl (lv_at hl 3 rfl) ?_
        refine z_rgo (va_runS (As := [.int x3]) (rest := []) ⟨hx, hb, hml, hown, hts⟩ (c6_isNoChoice l g   x3) (va_cwS 1 hts gX6_rests_X6_isNoChoice rfl rfl rfl (by decide +kernel) ⟨Nat.le_of_ble_eq_true rfl, Nat.le_of_ble_eq_true rfl⟩) (z_rpre z_nil hK) rfl rfl hl.1 rfl (lv_room (Nat.le_of_ble_eq_true rfl)) dX6_rests_24 ⟨Nat.zero_le _, Nat.zero_le _⟩) ?_
        refine lv_if_eq (tgt := 33) hx hb dX6_rests_27 (by decide) (fun c4 => ?_) (fun c4 => ?_)
        · have hF := zit c4 hF
          refine lv_aload_n hx hb dX6_rests_33 rfl (lv_at hl 0 rfl) ?_
          refine lv_bipush (v := 40) hx hb dX6_rests_34 (by decide) ?_
          obtain ⟨C5, hC5, hF⟩ := zob hF
          refine z_wgoW (va_runV (As := [.int 40]) (rest := []) ⟨hx, hb, hml, hown, hts⟩ ((c6_tryFromNow l g q C 40  C5 hC5) H.size) (cwV 1 hts gX6_rests_X6_tryFromNow rfl rfl rfl (by decide +kernel) ⟨Nat.le_of_ble_eq_true rfl, Nat.le_of_ble_eq_true rfl⟩) (z_wpreV (ci := 6) (q := (RX6, TX6, 13)) (q0 := 0) hP hK (z_any hD) rfl rfl) rfl rfl hl.1 rfl (lv_room (Nat.le_of_ble_eq_true rfl)) dX6_rests_36 ⟨Nat.zero_le _, Nat.zero_le _⟩) hP hD hS hA (fun H locs hP hD hS => ?_)
          show W p l e (headSpec wsX6_rests rmX6_rests).room s m args below meth c H locs 0 0 (MQ below (zWQ g A (CW g q C_o) (some (.int ro))) args s 0 0 A) (F0 m 39 ls [])
          refine lv_aload_n hx hb dX6_rests_39 rfl (lv_at hl 0 rfl) ?_
          refine z_get (ci := 6) (v := .ref (q 28)) (C := RX6) (T := TX6) (N := 13) hx hb hts inX6 hown hK hP 0 rfl rfl 5 (by decide) (List.mem_of_getElem? (i := 1) rfl) rfl rfl dX6_rests_40 ?_
          refine lv_iload_n hx hb dX6_rests_43 rfl (lv_at hl 1 rfl) ?_
          refine z_rgo (va_runV (As := [.int x1]) (rest := []) ⟨hx, hb, hml, hown, hts⟩ (c2_outAt l g q 28 (C5.1 1) x1) (cwV 1 hts gX6_rests_X2_outAt rfl rfl rfl (by decide +kernel) ⟨Nat.le_of_ble_eq_true rfl, Nat.le_of_ble_eq_true rfl⟩) (z_rpreV (ci := 2) (q := (RX2, TX2, 9)) (q0 := 0) (hP.sub (ws' := OW g q 28 (C5.1 1)) [28, 29, 30, 31, 32] rfl) hK rfl rfl) rfl rfl hl.1 rfl (lv_room (Nat.le_of_ble_eq_true rfl)) dX6_rests_44 ⟨Nat.zero_le _, Nat.zero_le _⟩) ?_
          refine lv_topi (fun v6 ev6 => ?_)
          have hF := bd_eq ev6 hF
          refine lv_istore (lv' := [(4, .int v6), (0, .ref (q 0)), (1, .int x1), (2, .int x2), (3, .int x3)]) hx hb dX6_rests_47 hl (by decide) rfl (fun ls hl => ?_)
          refine lv_aload_n hx hb dX6_rests_49 rfl (lv_at hl 1 rfl) ?_
          refine z_get (ci := 6) (v := .ref (q 28)) (C := RX6) (T := TX6) (N := 13) hx hb hts inX6 hown hK hP 0 rfl rfl 5 (by decide) (List.mem_of_getElem? (i := 1) rfl) rfl rfl dX6_rests_50 ?_
          refine lv_iload_n hx hb dX6_rests_53 rfl (lv_at hl 3 rfl) ?_
          refine z_rgo (va_runV (As := [.int x2]) (rest := []) ⟨hx, hb, hml, hown, hts⟩ (c2_outAt l g q 28 (C5.1 1) x2) (cwV 1 hts gX6_rests_X2_outAt rfl rfl rfl (by decide +kernel) ⟨Nat.le_of_ble_eq_true rfl, Nat.le_of_ble_eq_true rfl⟩) (z_rpreV (ci := 2) (q := (RX2, TX2, 9)) (q0 := 0) (hP.sub (ws' := OW g q 28 (C5.1 1)) [28, 29, 30, 31, 32] rfl) hK rfl rfl) rfl rfl hl.1 rfl (lv_room (Nat.le_of_ble_eq_true rfl)) dX6_rests_54 ⟨Nat.zero_le _, Nat.zero_le _⟩) ?_
          refine lv_topi (fun v7 ev7 => ?_)
          have hF := bd_eq ev7 hF
          refine lv_istore (lv' := [(5, .int v7), (4, .int v6), (0, .ref (q 0)), (1, .int x1), (2, .int x2), (3, .int x3)]) hx hb dX6_rests_57 hl (by decide) rfl (fun ls hl => ?_)
          refine lv_iconst (v := 0) hx hb dX6_rests_59 (by decide) ?_
          refine lv_istore (lv' := [(6, .int 0), (5, .int v7), (4, .int v6), (0, .ref (q 0)), (1, .int x1), (2, .int x2), (3, .int x3)]) hx hb dX6_rests_60 hl (by decide) rfl (fun ls hl => ?_)
          refine lv_bipush (v := (-9)) hx hb dX6_rests_62 (by decide) ?_
          refine lv_istore (lv' := [(7, .int (-9)), (6, .int 0), (5, .int v7), (4, .int v6), (0, .ref (q 0)), (1, .int x1), (2, .int x2), (3, .int x3)]) hx hb dX6_rests_64 hl (by decide) rfl (fun ls hl => ?_)
          refine lv_iconst (v := 0) hx hb dX6_rests_66 (by decide) ?_
          refine lv_istore (lv' := [(8, .int 0), (7, .int (-9)), (6, .int 0), (5, .int v7), (4, .int v6), (0, .ref (q 0)), (1, .int x1), (2, .int x2), (3, .int x3)]) hx hb dX6_rests_67 hl (by decide) rfl (fun ls hl => ?_)
          have L69 : ∀ (n69 : Nat) (y8 : Int32) (y9 : Int32) (y10 : Int32) (C11 : Cs) (H : Heap) (locs : List Loc) (ls : Array Slot), f6_rests_l69 x3 v6 v7 n69 y8 y9 y10 C11 = some (ro, C_o) → va_P (zD g) vwCl (CW g q C11) H → va_D A (CW g q C11) → va_S A s.heap H locs → lv_has ls 10 [(0, .ref (q 0)), (3, .int x3), (4, .int v6), (5, .int v7), (6, .int y8), (7, .int y9), (8, .int y10)] → W p l e (headSpec wsX6_rests rmX6_rests).room s m args below meth c H locs 0 0 (MQ below (zWQ g A (CW g q C_o) (some (.int ro))) args s 0 0 A) (F0 m 69 ls []) := by
            intro n69
            induction n69 with
            | zero =>
              intro y8 y9 y10 C11 H locs ls hF hP hD hS hl
              exact absurd (show (none : Option (Int32 × Cs)) = some _ from hF) (fun h9 => by cases h9)
            | succ n69 ih69 =>
              intro y8 y9 y10 C11 H locs ls hF hP hD hS hl
              rw [f6_rests_l69] at hF
              refine lv_iload hx hb dX6_rests_69 (lv_at hl 6 rfl) ?_
              refine lv_aload_n hx hb dX6_rests_71 rfl (lv_at hl 0 rfl) ?_
              refine z_get (ci := 6) (v := .ref (q (13 + 2))) (C := RX6) (T := TX6) (N := 13) hx hb hts inX6 hown hK hP 0 rfl rfl 3 (by decide) (List.mem_of_getElem? (i := 2) rfl) rfl rfl dX6_rests_72 ?_
              refine z_get (ci := 3) (v := .int (((C11.2.2.2.2.2.1).1).1 2)) (C := RX3) (T := TX3) (N := 13) hx hb hts inX3 hown hK hP 15 rfl rfl 2 (by decide) (List.mem_of_getElem? (i := 3) rfl) rfl rfl dX6_rests_75 ?_
              refine lv_icmp_ge (tgt := 144) hx hb dX6_rests_78 (by decide) (fun c12 => ?_) (fun c12 => ?_)
              · have hF := zit c12 hF
                refine lv_iload_n hx hb dX6_rests_144 rfl (lv_at hl 1 rfl) ?_
                refine lv_if_ne (tgt := 153) hx hb dX6_rests_145 (by decide) (fun c13 => ?_) (fun c13 => ?_)
                · have hF := zif c13 hF
                  refine lv_iload hx hb dX6_rests_153 (lv_at hl 5 rfl) ?_
                  cases hF
                  exact z_wi hx hb hr hlk hP hD hS rfl rfl dX6_rests_155
                · have hF := zit c13 hF
                  refine lv_iload hx hb dX6_rests_148 (lv_at hl 4 rfl) ?_
                  refine lv_goto (tgt := 155) hx hb dX6_rests_150 (by decide) ?_
                  cases hF
                  exact z_wi hx hb hr hlk hP hD hS rfl rfl dX6_rests_155
              · have hF := zif c12 hF
                refine lv_iconst (v := 0) hx hb dX6_rests_81 (by decide) ?_
                refine lv_istore (lv' := [(9, .int 0), (0, .ref (q 0)), (3, .int x3), (4, .int v6), (5, .int v7), (6, .int y8), (7, .int y9), (8, .int y10)]) hx hb dX6_rests_82 hl (by decide) rfl (fun ls hl => ?_)
                have L84 : ∀ (n84 : Nat) (y14 : Int32) (y15 : Int32) (y16 : Int32) (C17 : Cs) (H : Heap) (locs : List Loc) (ls : Array Slot), f6_rests_l84 v6 v7 y10 (fun y8 y9 y10 C11 => f6_rests_l69 x3 v6 v7 n69 y8 y9 y10 C11) n84 y14 y15 y16 C17 = some (ro, C_o) → va_P (zD g) vwCl (CW g q C17) H → va_D A (CW g q C17) → va_S A s.heap H locs → lv_has ls 10 [(0, .ref (q 0)), (3, .int x3), (4, .int v6), (5, .int v7), (6, .int y14), (7, .int y15), (8, .int y10), (9, .int y16)] → W p l e (headSpec wsX6_rests rmX6_rests).room s m args below meth c H locs 0 0 (MQ below (zWQ g A (CW g q C_o) (some (.int ro))) args s 0 0 A) (F0 m 84 ls []) := by
                  intro n84
                  induction n84 with
                  | zero =>
                    intro y14 y15 y16 C17 H locs ls hF hP hD hS hl
                    exact absurd (show (none : Option (Int32 × Cs)) = some _ from hF) (fun h9 => by cases h9)
                  | succ n84 ih84 =>
                    intro y14 y15 y16 C17 H locs ls hF hP hD hS hl
                    rw [f6_rests_l84] at hF
                    refine lv_iload hx hb dX6_rests_84 (lv_at hl 7 rfl) ?_
                    refine lv_aload_n hx hb dX6_rests_86 rfl (lv_at hl 0 rfl) ?_
                    refine z_get (ci := 6) (v := .ref (q (13 + 2))) (C := RX6) (T := TX6) (N := 13) hx hb hts inX6 hown hK hP 0 rfl rfl 3 (by decide) (List.mem_of_getElem? (i := 2) rfl) rfl rfl dX6_rests_87 ?_
                    refine z_get (ci := 3) (v := .int (((C17.2.2.2.2.2.1).1).1 2)) (C := RX3) (T := TX3) (N := 13) hx hb hts inX3 hown hK hP 15 rfl rfl 2 (by decide) (List.mem_of_getElem? (i := 3) rfl) rfl rfl dX6_rests_90 ?_
                    refine lv_icmp_ge (tgt := 138) hx hb dX6_rests_93 (by decide) (fun c18 => ?_) (fun c18 => ?_)
                    · have hF := zit c18 hF
                      refine lv_iinc (v := (y10 + 1)) (lv' := [(8, .int (y10 + 1)), (0, .ref (q 0)), (3, .int x3), (4, .int v6), (5, .int v7), (6, .int y14), (7, .int y15), (9, .int y16)]) hx hb dX6_rests_138 hl (k := 6) rfl rfl (by decide) rfl (fun ls hl => ?_)
                      refine lv_goto (tgt := 69) hx hb dX6_rests_141 (by decide) ?_
                      exact ih69 y14 y15 (y10 + 1) C17 H locs ls hF hP hD hS (lv_sub hl [1, 2, 3, 4, 5, 6, 0] rfl)
                    · have hF := zif c18 hF
                      refine lv_aload_n hx hb dX6_rests_96 rfl (lv_at hl 0 rfl) ?_
                      refine lv_iload hx hb dX6_rests_97 (lv_at hl 6 rfl) ?_
                      refine lv_iload hx hb dX6_rests_99 (lv_at hl 7 rfl) ?_
                      refine lv_iload hx hb dX6_rests_101 (lv_at hl 2 rfl) ?_
                      refine lv_iload hx hb dX6_rests_103 (lv_at hl 3 rfl) ?_
                      obtain ⟨v19, hv19, hF⟩ := zob hF
                      refine z_rgo (va_runV (As := [.int y10, .int y16, .int v6, .int v7]) (rest := []) ⟨hx, hb, hml, hown, hts⟩ (c6_isAtRest l g q C17 y10 y16 v6 v7 v19 hv19) (cwV 4 hts gX6_rests_X6_isAtRest rfl rfl rfl (by decide +kernel) ⟨Nat.le_of_ble_eq_true rfl, Nat.le_of_ble_eq_true rfl⟩) (z_rpreV (ci := 6) (q := (RX6, TX6, 13)) (q0 := 0) hP hK rfl rfl) rfl rfl hl.1 rfl (lv_room (Nat.le_of_ble_eq_true rfl)) dX6_rests_105 ⟨Nat.zero_le _, Nat.zero_le _⟩) ?_
                      refine lv_if_ne (tgt := 114) hx hb dX6_rests_108 (by decide) (fun c20 => ?_) (fun c20 => ?_)
                      · have hF := zif c20 hF
                        refine lv_iload hx hb dX6_rests_114 (lv_at hl 4 rfl) ?_
                        refine lv_if_ne (tgt := 129) hx hb dX6_rests_116 (by decide) (fun c21 => ?_) (fun c21 => ?_)
                        · have hF := zif c21 hF
                          refine lv_iinc (v := (y14 + 1)) (lv' := [(6, .int (y14 + 1)), (0, .ref (q 0)), (3, .int x3), (4, .int v6), (5, .int v7), (7, .int y15), (8, .int y10), (9, .int y16)]) hx hb dX6_rests_129 hl (k := 4) rfl rfl (by decide) rfl (fun ls hl => ?_)
                          refine lv_iinc (v := (y16 + 1)) (lv' := [(9, .int (y16 + 1)), (6, .int (y14 + 1)), (0, .ref (q 0)), (3, .int x3), (4, .int v6), (5, .int v7), (7, .int y15), (8, .int y10)]) hx hb dX6_rests_132 hl (k := 7) rfl rfl (by decide) rfl (fun ls hl => ?_)
                          refine lv_goto (tgt := 84) hx hb dX6_rests_135 (by decide) ?_
                          exact ih84 (y14 + 1) y15 (y16 + 1) C17 H locs ls hF hP hD hS (lv_sub hl [2, 3, 4, 5, 1, 6, 7, 0] rfl)
                        · have hF := zit c21 hF
                          refine lv_bipush (v := 10) hx hb dX6_rests_119 (by decide) ?_
                          refine lv_iload hx hb dX6_rests_121 (lv_at hl 6 rfl) ?_
                          refine lv_imul hx hb dX6_rests_123 ?_
                          refine lv_iload hx hb dX6_rests_124 (lv_at hl 7 rfl) ?_
                          refine lv_iadd hx hb dX6_rests_126 ?_
                          refine lv_topi (fun v22 ev22 => ?_)
                          have hF := bd_eq ev22 hF
                          refine lv_istore (lv' := [(7, .int v22), (0, .ref (q 0)), (3, .int x3), (4, .int v6), (5, .int v7), (6, .int y14), (8, .int y10), (9, .int y16)]) hx hb dX6_rests_127 hl (by decide) rfl (fun ls hl => ?_)
                          refine lv_iinc (v := (y14 + 1)) (lv' := [(6, .int (y14 + 1)), (7, .int v22), (0, .ref (q 0)), (3, .int x3), (4, .int v6), (5, .int v7), (8, .int y10), (9, .int y16)]) hx hb dX6_rests_129 hl (k := 5) rfl rfl (by decide) rfl (fun ls hl => ?_)
                          refine lv_iinc (v := (y16 + 1)) (lv' := [(9, .int (y16 + 1)), (6, .int (y14 + 1)), (7, .int v22), (0, .ref (q 0)), (3, .int x3), (4, .int v6), (5, .int v7), (8, .int y10)]) hx hb dX6_rests_132 hl (k := 7) rfl rfl (by decide) rfl (fun ls hl => ?_)
                          refine lv_goto (tgt := 84) hx hb dX6_rests_135 (by decide) ?_
                          exact ih84 (y14 + 1) v22 (y16 + 1) C17 H locs ls hF hP hD hS (lv_sub hl [3, 4, 5, 6, 1, 2, 7, 0] rfl)
                      · have hF := zit c20 hF
                        refine lv_goto (tgt := 132) hx hb dX6_rests_111 (by decide) ?_
                        refine lv_iinc (v := (y16 + 1)) (lv' := [(9, .int (y16 + 1)), (0, .ref (q 0)), (3, .int x3), (4, .int v6), (5, .int v7), (6, .int y14), (7, .int y15), (8, .int y10)]) hx hb dX6_rests_132 hl (k := 7) rfl rfl (by decide) rfl (fun ls hl => ?_)
                        refine lv_goto (tgt := 84) hx hb dX6_rests_135 (by decide) ?_
                        exact ih84 y14 y15 (y16 + 1) C17 H locs ls hF hP hD hS (lv_sub hl [1, 2, 3, 4, 5, 6, 7, 0] rfl)
                exact L84 FU y8 y9 0 C11 H locs ls hF hP hD hS (lv_sub hl [1, 2, 3, 4, 5, 6, 7, 0] rfl)
          exact L69 FU 0 (-9) 0 C5 H locs ls hF hP hD hS (lv_sub hl [5, 8, 4, 3, 2, 1, 0] rfl)
        · have hF := zif c4 hF
          refine lv_bipush (v := (-2)) hx hb dX6_rests_30 (by decide) ?_
          cases hF
          exact z_wi hx hb hr hlk hP hD hS rfl rfl dX6_rests_32
    · have hF := zif c2 hF
      refine lv_iconst (v := (-1)) hx hb dX6_rests_16 (by decide) ?_
      cases hF
      exact z_wi hx hb hr hlk hP hD hS rfl rfl dX6_rests_17
def f6_rightAmong (C : Cs) (x1 : Int32) : Option (Int32 × Cs) := (f2_copy (C.1 1) (C.1 0)).bind fun M1 => bd (cM C 1 M1) (fun (C2 : Cs) => bd (cM C2 1 (sI (C2.1 1) 4 x1)) (fun (C3 : Cs) => (f2_advanceTimes (C3.1 1) ((C3.2.2.2.2.2.1).1) 20).bind fun M4 => bd (cM C3 1 M4) (fun (C5 : Cs) => (f2_right (C5.1 1) ((C5.2.2.2.2.2.1).1)).bind fun v6 => some ((f6_bitCount_0f7a4 v6), C5))))
abbrev rmX6_rightAmong : Room := { frames := 5, cells := 0, slots := 0, locals := 120 }
set_option maxHeartbeats 4000000 in
set_option maxRecDepth 100000 in
theorem c6_rightAmong (l : Launch) (g : zG) (q : Nat → Nat) (C : Cs) (x1 : Int32) (ro : Int32) (C_o : Cs) (hF : f6_rightAmong C x1 = some (ro, C_o)) : zRW l g yX6_rightAmong wsX6_rightAmong rmX6_rightAmong [.ref (q 0), .int x1] (CW g q C) (some (.int ro)) (CW g q C_o) := by
  refine zRW_of (cc := cX6_rightAmong) (maxL := 2) (ret := (some .int)) (by decide) rfl (Nat.le_of_ble_eq_true rfl) ?_
  intro p e s m args below meth c A H locs ls hx hb hr hml hts hown hlk hK hA hP hD hS hl
  have hown : s.vm.findClass RX6 = some m.cls := hown
  have hl : lv_has ls 2 [(0, .ref (q 0)), (1, .int x1)] := hl
  have inX2 : ∀ w ∈ wsX20, w ∈ wsX6_rightAmong := fun _ h => List.mem_cons_of_mem _ (List.mem_append_left _ (List.mem_append_right _ h))
  have inX6 : ∀ w ∈ wsX60, w ∈ wsX6_rightAmong := fun _ h => List.mem_cons_of_mem _ (List.mem_append_left _ (List.mem_append_left _ (List.mem_append_right _ h)))
  unfold f6_rightAmong at hF
  refine lv_aload_n hx hb dX6_rightAmong_0 rfl (lv_at hl 0 rfl) ?_
  refine z_get (ci := 6) (v := .ref (q 28)) (C := RX6) (T := TX6) (N := 13) hx hb hts inX6 hown hK hP 0 rfl rfl 5 (by decide) (List.mem_of_getElem? (i := 1) rfl) rfl rfl dX6_rightAmong_1 ?_
  refine lv_aload_n hx hb dX6_rightAmong_4 rfl (lv_at hl 0 rfl) ?_
  refine z_get (ci := 6) (v := .ref (q 23)) (C := RX6) (T := TX6) (N := 13) hx hb hts inX6 hown hK hP 0 rfl rfl 4 (by decide) (List.mem_of_getElem? (i := 2) rfl) rfl rfl dX6_rightAmong_5 ?_
  obtain ⟨M1, hM1, hF⟩ := zob hF
  refine z_wgo (wn := CW g q (cM C 1 M1)) (va_runV (As := [.ref (q 23)]) (rest := []) ⟨hx, hb, hml, hown, hts⟩ ((c2_copy l g q 28 q 23 (C.1 1) (C.1 0)   M1 hM1) H.size) (cwV 1 hts gX6_rightAmong_X2_copy rfl rfl rfl (by decide +kernel) ⟨Nat.le_of_ble_eq_true rfl, Nat.le_of_ble_eq_true rfl⟩) (z_wpreV (ci := 2) (q := (RX2, TX2, 9)) (q0 := 0) (hP.sub (ws' := (OW g q 28 (C.1 1) ++ OW g q 23 (C.1 0))) [28, 29, 30, 31, 32, 23, 24, 25, 26, 27] rfl) hK (z_any (hD.sub (ws' := (OW g q 28 (C.1 1) ++ OW g q 23 (C.1 0))) [28, 29, 30, 31, 32, 23, 24, 25, 26, 27] (by decide) rfl)) rfl rfl) rfl rfl hl.1 rfl (lv_room (Nat.le_of_ble_eq_true rfl)) dX6_rightAmong_8 ⟨Nat.zero_le _, Nat.zero_le _⟩) hP hD hS hA [28, 29, 30, 31, 32, 23, 24, 25, 26, 27] rfl (by decide) rfl rfl (fun H locs hP hD hS => ?_)
  show W p l e (headSpec wsX6_rightAmong rmX6_rightAmong).room s m args below meth c H locs 0 0 (MQ below (zWQ g A (CW g q C_o) (some (.int ro))) args s 0 0 A) (F0 m 11 ls [])
  obtain ⟨C2, eC2⟩ : ∃ y : Cs, y = (cM C 1 M1) := ⟨_, rfl⟩
  rw [← eC2] at hP hD
  have hF := bd_eq eC2 hF
  refine lv_aload_n hx hb dX6_rightAmong_11 rfl (lv_at hl 0 rfl) ?_
  refine z_get (ci := 6) (v := .ref (q 28)) (C := RX6) (T := TX6) (N := 13) hx hb hts inX6 hown hK hP 0 rfl rfl 5 (by decide) (List.mem_of_getElem? (i := 1) rfl) rfl rfl dX6_rightAmong_12 ?_
  refine lv_iload_n hx hb dX6_rightAmong_15 rfl (lv_at hl 1 rfl) ?_
  refine z_put (ci := 2) (v := .int x1) (C := RX2) (T := TX2) (N := 9) (ws' := CW g q (cM C2 1 (sI (C2.1 1) 4 x1))) hx hb hts inX2 tyX2 tyX2_ok nmX2 hown hK hP hD hS 28 rfl rfl 4 (by decide) (List.mem_of_getElem? (i := 3) rfl) rfl rfl rfl rfl (Nat.le_of_ble_eq_true rfl) rfl dX6_rightAmong_16 (fun H locs hP hD hS => ?_)
  obtain ⟨C3, eC3⟩ : ∃ y : Cs, y = (cM C2 1 (sI (C2.1 1) 4 x1)) := ⟨_, rfl⟩
  rw [← eC3] at hP hD
  have hF := bd_eq eC3 hF
  refine lv_aload_n hx hb dX6_rightAmong_19 rfl (lv_at hl 0 rfl) ?_
  refine z_get (ci := 6) (v := .ref (q 28)) (C := RX6) (T := TX6) (N := 13) hx hb hts inX6 hown hK hP 0 rfl rfl 5 (by decide) (List.mem_of_getElem? (i := 1) rfl) rfl rfl dX6_rightAmong_20 ?_
  refine lv_bipush (v := 20) hx hb dX6_rightAmong_23 (by decide) ?_
  refine lv_aload_n hx hb dX6_rightAmong_25 rfl (lv_at hl 0 rfl) ?_
  refine z_get (ci := 6) (v := .ref (q (13 + 2))) (C := RX6) (T := TX6) (N := 13) hx hb hts inX6 hown hK hP 0 rfl rfl 3 (by decide) (List.mem_of_getElem? (i := 4) rfl) rfl rfl dX6_rightAmong_26 ?_
  obtain ⟨M4, hM4, hF⟩ := zob hF
  refine z_wgo (wn := CW g q (cM C3 1 M4)) (va_runV (As := [.int 20, .ref (q (13 + 2))]) (rest := []) ⟨hx, hb, hml, hown, hts⟩ ((c2_advanceTimes l g q 28 q (13 + 2) (C3.1 1) ((C3.2.2.2.2.2.1).1) 20  M4 hM4) H.size) (cwV 2 hts gX6_rightAmong_X2_advanceTimes rfl rfl rfl (by decide +kernel) ⟨Nat.le_of_ble_eq_true rfl, Nat.le_of_ble_eq_true rfl⟩) (z_wpreV (ci := 2) (q := (RX2, TX2, 9)) (q0 := 0) (hP.sub (ws' := (OW g q 28 (C3.1 1) ++ NW g q (13 + 2) ((C3.2.2.2.2.2.1).1))) [28, 29, 30, 31, 32, 15, 16, 17, 18, 19, 20, 21, 22] rfl) hK (z_any (hD.sub (ws' := (OW g q 28 (C3.1 1) ++ NW g q (13 + 2) ((C3.2.2.2.2.2.1).1))) [28, 29, 30, 31, 32, 15, 16, 17, 18, 19, 20, 21, 22] (by decide) rfl)) rfl rfl) rfl rfl hl.1 rfl (lv_room (Nat.le_of_ble_eq_true rfl)) dX6_rightAmong_29 ⟨Nat.zero_le _, Nat.zero_le _⟩) hP hD hS hA [28, 29, 30, 31, 32, 15, 16, 17, 18, 19, 20, 21, 22] rfl (by decide) rfl rfl (fun H locs hP hD hS => ?_)
  show W p l e (headSpec wsX6_rightAmong rmX6_rightAmong).room s m args below meth c H locs 0 0 (MQ below (zWQ g A (CW g q C_o) (some (.int ro))) args s 0 0 A) (F0 m 32 ls [])
  obtain ⟨C5, eC5⟩ : ∃ y : Cs, y = (cM C3 1 M4) := ⟨_, rfl⟩
  rw [← eC5] at hP hD
  have hF := bd_eq eC5 hF
  refine lv_aload_n hx hb dX6_rightAmong_32 rfl (lv_at hl 0 rfl) ?_
  refine z_get (ci := 6) (v := .ref (q 28)) (C := RX6) (T := TX6) (N := 13) hx hb hts inX6 hown hK hP 0 rfl rfl 5 (by decide) (List.mem_of_getElem? (i := 1) rfl) rfl rfl dX6_rightAmong_33 ?_
  refine lv_aload_n hx hb dX6_rightAmong_36 rfl (lv_at hl 0 rfl) ?_
  refine z_get (ci := 6) (v := .ref (q (13 + 2))) (C := RX6) (T := TX6) (N := 13) hx hb hts inX6 hown hK hP 0 rfl rfl 3 (by decide) (List.mem_of_getElem? (i := 4) rfl) rfl rfl dX6_rightAmong_37 ?_
  obtain ⟨v6, hv6, hF⟩ := zob hF
  refine z_rgo (va_runV (As := [.ref (q (13 + 2))]) (rest := []) ⟨hx, hb, hml, hown, hts⟩ (c2_right l g q 28 q (13 + 2) (C5.1 1) ((C5.2.2.2.2.2.1).1)  v6 hv6) (cwV 1 hts gX6_rightAmong_X2_right rfl rfl rfl (by decide +kernel) ⟨Nat.le_of_ble_eq_true rfl, Nat.le_of_ble_eq_true rfl⟩) (z_rpreV (ci := 2) (q := (RX2, TX2, 9)) (q0 := 0) (hP.sub (ws' := (OW g q 28 (C5.1 1) ++ NW g q (13 + 2) ((C5.2.2.2.2.2.1).1))) [28, 29, 30, 31, 32, 15, 16, 17, 18, 19, 20, 21, 22] rfl) hK rfl rfl) rfl rfl hl.1 rfl (lv_room (Nat.le_of_ble_eq_true rfl)) dX6_rightAmong_40 ⟨Nat.zero_le _, Nat.zero_le _⟩) ?_
  refine z_rgo (va_runS (As := [.int v6]) (rest := []) ⟨hx, hb, hml, hown, hts⟩ (c6_bitCount_0f7a4 l g   v6) (va_cwS 1 hts gX6_rightAmong_J6_bitCount_0f7a4 rfl rfl rfl (by decide +kernel) ⟨Nat.le_of_ble_eq_true rfl, Nat.le_of_ble_eq_true rfl⟩) (z_rpre z_nil hK) rfl rfl hl.1 rfl (lv_room (Nat.le_of_ble_eq_true rfl)) dX6_rightAmong_43 ⟨Nat.zero_le _, Nat.zero_le _⟩) ?_
  cases hF
  exact z_wi hx hb hr hlk hP hD hS rfl rfl dX6_rightAmong_46
def f6_seal (C : Cs) (x1 : Int32) : Option (Int32 × Cs) := if (f6_isNoJoint C x1) = 0 then if (f6_has (((C.2.2.2.2.2.1).1).1 5) x1) = 0 then some ((-3), C) else (f5_push (C.2.1, C.2.2.1) (C.1 0)).bind fun P3 => bd (cRo (cRM C P3.1) P3.2) (fun (C5 : Cs) => (f2_turnLid (C5.1 0) x1).bind fun M6 => bd (cM C5 0 M6) (fun (C7 : Cs) => some ((f6_flag (f6_has ((C7.1 0).1 7) x1)), C7))) else some ((-1), C)
abbrev rmX6_seal : Room := { frames := 3, cells := 0, slots := 0, locals := 66 }
set_option maxHeartbeats 4000000 in
set_option maxRecDepth 100000 in
theorem c6_seal (l : Launch) (g : zG) (q : Nat → Nat) (C : Cs) (x1 : Int32) (ro : Int32) (C_o : Cs) (hF : f6_seal C x1 = some (ro, C_o)) : zRW l g yX6_seal wsX6_seal rmX6_seal [.ref (q 0), .int x1] (CW g q C) (some (.int ro)) (CW g q C_o) := by
  refine zRW_of (cc := cX6_seal) (maxL := 2) (ret := (some .int)) (by decide) rfl (Nat.le_of_ble_eq_true rfl) ?_
  intro p e s m args below meth c A H locs ls hx hb hr hml hts hown hlk hK hA hP hD hS hl
  have hown : s.vm.findClass RX6 = some m.cls := hown
  have hl : lv_has ls 2 [(0, .ref (q 0)), (1, .int x1)] := hl
  have inX2 : ∀ w ∈ wsX20, w ∈ wsX6_seal := fun _ h => List.mem_cons_of_mem _ (List.mem_append_left _ (List.mem_append_right _ h))
  have inX3 : ∀ w ∈ wsX30, w ∈ wsX6_seal := fun _ h => List.mem_cons_of_mem _ (List.mem_append_left _ (List.mem_append_left _ (List.mem_append_right _ h)))
  have inX6 : ∀ w ∈ wsX60, w ∈ wsX6_seal := fun _ h => List.mem_cons_of_mem _ (List.mem_append_left _ (List.mem_append_left _ (List.mem_append_left _ (List.mem_append_right _ h))))
  unfold f6_seal at hF
  refine lv_aload_n hx hb dX6_seal_0 rfl (lv_at hl 0 rfl) ?_
  refine lv_iload_n hx hb dX6_seal_1 rfl (lv_at hl 1 rfl) ?_
  refine z_rgo (va_runV (As := [.int x1]) (rest := []) ⟨hx, hb, hml, hown, hts⟩ (c6_isNoJoint l g q C x1) (cwV 1 hts gX6_seal_X6_isNoJoint rfl rfl rfl (by decide +kernel) ⟨Nat.le_of_ble_eq_true rfl, Nat.le_of_ble_eq_true rfl⟩) (z_rpreV (ci := 6) (q := (RX6, TX6, 13)) (q0 := 0) hP hK rfl rfl) rfl rfl hl.1 rfl (lv_room (Nat.le_of_ble_eq_true rfl)) dX6_seal_2 ⟨Nat.zero_le _, Nat.zero_le _⟩) ?_
  refine lv_if_eq (tgt := 10) hx hb dX6_seal_5 (by decide) (fun c1 => ?_) (fun c1 => ?_)
  · have hF := zit c1 hF
    refine lv_aload_n hx hb dX6_seal_10 rfl (lv_at hl 0 rfl) ?_
    refine z_get (ci := 6) (v := .ref (q (13 + 2))) (C := RX6) (T := TX6) (N := 13) hx hb hts inX6 hown hK hP 0 rfl rfl 3 (by decide) (List.mem_of_getElem? (i := 1) rfl) rfl rfl dX6_seal_11 ?_
    refine z_get (ci := 3) (v := .int (((C.2.2.2.2.2.1).1).1 5)) (C := RX3) (T := TX3) (N := 13) hx hb hts inX3 hown hK hP 15 rfl rfl 5 (by decide) (List.mem_of_getElem? (i := 2) rfl) rfl rfl dX6_seal_14 ?_
    refine lv_iload_n hx hb dX6_seal_17 rfl (lv_at hl 1 rfl) ?_
    refine z_rgo (va_runS (As := [.int (((C.2.2.2.2.2.1).1).1 5), .int x1]) (rest := []) ⟨hx, hb, hml, hown, hts⟩ (c6_has l g   (((C.2.2.2.2.2.1).1).1 5) x1) (va_cwS 2 hts gX6_seal_X6_has rfl rfl rfl (by decide +kernel) ⟨Nat.le_of_ble_eq_true rfl, Nat.le_of_ble_eq_true rfl⟩) (z_rpre z_nil hK) rfl rfl hl.1 rfl (lv_room (Nat.le_of_ble_eq_true rfl)) dX6_seal_18 ⟨Nat.zero_le _, Nat.zero_le _⟩) ?_
    refine lv_if_ne (tgt := 27) hx hb dX6_seal_21 (by decide) (fun c2 => ?_) (fun c2 => ?_)
    · have hF := zif c2 hF
      refine lv_aload_n hx hb dX6_seal_27 rfl (lv_at hl 0 rfl) ?_
      refine z_get (ci := 6) (v := .ref (q 34)) (C := RX6) (T := TX6) (N := 13) hx hb hts inX6 hown hK hP 0 rfl rfl 7 (by decide) (List.mem_of_getElem? (i := 3) rfl) rfl rfl dX6_seal_28 ?_
      refine lv_aload_n hx hb dX6_seal_31 rfl (lv_at hl 0 rfl) ?_
      refine z_get (ci := 6) (v := .ref (q 23)) (C := RX6) (T := TX6) (N := 13) hx hb hts inX6 hown hK hP 0 rfl rfl 4 (by decide) (List.mem_of_getElem? (i := 4) rfl) rfl rfl dX6_seal_32 ?_
      obtain ⟨X4, hX4⟩ := cw_perm g q C
      obtain ⟨P3, hP3, hF⟩ := zob hF
      refine z_wgoP (wn := CW g q (cRo (cRM C P3.1) P3.2)) (va_runV (As := [.ref (q 23)]) (rest := []) ⟨hx, hb, hml, hown, hts⟩ ((c5_push l g q (C.2.1, C.2.2.1) (C.1 0) P3 hP3) H.size) (cwV 1 hts gX6_seal_X5_push rfl rfl rfl (by decide +kernel) ⟨Nat.le_of_ble_eq_true rfl, Nat.le_of_ble_eq_true rfl⟩) (z_wpreV (ci := 5) (q := (RX5, TX5, 2)) (q0 := 0) (zP_left (zP_perm hP (cw_perm0 hX4))) hK (z_any (zD_left (zD_perm hD (cw_perm0 hX4)))) rfl rfl) rfl rfl hl.1 rfl (lv_room (Nat.le_of_ble_eq_true rfl)) dX6_seal_35 ⟨Nat.zero_le _, Nat.zero_le _⟩) hP hD hS hA X4 (cw_perm0 hX4) rfl (cw_perm1 hX4 P3) (fun H locs hP hD hS => ?_)
      show W p l e (headSpec wsX6_seal rmX6_seal).room s m args below meth c H locs 0 0 (MQ below (zWQ g A (CW g q C_o) (some (.int ro))) args s 0 0 A) (F0 m 38 ls [])
      obtain ⟨C5, eC5⟩ : ∃ y : Cs, y = (cRo (cRM C P3.1) P3.2) := ⟨_, rfl⟩
      rw [← eC5] at hP hD
      have hF := bd_eq eC5 hF
      refine lv_aload_n hx hb dX6_seal_38 rfl (lv_at hl 0 rfl) ?_
      refine z_get (ci := 6) (v := .ref (q 23)) (C := RX6) (T := TX6) (N := 13) hx hb hts inX6 hown hK hP 0 rfl rfl 4 (by decide) (List.mem_of_getElem? (i := 4) rfl) rfl rfl dX6_seal_39 ?_
      refine lv_iload_n hx hb dX6_seal_42 rfl (lv_at hl 1 rfl) ?_
      obtain ⟨M6, hM6, hF⟩ := zob hF
      refine z_wgo (wn := CW g q (cM C5 0 M6)) (va_runV (As := [.int x1]) (rest := []) ⟨hx, hb, hml, hown, hts⟩ ((c2_turnLid l g q 23 (C5.1 0) x1  M6 hM6) H.size) (cwV 1 hts gX6_seal_X2_turnLid rfl rfl rfl (by decide +kernel) ⟨Nat.le_of_ble_eq_true rfl, Nat.le_of_ble_eq_true rfl⟩) (z_wpreV (ci := 2) (q := (RX2, TX2, 9)) (q0 := 0) (hP.sub (ws' := OW g q 23 (C5.1 0)) [23, 24, 25, 26, 27] rfl) hK (z_any (hD.sub (ws' := OW g q 23 (C5.1 0)) [23, 24, 25, 26, 27] (by decide) rfl)) rfl rfl) rfl rfl hl.1 rfl (lv_room (Nat.le_of_ble_eq_true rfl)) dX6_seal_43 ⟨Nat.zero_le _, Nat.zero_le _⟩) hP hD hS hA [23, 24, 25, 26, 27] rfl (by decide) rfl rfl (fun H locs hP hD hS => ?_)
      show W p l e (headSpec wsX6_seal rmX6_seal).room s m args below meth c H locs 0 0 (MQ below (zWQ g A (CW g q C_o) (some (.int ro))) args s 0 0 A) (F0 m 46 ls [])
      obtain ⟨C7, eC7⟩ : ∃ y : Cs, y = (cM C5 0 M6) := ⟨_, rfl⟩
      rw [← eC7] at hP hD
      have hF := bd_eq eC7 hF
      refine lv_aload_n hx hb dX6_seal_46 rfl (lv_at hl 0 rfl) ?_
      refine z_get (ci := 6) (v := .ref (q 23)) (C := RX6) (T := TX6) (N := 13) hx hb hts inX6 hown hK hP 0 rfl rfl 4 (by decide) (List.mem_of_getElem? (i := 4) rfl) rfl rfl dX6_seal_47 ?_
      refine z_get (ci := 2) (v := .int ((C7.1 0).1 7)) (C := RX2) (T := TX2) (N := 9) hx hb hts inX2 hown hK hP 23 rfl rfl 7 (by decide) (List.mem_of_getElem? (i := 5) rfl) rfl rfl dX6_seal_50 ?_
      refine lv_iload_n hx hb dX6_seal_53 rfl (lv_at hl 1 rfl) ?_
      refine z_rgo (va_runS (As := [.int ((C7.1 0).1 7), .int x1]) (rest := []) ⟨hx, hb, hml, hown, hts⟩ (c6_has l g   ((C7.1 0).1 7) x1) (va_cwS 2 hts gX6_seal_X6_has rfl rfl rfl (by decide +kernel) ⟨Nat.le_of_ble_eq_true rfl, Nat.le_of_ble_eq_true rfl⟩) (z_rpre z_nil hK) rfl rfl hl.1 rfl (lv_room (Nat.le_of_ble_eq_true rfl)) dX6_seal_54 ⟨Nat.zero_le _, Nat.zero_le _⟩) ?_
      refine z_rgo (va_runS (As := [.int (f6_has ((C7.1 0).1 7) x1)]) (rest := []) ⟨hx, hb, hml, hown, hts⟩ (c6_flag l g   (f6_has ((C7.1 0).1 7) x1)) (va_cwS 1 hts gX6_seal_X6_flag rfl rfl rfl (by decide +kernel) ⟨Nat.le_of_ble_eq_true rfl, Nat.le_of_ble_eq_true rfl⟩) (z_rpre z_nil hK) rfl rfl hl.1 rfl (lv_room (Nat.le_of_ble_eq_true rfl)) dX6_seal_57 ⟨Nat.zero_le _, Nat.zero_le _⟩) ?_
      cases hF
      exact z_wi hx hb hr hlk hP hD hS rfl rfl dX6_seal_60
    · have hF := zit c2 hF
      refine lv_bipush (v := (-3)) hx hb dX6_seal_24 (by decide) ?_
      cases hF
      exact z_wi hx hb hr hlk hP hD hS rfl rfl dX6_seal_26
  · have hF := zif c1 hF
    refine lv_iconst (v := (-1)) hx hb dX6_seal_8 (by decide) ?_
    cases hF
    exact z_wi hx hb hr hlk hP hD hS rfl rfl dX6_seal_9
def f6_seed (C : Cs) (x1 : Int64) : Option (Int64 × Cs) := bd (α := Int64) (C.2.2.2.2.2.2.2.2.2) (fun (v1 : Int64) => bd (cCh C x1) (fun (C2 : Cs) => some (v1, C2)))
abbrev rmX6_seed : Room := { frames := 0, cells := 0, slots := 0, locals := 0 }
set_option maxHeartbeats 4000000 in
set_option maxRecDepth 100000 in
theorem c6_seed (l : Launch) (g : zG) (q : Nat → Nat) (C : Cs) (x1 : Int64) (ro : Int64) (C_o : Cs) (hF : f6_seed C x1 = some (ro, C_o)) : zRW l g yX6_seed wsX6_seed rmX6_seed [.ref (q 0), .long x1] (CW g q C) (some (.long ro)) (CW g q C_o) := by
  refine zRW_of (cc := cX6_seed) (maxL := 5) (ret := (some .long)) (by decide) rfl (Nat.le_of_ble_eq_true rfl) ?_
  intro p e s m args below meth c A H locs ls hx hb hr hml hts hown hlk hK hA hP hD hS hl
  have hown : s.vm.findClass RX6 = some m.cls := hown
  have hl : lv_has ls 5 [(0, .ref (q 0)), (1, .long x1)] := hl
  have inX6 : ∀ w ∈ wsX60, w ∈ wsX6_seed := fun _ h => List.mem_cons_of_mem _ (List.mem_append_right _ h)
  unfold f6_seed at hF
  refine lv_aload_n hx hb dX6_seed_0 rfl (lv_at hl 0 rfl) ?_
  refine z_get (ci := 6) (v := .long (C.2.2.2.2.2.2.2.2.2)) (C := RX6) (T := TX6) (N := 13) hx hb hts inX6 hown hK hP 0 rfl rfl 12 (by decide) (List.mem_of_getElem? (i := 1) rfl) rfl rfl dX6_seed_1 ?_
  refine lv_topl (fun v1 ev1 => ?_)
  have hF := bd_eq ev1 hF
  refine lv_lstore_n (lv' := [(3, .long v1), (0, .ref (q 0)), (1, .long x1)]) hx hb dX6_seed_4 rfl hl (by decide) rfl (fun ls hl => ?_)
  refine lv_aload_n hx hb dX6_seed_5 rfl (lv_at hl 1 rfl) ?_
  refine lv_lload_n hx hb dX6_seed_6 rfl (lv_at hl 2 rfl) ?_
  refine z_put (ci := 6) (v := .long x1) (C := RX6) (T := TX6) (N := 13) (ws' := CW g q (cCh C x1)) hx hb hts inX6 tyX6 tyX6_ok nmX6 hown hK hP hD hS 0 rfl rfl 12 (by decide) (List.mem_of_getElem? (i := 1) rfl) rfl rfl rfl rfl (Nat.le_of_ble_eq_true rfl) rfl dX6_seed_7 (fun H locs hP hD hS => ?_)
  obtain ⟨C2, eC2⟩ : ∃ y : Cs, y = (cCh C x1) := ⟨_, rfl⟩
  rw [← eC2] at hP hD
  have hF := bd_eq eC2 hF
  refine lv_lload_n hx hb dX6_seed_10 rfl (lv_at hl 0 rfl) ?_
  cases hF
  exact z_wl hx hb hr hlk hP hD hS rfl rfl dX6_seed_11
def f6_shut (C : Cs) (x1 : Int32) : Option (Int32 × Cs) := if (f6_isNoPipe C x1) = 0 then (f5_push (C.2.1, C.2.2.1) (C.1 0)).bind fun P2 => bd (cRo (cRM C P2.1) P2.2) (fun (C4 : Cs) => (f2_turnPipe (C4.1 0) x1).bind fun M5 => bd (cM C4 0 M5) (fun (C6 : Cs) => some ((f6_flag (f6_has ((C6.1 0).1 6) x1)), C6))) else some ((-1), C)
abbrev rmX6_shut : Room := { frames := 3, cells := 0, slots := 0, locals := 66 }
set_option maxHeartbeats 4000000 in
set_option maxRecDepth 100000 in
theorem c6_shut (l : Launch) (g : zG) (q : Nat → Nat) (C : Cs) (x1 : Int32) (ro : Int32) (C_o : Cs) (hF : f6_shut C x1 = some (ro, C_o)) : zRW l g yX6_shut wsX6_shut rmX6_shut [.ref (q 0), .int x1] (CW g q C) (some (.int ro)) (CW g q C_o) := by
  refine zRW_of (cc := cX6_shut) (maxL := 2) (ret := (some .int)) (by decide) rfl (Nat.le_of_ble_eq_true rfl) ?_
  intro p e s m args below meth c A H locs ls hx hb hr hml hts hown hlk hK hA hP hD hS hl
  have hown : s.vm.findClass RX6 = some m.cls := hown
  have hl : lv_has ls 2 [(0, .ref (q 0)), (1, .int x1)] := hl
  have inX2 : ∀ w ∈ wsX20, w ∈ wsX6_shut := fun _ h => List.mem_cons_of_mem _ (List.mem_append_left _ (List.mem_append_left _ (List.mem_append_right _ h)))
  have inX6 : ∀ w ∈ wsX60, w ∈ wsX6_shut := fun _ h => List.mem_cons_of_mem _ (List.mem_append_left _ (List.mem_append_left _ (List.mem_append_left _ (List.mem_append_right _ h))))
  unfold f6_shut at hF
  refine lv_aload_n hx hb dX6_shut_0 rfl (lv_at hl 0 rfl) ?_
  refine lv_iload_n hx hb dX6_shut_1 rfl (lv_at hl 1 rfl) ?_
  refine z_rgo (va_runV (As := [.int x1]) (rest := []) ⟨hx, hb, hml, hown, hts⟩ (c6_isNoPipe l g q C x1) (cwV 1 hts gX6_shut_X6_isNoPipe rfl rfl rfl (by decide +kernel) ⟨Nat.le_of_ble_eq_true rfl, Nat.le_of_ble_eq_true rfl⟩) (z_rpreV (ci := 6) (q := (RX6, TX6, 13)) (q0 := 0) hP hK rfl rfl) rfl rfl hl.1 rfl (lv_room (Nat.le_of_ble_eq_true rfl)) dX6_shut_2 ⟨Nat.zero_le _, Nat.zero_le _⟩) ?_
  refine lv_if_eq (tgt := 10) hx hb dX6_shut_5 (by decide) (fun c1 => ?_) (fun c1 => ?_)
  · have hF := zit c1 hF
    refine lv_aload_n hx hb dX6_shut_10 rfl (lv_at hl 0 rfl) ?_
    refine z_get (ci := 6) (v := .ref (q 34)) (C := RX6) (T := TX6) (N := 13) hx hb hts inX6 hown hK hP 0 rfl rfl 7 (by decide) (List.mem_of_getElem? (i := 1) rfl) rfl rfl dX6_shut_11 ?_
    refine lv_aload_n hx hb dX6_shut_14 rfl (lv_at hl 0 rfl) ?_
    refine z_get (ci := 6) (v := .ref (q 23)) (C := RX6) (T := TX6) (N := 13) hx hb hts inX6 hown hK hP 0 rfl rfl 4 (by decide) (List.mem_of_getElem? (i := 2) rfl) rfl rfl dX6_shut_15 ?_
    obtain ⟨X3, hX3⟩ := cw_perm g q C
    obtain ⟨P2, hP2, hF⟩ := zob hF
    refine z_wgoP (wn := CW g q (cRo (cRM C P2.1) P2.2)) (va_runV (As := [.ref (q 23)]) (rest := []) ⟨hx, hb, hml, hown, hts⟩ ((c5_push l g q (C.2.1, C.2.2.1) (C.1 0) P2 hP2) H.size) (cwV 1 hts gX6_shut_X5_push rfl rfl rfl (by decide +kernel) ⟨Nat.le_of_ble_eq_true rfl, Nat.le_of_ble_eq_true rfl⟩) (z_wpreV (ci := 5) (q := (RX5, TX5, 2)) (q0 := 0) (zP_left (zP_perm hP (cw_perm0 hX3))) hK (z_any (zD_left (zD_perm hD (cw_perm0 hX3)))) rfl rfl) rfl rfl hl.1 rfl (lv_room (Nat.le_of_ble_eq_true rfl)) dX6_shut_18 ⟨Nat.zero_le _, Nat.zero_le _⟩) hP hD hS hA X3 (cw_perm0 hX3) rfl (cw_perm1 hX3 P2) (fun H locs hP hD hS => ?_)
    show W p l e (headSpec wsX6_shut rmX6_shut).room s m args below meth c H locs 0 0 (MQ below (zWQ g A (CW g q C_o) (some (.int ro))) args s 0 0 A) (F0 m 21 ls [])
    obtain ⟨C4, eC4⟩ : ∃ y : Cs, y = (cRo (cRM C P2.1) P2.2) := ⟨_, rfl⟩
    rw [← eC4] at hP hD
    have hF := bd_eq eC4 hF
    refine lv_aload_n hx hb dX6_shut_21 rfl (lv_at hl 0 rfl) ?_
    refine z_get (ci := 6) (v := .ref (q 23)) (C := RX6) (T := TX6) (N := 13) hx hb hts inX6 hown hK hP 0 rfl rfl 4 (by decide) (List.mem_of_getElem? (i := 2) rfl) rfl rfl dX6_shut_22 ?_
    refine lv_iload_n hx hb dX6_shut_25 rfl (lv_at hl 1 rfl) ?_
    obtain ⟨M5, hM5, hF⟩ := zob hF
    refine z_wgo (wn := CW g q (cM C4 0 M5)) (va_runV (As := [.int x1]) (rest := []) ⟨hx, hb, hml, hown, hts⟩ ((c2_turnPipe l g q 23 (C4.1 0) x1  M5 hM5) H.size) (cwV 1 hts gX6_shut_X2_turnPipe rfl rfl rfl (by decide +kernel) ⟨Nat.le_of_ble_eq_true rfl, Nat.le_of_ble_eq_true rfl⟩) (z_wpreV (ci := 2) (q := (RX2, TX2, 9)) (q0 := 0) (hP.sub (ws' := OW g q 23 (C4.1 0)) [23, 24, 25, 26, 27] rfl) hK (z_any (hD.sub (ws' := OW g q 23 (C4.1 0)) [23, 24, 25, 26, 27] (by decide) rfl)) rfl rfl) rfl rfl hl.1 rfl (lv_room (Nat.le_of_ble_eq_true rfl)) dX6_shut_26 ⟨Nat.zero_le _, Nat.zero_le _⟩) hP hD hS hA [23, 24, 25, 26, 27] rfl (by decide) rfl rfl (fun H locs hP hD hS => ?_)
    show W p l e (headSpec wsX6_shut rmX6_shut).room s m args below meth c H locs 0 0 (MQ below (zWQ g A (CW g q C_o) (some (.int ro))) args s 0 0 A) (F0 m 29 ls [])
    obtain ⟨C6, eC6⟩ : ∃ y : Cs, y = (cM C4 0 M5) := ⟨_, rfl⟩
    rw [← eC6] at hP hD
    have hF := bd_eq eC6 hF
    refine lv_aload_n hx hb dX6_shut_29 rfl (lv_at hl 0 rfl) ?_
    refine z_get (ci := 6) (v := .ref (q 23)) (C := RX6) (T := TX6) (N := 13) hx hb hts inX6 hown hK hP 0 rfl rfl 4 (by decide) (List.mem_of_getElem? (i := 2) rfl) rfl rfl dX6_shut_30 ?_
    refine z_get (ci := 2) (v := .int ((C6.1 0).1 6)) (C := RX2) (T := TX2) (N := 9) hx hb hts inX2 hown hK hP 23 rfl rfl 6 (by decide) (List.mem_of_getElem? (i := 3) rfl) rfl rfl dX6_shut_33 ?_
    refine lv_iload_n hx hb dX6_shut_36 rfl (lv_at hl 1 rfl) ?_
    refine z_rgo (va_runS (As := [.int ((C6.1 0).1 6), .int x1]) (rest := []) ⟨hx, hb, hml, hown, hts⟩ (c6_has l g   ((C6.1 0).1 6) x1) (va_cwS 2 hts gX6_shut_X6_has rfl rfl rfl (by decide +kernel) ⟨Nat.le_of_ble_eq_true rfl, Nat.le_of_ble_eq_true rfl⟩) (z_rpre z_nil hK) rfl rfl hl.1 rfl (lv_room (Nat.le_of_ble_eq_true rfl)) dX6_shut_37 ⟨Nat.zero_le _, Nat.zero_le _⟩) ?_
    refine z_rgo (va_runS (As := [.int (f6_has ((C6.1 0).1 6) x1)]) (rest := []) ⟨hx, hb, hml, hown, hts⟩ (c6_flag l g   (f6_has ((C6.1 0).1 6) x1)) (va_cwS 1 hts gX6_shut_X6_flag rfl rfl rfl (by decide +kernel) ⟨Nat.le_of_ble_eq_true rfl, Nat.le_of_ble_eq_true rfl⟩) (z_rpre z_nil hK) rfl rfl hl.1 rfl (lv_room (Nat.le_of_ble_eq_true rfl)) dX6_shut_40 ⟨Nat.zero_le _, Nat.zero_le _⟩) ?_
    cases hF
    exact z_wi hx hb hr hlk hP hD hS rfl rfl dX6_shut_43
  · have hF := zif c1 hF
    refine lv_iconst (v := (-1)) hx hb dX6_shut_8 (by decide) ?_
    cases hF
    exact z_wi hx hb hr hlk hP hD hS rfl rfl dX6_shut_9
def f6_step (C : Cs) : Option (Int32 × Cs) := (f5_push (C.2.1, C.2.2.1) (C.1 0)).bind fun P1 => bd (cRo (cRM C P1.1) P1.2) (fun (C3 : Cs) => bd (α := Int32) ((C3.1 0).1 5) (fun (v4 : Int32) => (f2_advance (C3.1 0) ((C3.2.2.2.2.2.1).1)).bind fun M5 => bd (cM C3 0 M5) (fun (C6 : Cs) => some ((((C6.1 0).1 5) &&& (v4 ^^^ (-1))), C6))))
abbrev rmX6_step : Room := { frames := 5, cells := 0, slots := 0, locals := 118 }
set_option maxHeartbeats 4000000 in
set_option maxRecDepth 100000 in
theorem c6_step (l : Launch) (g : zG) (q : Nat → Nat) (C : Cs) (ro : Int32) (C_o : Cs) (hF : f6_step C = some (ro, C_o)) : zRW l g yX6_step wsX6_step rmX6_step [.ref (q 0)] (CW g q C) (some (.int ro)) (CW g q C_o) := by
  refine zRW_of (cc := cX6_step) (maxL := 2) (ret := (some .int)) (by decide) rfl (Nat.le_of_ble_eq_true rfl) ?_
  intro p e s m args below meth c A H locs ls hx hb hr hml hts hown hlk hK hA hP hD hS hl
  have hown : s.vm.findClass RX6 = some m.cls := hown
  have hl : lv_has ls 2 [(0, .ref (q 0))] := hl
  have inX2 : ∀ w ∈ wsX20, w ∈ wsX6_step := fun _ h => List.mem_cons_of_mem _ (List.mem_append_left _ (List.mem_append_left _ (List.mem_append_right _ h)))
  have inX6 : ∀ w ∈ wsX60, w ∈ wsX6_step := fun _ h => List.mem_cons_of_mem _ (List.mem_append_left _ (List.mem_append_left _ (List.mem_append_left _ (List.mem_append_right _ h))))
  unfold f6_step at hF
  refine lv_aload_n hx hb dX6_step_0 rfl (lv_at hl 0 rfl) ?_
  refine z_get (ci := 6) (v := .ref (q 34)) (C := RX6) (T := TX6) (N := 13) hx hb hts inX6 hown hK hP 0 rfl rfl 7 (by decide) (List.mem_of_getElem? (i := 1) rfl) rfl rfl dX6_step_1 ?_
  refine lv_aload_n hx hb dX6_step_4 rfl (lv_at hl 0 rfl) ?_
  refine z_get (ci := 6) (v := .ref (q 23)) (C := RX6) (T := TX6) (N := 13) hx hb hts inX6 hown hK hP 0 rfl rfl 4 (by decide) (List.mem_of_getElem? (i := 2) rfl) rfl rfl dX6_step_5 ?_
  obtain ⟨X2, hX2⟩ := cw_perm g q C
  obtain ⟨P1, hP1, hF⟩ := zob hF
  refine z_wgoP (wn := CW g q (cRo (cRM C P1.1) P1.2)) (va_runV (As := [.ref (q 23)]) (rest := []) ⟨hx, hb, hml, hown, hts⟩ ((c5_push l g q (C.2.1, C.2.2.1) (C.1 0) P1 hP1) H.size) (cwV 1 hts gX6_step_X5_push rfl rfl rfl (by decide +kernel) ⟨Nat.le_of_ble_eq_true rfl, Nat.le_of_ble_eq_true rfl⟩) (z_wpreV (ci := 5) (q := (RX5, TX5, 2)) (q0 := 0) (zP_left (zP_perm hP (cw_perm0 hX2))) hK (z_any (zD_left (zD_perm hD (cw_perm0 hX2)))) rfl rfl) rfl rfl hl.1 rfl (lv_room (Nat.le_of_ble_eq_true rfl)) dX6_step_8 ⟨Nat.zero_le _, Nat.zero_le _⟩) hP hD hS hA X2 (cw_perm0 hX2) rfl (cw_perm1 hX2 P1) (fun H locs hP hD hS => ?_)
  show W p l e (headSpec wsX6_step rmX6_step).room s m args below meth c H locs 0 0 (MQ below (zWQ g A (CW g q C_o) (some (.int ro))) args s 0 0 A) (F0 m 11 ls [])
  obtain ⟨C3, eC3⟩ : ∃ y : Cs, y = (cRo (cRM C P1.1) P1.2) := ⟨_, rfl⟩
  rw [← eC3] at hP hD
  have hF := bd_eq eC3 hF
  refine lv_aload_n hx hb dX6_step_11 rfl (lv_at hl 0 rfl) ?_
  refine z_get (ci := 6) (v := .ref (q 23)) (C := RX6) (T := TX6) (N := 13) hx hb hts inX6 hown hK hP 0 rfl rfl 4 (by decide) (List.mem_of_getElem? (i := 2) rfl) rfl rfl dX6_step_12 ?_
  refine z_get (ci := 2) (v := .int ((C3.1 0).1 5)) (C := RX2) (T := TX2) (N := 9) hx hb hts inX2 hown hK hP 23 rfl rfl 5 (by decide) (List.mem_of_getElem? (i := 3) rfl) rfl rfl dX6_step_15 ?_
  refine lv_topi (fun v4 ev4 => ?_)
  have hF := bd_eq ev4 hF
  refine lv_istore_n (lv' := [(1, .int v4), (0, .ref (q 0))]) hx hb dX6_step_18 rfl hl (by decide) rfl (fun ls hl => ?_)
  refine lv_aload_n hx hb dX6_step_19 rfl (lv_at hl 1 rfl) ?_
  refine z_get (ci := 6) (v := .ref (q 23)) (C := RX6) (T := TX6) (N := 13) hx hb hts inX6 hown hK hP 0 rfl rfl 4 (by decide) (List.mem_of_getElem? (i := 2) rfl) rfl rfl dX6_step_20 ?_
  refine lv_aload_n hx hb dX6_step_23 rfl (lv_at hl 1 rfl) ?_
  refine z_get (ci := 6) (v := .ref (q (13 + 2))) (C := RX6) (T := TX6) (N := 13) hx hb hts inX6 hown hK hP 0 rfl rfl 3 (by decide) (List.mem_of_getElem? (i := 4) rfl) rfl rfl dX6_step_24 ?_
  obtain ⟨M5, hM5, hF⟩ := zob hF
  refine z_wgo (wn := CW g q (cM C3 0 M5)) (va_runV (As := [.ref (q (13 + 2))]) (rest := []) ⟨hx, hb, hml, hown, hts⟩ ((c2_advance l g q 23 q (13 + 2) (C3.1 0) ((C3.2.2.2.2.2.1).1)   M5 hM5) H.size) (cwV 1 hts gX6_step_X2_advance rfl rfl rfl (by decide +kernel) ⟨Nat.le_of_ble_eq_true rfl, Nat.le_of_ble_eq_true rfl⟩) (z_wpreV (ci := 2) (q := (RX2, TX2, 9)) (q0 := 0) (hP.sub (ws' := (OW g q 23 (C3.1 0) ++ NW g q (13 + 2) ((C3.2.2.2.2.2.1).1))) [23, 24, 25, 26, 27, 15, 16, 17, 18, 19, 20, 21, 22] rfl) hK (z_any (hD.sub (ws' := (OW g q 23 (C3.1 0) ++ NW g q (13 + 2) ((C3.2.2.2.2.2.1).1))) [23, 24, 25, 26, 27, 15, 16, 17, 18, 19, 20, 21, 22] (by decide) rfl)) rfl rfl) rfl rfl hl.1 rfl (lv_room (Nat.le_of_ble_eq_true rfl)) dX6_step_27 ⟨Nat.zero_le _, Nat.zero_le _⟩) hP hD hS hA [23, 24, 25, 26, 27, 15, 16, 17, 18, 19, 20, 21, 22] rfl (by decide) rfl rfl (fun H locs hP hD hS => ?_)
  show W p l e (headSpec wsX6_step rmX6_step).room s m args below meth c H locs 0 0 (MQ below (zWQ g A (CW g q C_o) (some (.int ro))) args s 0 0 A) (F0 m 30 ls [])
  obtain ⟨C6, eC6⟩ : ∃ y : Cs, y = (cM C3 0 M5) := ⟨_, rfl⟩
  rw [← eC6] at hP hD
  have hF := bd_eq eC6 hF
  refine lv_aload_n hx hb dX6_step_30 rfl (lv_at hl 1 rfl) ?_
  refine z_get (ci := 6) (v := .ref (q 23)) (C := RX6) (T := TX6) (N := 13) hx hb hts inX6 hown hK hP 0 rfl rfl 4 (by decide) (List.mem_of_getElem? (i := 2) rfl) rfl rfl dX6_step_31 ?_
  refine z_get (ci := 2) (v := .int ((C6.1 0).1 5)) (C := RX2) (T := TX2) (N := 9) hx hb hts inX2 hown hK hP 23 rfl rfl 5 (by decide) (List.mem_of_getElem? (i := 3) rfl) rfl rfl dX6_step_34 ?_
  refine lv_iload_n hx hb dX6_step_37 rfl (lv_at hl 0 rfl) ?_
  refine lv_iconst (v := (-1)) hx hb dX6_step_38 (by decide) ?_
  refine lv_ixor hx hb dX6_step_39 ?_
  refine lv_iand hx hb dX6_step_40 ?_
  cases hF
  exact z_wi hx hb hr hlk hP hD hS rfl rfl dX6_step_41
def f6_turning_l31 (x1 : Int32) : Nat → Int32 → Int32 → Cs → Option (Int32 × Cs)
  | 0, _, _, _ => none
  | n31 + 1, y3, y4, C5 => if 4 ≤ y4 then some (y3, C5) else (f6_isAsHeard C5 x1 y4).bind fun (v8, C7) => if v8 = 0 then f6_turning_l31 x1 n31 y3 (y4 + 1) C7 else bd (α := Int32) (y3 ||| (f6_bit y4)) (fun (v10 : Int32) => f6_turning_l31 x1 n31 v10 (y4 + 1) C7)
def f6_turning (C : Cs) (x1 : Int32) : Option (Int32 × Cs) := if (f6_isNoWalker C x1) = 0 then if (f6_has ((C.1 0).1 5) x1) = 0 then f6_turning_l31 x1 FU 0 0 C else some ((-3), C) else some ((-1), C)
abbrev rmX6_turning : Room := { frames := 6, cells := 0, slots := 0, locals := 141 }
set_option maxHeartbeats 4000000 in
set_option maxRecDepth 100000 in
theorem c6_turning (l : Launch) (g : zG) (q : Nat → Nat) (C : Cs) (x1 : Int32) (ro : Int32) (C_o : Cs) (hF : f6_turning C x1 = some (ro, C_o)) : zRW l g yX6_turning wsX6_turning rmX6_turning [.ref (q 0), .int x1] (CW g q C) (some (.int ro)) (CW g q C_o) := by
  refine zRW_of (cc := cX6_turning) (maxL := 4) (ret := (some .int)) (by decide) rfl (Nat.le_of_ble_eq_true rfl) ?_
  intro p e s m args below meth c A H locs ls hx hb hr hml hts hown hlk hK hA hP hD hS hl
  have hown : s.vm.findClass RX6 = some m.cls := hown
  have hl : lv_has ls 4 [(0, .ref (q 0)), (1, .int x1)] := hl
  have inX2 : ∀ w ∈ wsX20, w ∈ wsX6_turning := fun _ h => List.mem_cons_of_mem _ (List.mem_append_left _ (List.mem_append_left _ (List.mem_append_right _ h)))
  have inX6 : ∀ w ∈ wsX60, w ∈ wsX6_turning := fun _ h => List.mem_cons_of_mem _ (List.mem_append_left _ (List.mem_append_left _ (List.mem_append_left _ (List.mem_append_right _ h))))
  unfold f6_turning at hF
  refine lv_aload_n hx hb dX6_turning_0 rfl (lv_at hl 0 rfl) ?_
  refine lv_iload_n hx hb dX6_turning_1 rfl (lv_at hl 1 rfl) ?_
  refine z_rgo (va_runV (As := [.int x1]) (rest := []) ⟨hx, hb, hml, hown, hts⟩ (c6_isNoWalker l g q C x1) (cwV 1 hts gX6_turning_X6_isNoWalker rfl rfl rfl (by decide +kernel) ⟨Nat.le_of_ble_eq_true rfl, Nat.le_of_ble_eq_true rfl⟩) (z_rpreV (ci := 6) (q := (RX6, TX6, 13)) (q0 := 0) hP hK rfl rfl) rfl rfl hl.1 rfl (lv_room (Nat.le_of_ble_eq_true rfl)) dX6_turning_2 ⟨Nat.zero_le _, Nat.zero_le _⟩) ?_
  refine lv_if_eq (tgt := 10) hx hb dX6_turning_5 (by decide) (fun c1 => ?_) (fun c1 => ?_)
  · have hF := zit c1 hF
    refine lv_aload_n hx hb dX6_turning_10 rfl (lv_at hl 0 rfl) ?_
    refine z_get (ci := 6) (v := .ref (q 23)) (C := RX6) (T := TX6) (N := 13) hx hb hts inX6 hown hK hP 0 rfl rfl 4 (by decide) (List.mem_of_getElem? (i := 1) rfl) rfl rfl dX6_turning_11 ?_
    refine z_get (ci := 2) (v := .int ((C.1 0).1 5)) (C := RX2) (T := TX2) (N := 9) hx hb hts inX2 hown hK hP 23 rfl rfl 5 (by decide) (List.mem_of_getElem? (i := 2) rfl) rfl rfl dX6_turning_14 ?_
    refine lv_iload_n hx hb dX6_turning_17 rfl (lv_at hl 1 rfl) ?_
    refine z_rgo (va_runS (As := [.int ((C.1 0).1 5), .int x1]) (rest := []) ⟨hx, hb, hml, hown, hts⟩ (c6_has l g   ((C.1 0).1 5) x1) (va_cwS 2 hts gX6_turning_X6_has rfl rfl rfl (by decide +kernel) ⟨Nat.le_of_ble_eq_true rfl, Nat.le_of_ble_eq_true rfl⟩) (z_rpre z_nil hK) rfl rfl hl.1 rfl (lv_room (Nat.le_of_ble_eq_true rfl)) dX6_turning_18 ⟨Nat.zero_le _, Nat.zero_le _⟩) ?_
    refine lv_if_eq (tgt := 27) hx hb dX6_turning_21 (by decide) (fun c2 => ?_) (fun c2 => ?_)
    · have hF := zit c2 hF
      refine lv_iconst (v := 0) hx hb dX6_turning_27 (by decide) ?_
      refine lv_istore_n (lv' := [(2, .int 0), (0, .ref (q 0)), (1, .int x1)]) hx hb dX6_turning_28 rfl hl (by decide) rfl (fun ls hl => ?_)
      refine lv_iconst (v := 0) hx hb dX6_turning_29 (by decide) ?_
      refine lv_istore_n (lv' := [(3, .int 0), (2, .int 0), (0, .ref (q 0)), (1, .int x1)]) hx hb dX6_turning_30 rfl hl (by decide) rfl (fun ls hl => ?_)
      have L31 : ∀ (n31 : Nat) (y3 : Int32) (y4 : Int32) (C5 : Cs) (H : Heap) (locs : List Loc) (ls : Array Slot), f6_turning_l31 x1 n31 y3 y4 C5 = some (ro, C_o) → va_P (zD g) vwCl (CW g q C5) H → va_D A (CW g q C5) → va_S A s.heap H locs → lv_has ls 4 [(0, .ref (q 0)), (1, .int x1), (2, .int y3), (3, .int y4)] → W p l e (headSpec wsX6_turning rmX6_turning).room s m args below meth c H locs 0 0 (MQ below (zWQ g A (CW g q C_o) (some (.int ro))) args s 0 0 A) (F0 m 31 ls []) := by
        intro n31
        induction n31 with
        | zero =>
          intro y3 y4 C5 H locs ls hF hP hD hS hl
          exact absurd (show (none : Option (Int32 × Cs)) = some _ from hF) (fun h9 => by cases h9)
        | succ n31 ih31 =>
          intro y3 y4 C5 H locs ls hF hP hD hS hl
          rw [f6_turning_l31] at hF
          refine lv_iload_n hx hb dX6_turning_31 rfl (lv_at hl 3 rfl) ?_
          refine lv_iconst (v := 4) hx hb dX6_turning_32 (by decide) ?_
          refine lv_icmp_ge (tgt := 58) hx hb dX6_turning_33 (by decide) (fun c6 => ?_) (fun c6 => ?_)
          · have hF := zit c6 hF
            refine lv_iload_n hx hb dX6_turning_58 rfl (lv_at hl 2 rfl) ?_
            cases hF
            exact z_wi hx hb hr hlk hP hD hS rfl rfl dX6_turning_59
          · have hF := zif c6 hF
            refine lv_aload_n hx hb dX6_turning_36 rfl (lv_at hl 0 rfl) ?_
            refine lv_iload_n hx hb dX6_turning_37 rfl (lv_at hl 1 rfl) ?_
            refine lv_iload_n hx hb dX6_turning_38 rfl (lv_at hl 3 rfl) ?_
            obtain ⟨⟨v8, C7⟩, hC7, hF⟩ := zob hF
            refine z_wgoW (va_runV (As := [.int x1, .int y4]) (rest := []) ⟨hx, hb, hml, hown, hts⟩ ((c6_isAsHeard l g q C5 x1 y4 v8  C7 hC7) H.size) (cwV 2 hts gX6_turning_X6_isAsHeard rfl rfl rfl (by decide +kernel) ⟨Nat.le_of_ble_eq_true rfl, Nat.le_of_ble_eq_true rfl⟩) (z_wpreV (ci := 6) (q := (RX6, TX6, 13)) (q0 := 0) hP hK (z_any hD) rfl rfl) rfl rfl hl.1 rfl (lv_room (Nat.le_of_ble_eq_true rfl)) dX6_turning_39 ⟨Nat.zero_le _, Nat.zero_le _⟩) hP hD hS hA (fun H locs hP hD hS => ?_)
            show W p l e (headSpec wsX6_turning rmX6_turning).room s m args below meth c H locs 0 0 (MQ below (zWQ g A (CW g q C_o) (some (.int ro))) args s 0 0 A) (F0 m 42 ls [.int v8])
            refine lv_if_eq (tgt := 52) hx hb dX6_turning_42 (by decide) (fun c9 => ?_) (fun c9 => ?_)
            · have hF := zit c9 hF
              refine lv_iinc (v := (y4 + 1)) (lv' := [(3, .int (y4 + 1)), (0, .ref (q 0)), (1, .int x1), (2, .int y3)]) hx hb dX6_turning_52 hl (k := 3) rfl rfl (by decide) rfl (fun ls hl => ?_)
              refine lv_goto (tgt := 31) hx hb dX6_turning_55 (by decide) ?_
              exact ih31 y3 (y4 + 1) C7 H locs ls hF hP hD hS (lv_sub hl [1, 2, 3, 0] rfl)
            · have hF := zif c9 hF
              refine lv_iload_n hx hb dX6_turning_45 rfl (lv_at hl 2 rfl) ?_
              refine lv_iload_n hx hb dX6_turning_46 rfl (lv_at hl 3 rfl) ?_
              refine z_rgo (va_runS (As := [.int y4]) (rest := [.int y3]) ⟨hx, hb, hml, hown, hts⟩ (c6_bit l g   y4) (va_cwS 1 hts gX6_turning_X6_bit rfl rfl rfl (by decide +kernel) ⟨Nat.le_of_ble_eq_true rfl, Nat.le_of_ble_eq_true rfl⟩) (z_rpre z_nil hK) rfl rfl hl.1 rfl (lv_room (Nat.le_of_ble_eq_true rfl)) dX6_turning_47 ⟨Nat.zero_le _, Nat.zero_le _⟩) ?_
              refine lv_ior hx hb dX6_turning_50 ?_
              refine lv_topi (fun v10 ev10 => ?_)
              have hF := bd_eq ev10 hF
              refine lv_istore_n (lv' := [(2, .int v10), (0, .ref (q 0)), (1, .int x1), (3, .int y4)]) hx hb dX6_turning_51 rfl hl (by decide) rfl (fun ls hl => ?_)
              refine lv_iinc (v := (y4 + 1)) (lv' := [(3, .int (y4 + 1)), (2, .int v10), (0, .ref (q 0)), (1, .int x1)]) hx hb dX6_turning_52 hl (k := 3) rfl rfl (by decide) rfl (fun ls hl => ?_)
              refine lv_goto (tgt := 31) hx hb dX6_turning_55 (by decide) ?_
              exact ih31 v10 (y4 + 1) C7 H locs ls hF hP hD hS (lv_sub hl [2, 3, 1, 0] rfl)
      exact L31 FU 0 0 C H locs ls hF hP hD hS (lv_sub hl [2, 3, 1, 0] rfl)
    · have hF := zif c2 hF
      refine lv_bipush (v := (-3)) hx hb dX6_turning_24 (by decide) ?_
      cases hF
      exact z_wi hx hb hr hlk hP hD hS rfl rfl dX6_turning_26
  · have hF := zif c1 hF
    refine lv_iconst (v := (-1)) hx hb dX6_turning_8 (by decide) ?_
    cases hF
    exact z_wi hx hb hr hlk hP hD hS rfl rfl dX6_turning_9
def f6_undo (C : Cs) : Option (Int32 × Cs) := if 0 < (C.2.2.1.2) then (f5_pop (C.2.1, C.2.2.1) (C.1 0)).bind fun (P2, M4) => bd (cM (cRo (cRM C P2.1) P2.2) 0 M4) (fun (C5 : Cs) => some ((C5.2.2.1.2), C5)) else some ((-3), C)
abbrev rmX6_undo : Room := { frames := 3, cells := 0, slots := 0, locals := 66 }
set_option maxHeartbeats 4000000 in
set_option maxRecDepth 100000 in
theorem c6_undo (l : Launch) (g : zG) (q : Nat → Nat) (C : Cs) (ro : Int32) (C_o : Cs) (hF : f6_undo C = some (ro, C_o)) : zRW l g yX6_undo wsX6_undo rmX6_undo [.ref (q 0)] (CW g q C) (some (.int ro)) (CW g q C_o) := by
  refine zRW_of (cc := cX6_undo) (maxL := 1) (ret := (some .int)) (by decide) rfl (Nat.le_of_ble_eq_true rfl) ?_
  intro p e s m args below meth c A H locs ls hx hb hr hml hts hown hlk hK hA hP hD hS hl
  have hown : s.vm.findClass RX6 = some m.cls := hown
  have hl : lv_has ls 1 [(0, .ref (q 0))] := hl
  have inX5 : ∀ w ∈ wsX50, w ∈ wsX6_undo := fun _ h => List.mem_cons_of_mem _ (List.mem_append_left _ (List.mem_append_right _ h))
  have inX6 : ∀ w ∈ wsX60, w ∈ wsX6_undo := fun _ h => List.mem_cons_of_mem _ (List.mem_append_left _ (List.mem_append_left _ (List.mem_append_right _ h)))
  unfold f6_undo at hF
  refine lv_aload_n hx hb dX6_undo_0 rfl (lv_at hl 0 rfl) ?_
  refine z_get (ci := 6) (v := .ref (q 34)) (C := RX6) (T := TX6) (N := 13) hx hb hts inX6 hown hK hP 0 rfl rfl 7 (by decide) (List.mem_of_getElem? (i := 1) rfl) rfl rfl dX6_undo_1 ?_
  refine z_get (ci := 5) (v := .int (C.2.2.1.2)) (C := RX5) (T := TX5) (N := 2) hx hb hts inX5 hown hK hP 34 rfl rfl 1 (by decide) (List.mem_of_getElem? (i := 2) rfl) rfl rfl dX6_undo_4 ?_
  refine lv_if_gt (tgt := 13) hx hb dX6_undo_7 (by decide) (fun c1 => ?_) (fun c1 => ?_)
  · have hF := zit c1 hF
    refine lv_aload_n hx hb dX6_undo_13 rfl (lv_at hl 0 rfl) ?_
    refine z_get (ci := 6) (v := .ref (q 34)) (C := RX6) (T := TX6) (N := 13) hx hb hts inX6 hown hK hP 0 rfl rfl 7 (by decide) (List.mem_of_getElem? (i := 1) rfl) rfl rfl dX6_undo_14 ?_
    refine lv_aload_n hx hb dX6_undo_17 rfl (lv_at hl 0 rfl) ?_
    refine z_get (ci := 6) (v := .ref (q 23)) (C := RX6) (T := TX6) (N := 13) hx hb hts inX6 hown hK hP 0 rfl rfl 4 (by decide) (List.mem_of_getElem? (i := 3) rfl) rfl rfl dX6_undo_18 ?_
    obtain ⟨X3, hX3⟩ := cw_perm g q C
    obtain ⟨⟨P2, M4⟩, hP2, hF⟩ := zob hF
    refine z_wgoP (wn := CW g q (cM (cRo (cRM C P2.1) P2.2) 0 M4)) (va_runV (As := [.ref (q 23)]) (rest := []) ⟨hx, hb, hml, hown, hts⟩ ((c5_popInto l g q (C.2.1, C.2.2.1) (C.1 0) P2 M4 hP2) H.size) (cwV 1 hts gX6_undo_X5_popInto rfl rfl rfl (by decide +kernel) ⟨Nat.le_of_ble_eq_true rfl, Nat.le_of_ble_eq_true rfl⟩) (z_wpreV (ci := 5) (q := (RX5, TX5, 2)) (q0 := 0) (zP_left (zP_perm hP (cw_perm0 hX3))) hK (z_any (zD_left (zD_perm hD (cw_perm0 hX3)))) rfl rfl) rfl rfl hl.1 rfl (lv_room (Nat.le_of_ble_eq_true rfl)) dX6_undo_21 ⟨Nat.zero_le _, Nat.zero_le _⟩) hP hD hS hA X3 (cw_perm0 hX3) rfl (hX3 P2 M4).symm (fun H locs hP hD hS => ?_)
    show W p l e (headSpec wsX6_undo rmX6_undo).room s m args below meth c H locs 0 0 (MQ below (zWQ g A (CW g q C_o) (some (.int ro))) args s 0 0 A) (F0 m 24 ls [])
    obtain ⟨C5, eC5⟩ : ∃ y : Cs, y = (cM (cRo (cRM C P2.1) P2.2) 0 M4) := ⟨_, rfl⟩
    rw [← eC5] at hP hD
    have hF := bd_eq eC5 hF
    refine lv_aload_n hx hb dX6_undo_24 rfl (lv_at hl 0 rfl) ?_
    refine z_get (ci := 6) (v := .ref (q 34)) (C := RX6) (T := TX6) (N := 13) hx hb hts inX6 hown hK hP 0 rfl rfl 7 (by decide) (List.mem_of_getElem? (i := 1) rfl) rfl rfl dX6_undo_25 ?_
    refine z_get (ci := 5) (v := .int (C5.2.2.1.2)) (C := RX5) (T := TX5) (N := 2) hx hb hts inX5 hown hK hP 34 rfl rfl 1 (by decide) (List.mem_of_getElem? (i := 2) rfl) rfl rfl dX6_undo_28 ?_
    cases hF
    exact z_wi hx hb hr hlk hP hD hS rfl rfl dX6_undo_31
  · have hF := zif c1 hF
    refine lv_bipush (v := (-3)) hx hb dX6_undo_10 (by decide) ?_
    cases hF
    exact z_wi hx hb hr hlk hP hD hS rfl rfl dX6_undo_12
def f6_unhear (C : Cs) : Option (Int32 × Cs) := bd (α := Int32) ((C.2.2.2.2.2.2.2.1).2) (fun (v1 : Int32) => bd (cHd C (uL (C.2.2.2.2.2.2.2.1) 0)) (fun (C2 : Cs) => some (v1, C2)))
abbrev rmX6_unhear : Room := { frames := 0, cells := 0, slots := 0, locals := 0 }
set_option maxHeartbeats 4000000 in
set_option maxRecDepth 100000 in
theorem c6_unhear (l : Launch) (g : zG) (q : Nat → Nat) (C : Cs) (ro : Int32) (C_o : Cs) (hF : f6_unhear C = some (ro, C_o)) : zRW l g yX6_unhear wsX6_unhear rmX6_unhear [.ref (q 0)] (CW g q C) (some (.int ro)) (CW g q C_o) := by
  refine zRW_of (cc := cX6_unhear) (maxL := 2) (ret := (some .int)) (by decide) rfl (Nat.le_of_ble_eq_true rfl) ?_
  intro p e s m args below meth c A H locs ls hx hb hr hml hts hown hlk hK hA hP hD hS hl
  have hown : s.vm.findClass RX6 = some m.cls := hown
  have hl : lv_has ls 2 [(0, .ref (q 0))] := hl
  have inX0 : ∀ w ∈ wsX00, w ∈ wsX6_unhear := fun _ h => List.mem_cons_of_mem _ (List.mem_append_right _ h)
  have inX6 : ∀ w ∈ wsX60, w ∈ wsX6_unhear := fun _ h => List.mem_cons_of_mem _ (List.mem_append_left _ (List.mem_append_right _ h))
  unfold f6_unhear at hF
  refine lv_aload_n hx hb dX6_unhear_0 rfl (lv_at hl 0 rfl) ?_
  refine z_get (ci := 6) (v := .ref (q 46)) (C := RX6) (T := TX6) (N := 13) hx hb hts inX6 hown hK hP 0 rfl rfl 10 (by decide) (List.mem_of_getElem? (i := 1) rfl) rfl rfl dX6_unhear_1 ?_
  refine z_get (ci := 0) (v := .int ((C.2.2.2.2.2.2.2.1).2)) (C := RX0) (T := TX0) (N := 4) hx hb hts inX0 hown hK hP 46 rfl rfl 3 (by decide) (List.mem_of_getElem? (i := 2) rfl) rfl rfl dX6_unhear_4 ?_
  refine lv_topi (fun v1 ev1 => ?_)
  have hF := bd_eq ev1 hF
  refine lv_istore_n (lv' := [(1, .int v1), (0, .ref (q 0))]) hx hb dX6_unhear_7 rfl hl (by decide) rfl (fun ls hl => ?_)
  refine lv_aload_n hx hb dX6_unhear_8 rfl (lv_at hl 1 rfl) ?_
  refine z_get (ci := 6) (v := .ref (q 46)) (C := RX6) (T := TX6) (N := 13) hx hb hts inX6 hown hK hP 0 rfl rfl 10 (by decide) (List.mem_of_getElem? (i := 1) rfl) rfl rfl dX6_unhear_9 ?_
  refine lv_iconst (v := 0) hx hb dX6_unhear_12 (by decide) ?_
  refine z_put (ci := 0) (v := .int 0) (C := RX0) (T := TX0) (N := 4) (ws' := CW g q (cHd C (uL (C.2.2.2.2.2.2.2.1) 0))) hx hb hts inX0 tyX0 tyX0_ok nmX0 hown hK hP hD hS 46 rfl rfl 3 (by decide) (List.mem_of_getElem? (i := 2) rfl) rfl rfl rfl rfl (Nat.le_of_ble_eq_true rfl) rfl dX6_unhear_13 (fun H locs hP hD hS => ?_)
  obtain ⟨C2, eC2⟩ : ∃ y : Cs, y = (cHd C (uL (C.2.2.2.2.2.2.2.1) 0)) := ⟨_, rfl⟩
  rw [← eC2] at hP hD
  have hF := bd_eq eC2 hF
  refine lv_iload_n hx hb dX6_unhear_16 rfl (lv_at hl 0 rfl) ?_
  cases hF
  exact z_wi hx hb hr hlk hP hD hS rfl rfl dX6_unhear_17
def f6_walker (C : Cs) (x1 : Int32) (x2 : Int32) : Option (Int32) := if (f6_isNoWalker C x1) = 0 then if x2 = 0 then some (f6_cell 4 ((C.1 0).2 0) x1) else if x2 = 1 then some (f6_cell 4 ((C.1 0).2 1) x1) else if x2 = 2 then some (f6_cell 4 ((C.1 0).2 2) x1) else if x2 = 3 then some (f6_cell 4 (((C.2.2.2.2.2.1).1).2 11) x1) else if x2 = 4 then some (f6_cell 4 (((C.2.2.2.2.2.1).1).2 12) x1) else if x2 = 5 then some (f6_flag (f6_has ((C.1 0).1 5) x1)) else if x2 = 6 then (f2_nextOf (C.1 0) ((C.2.2.2.2.2.1).1) x1 (f3_tide ((C.2.2.2.2.2.1).1) ((C.1 0).1 8))).bind fun v9 => some v9 else if x2 = 7 then some (f6_cell 4 (((C.2.2.2.2.2.1).1).2 10) x1) else some (-2) else some (-1)
abbrev rmX6_walker : Room := { frames := 3, cells := 0, slots := 0, locals := 74 }
set_option maxHeartbeats 4000000 in
set_option maxRecDepth 100000 in
theorem c6_walker (l : Launch) (g : zG) (q : Nat → Nat) (C : Cs) (x1 : Int32) (x2 : Int32) (ro : Int32) (hF : f6_walker C x1 x2 = some ro) : zRO l g yX6_walker wsX6_walker rmX6_walker [.ref (q 0), .int x1, .int x2] (CW g q C) (some (.int ro)) := by
  refine zRO_of (cc := cX6_walker) (maxL := 3) (ret := (some .int)) (by decide) rfl (Nat.le_of_ble_eq_true rfl) ?_
  intro p e s m args below meth c ls hx hb hr hml hts hown hlk hK hP hl
  have hown : s.vm.findClass RX6 = some m.cls := hown
  have hl : lv_has ls 3 [(0, .ref (q 0)), (1, .int x1), (2, .int x2)] := hl
  have inX2 : ∀ w ∈ wsX20, w ∈ wsX6_walker := fun _ h => List.mem_cons_of_mem _ (List.mem_append_left _ (List.mem_append_right _ h))
  have inX3 : ∀ w ∈ wsX30, w ∈ wsX6_walker := fun _ h => List.mem_cons_of_mem _ (List.mem_append_right _ h)
  have inX6 : ∀ w ∈ wsX60, w ∈ wsX6_walker := fun _ h => List.mem_cons_of_mem _ (List.mem_append_left _ (List.mem_append_left _ (List.mem_append_right _ h)))
  unfold f6_walker at hF
  refine lv_aload_n hx hb dX6_walker_0 rfl (lv_at hl 0 rfl) ?_
  refine lv_iload_n hx hb dX6_walker_1 rfl (lv_at hl 1 rfl) ?_
  refine z_rgo (va_runV (As := [.int x1]) (rest := []) ⟨hx, hb, hml, hown, hts⟩ (c6_isNoWalker l g q C x1) (cwV 1 hts gX6_walker_X6_isNoWalker rfl rfl rfl (by decide +kernel) ⟨Nat.le_of_ble_eq_true rfl, Nat.le_of_ble_eq_true rfl⟩) (z_rpreV (ci := 6) (q := (RX6, TX6, 13)) (q0 := 0) hP hK rfl rfl) rfl rfl hl.1 rfl (lv_room (Nat.le_of_ble_eq_true rfl)) dX6_walker_2 ⟨Nat.zero_le _, Nat.zero_le _⟩) ?_
  refine lv_if_eq (tgt := 10) hx hb dX6_walker_5 (by decide) (fun c1 => ?_) (fun c1 => ?_)
  · have hF := zit c1 hF
    refine lv_iload_n hx hb dX6_walker_10 rfl (lv_at hl 2 rfl) ?_
    by_cases c2 : x2 = 0
    · have hF := zit c2 hF
      refine z_tin (k := 0) (tgt := 56) hx hb dX6_walker_11 c2 ⟨by decide, by decide, rfl, by decide⟩ ?_
      refine lv_aload_n hx hb dX6_walker_56 rfl (lv_at hl 0 rfl) ?_
      refine z_get (ci := 6) (v := .ref (q 23)) (C := RX6) (T := TX6) (N := 13) hx hb hts inX6 hown hK hP 0 rfl rfl 4 (by decide) (List.mem_of_getElem? (i := 1) rfl) rfl rfl dX6_walker_57 ?_
      refine z_get (ci := 2) (v := .ref (q (23 + 1))) (C := RX2) (T := TX2) (N := 9) hx hb hts inX2 hown hK hP 23 rfl rfl 0 (by decide) (List.mem_of_getElem? (i := 2) rfl) rfl rfl dX6_walker_60 ?_
      refine lv_iload_n hx hb dX6_walker_63 rfl (lv_at hl 1 rfl) ?_
      refine z_rgo (va_runS (As := [.ref (q (23 + 1)), .int x1]) (rest := []) ⟨hx, hb, hml, hown, hts⟩ (c6_cell l g (q (23 + 1)) 4 (by decide) ((C.1 0).2 0) x1) (va_cwS 2 hts gX6_walker_X6_cell rfl rfl rfl (by decide +kernel) ⟨Nat.le_of_ble_eq_true rfl, Nat.le_of_ble_eq_true rfl⟩) (z_rpre (hP.sub (ws' := [((q (23 + 1)), .inl (g.2.2.1, 4, .inl ((C.1 0).2 0)))]) [24] rfl) hK) rfl rfl hl.1 rfl (lv_room (Nat.le_of_ble_eq_true rfl)) dX6_walker_64 ⟨Nat.zero_le _, Nat.zero_le _⟩) ?_
      cases hF
      exact z_ri hx hb hr hlk rfl dX6_walker_67
    · have hF := zif c2 hF
      by_cases c3 : x2 = 1
      · have hF := zit c3 hF
        refine z_tin (k := 1) (tgt := 68) hx hb dX6_walker_11 c3 ⟨by decide, by decide, rfl, by decide⟩ ?_
        refine lv_aload_n hx hb dX6_walker_68 rfl (lv_at hl 0 rfl) ?_
        refine z_get (ci := 6) (v := .ref (q 23)) (C := RX6) (T := TX6) (N := 13) hx hb hts inX6 hown hK hP 0 rfl rfl 4 (by decide) (List.mem_of_getElem? (i := 1) rfl) rfl rfl dX6_walker_69 ?_
        refine z_get (ci := 2) (v := .ref (q (23 + 2))) (C := RX2) (T := TX2) (N := 9) hx hb hts inX2 hown hK hP 23 rfl rfl 1 (by decide) (List.mem_of_getElem? (i := 3) rfl) rfl rfl dX6_walker_72 ?_
        refine lv_iload_n hx hb dX6_walker_75 rfl (lv_at hl 1 rfl) ?_
        refine z_rgo (va_runS (As := [.ref (q (23 + 2)), .int x1]) (rest := []) ⟨hx, hb, hml, hown, hts⟩ (c6_cell l g (q (23 + 2)) 4 (by decide) ((C.1 0).2 1) x1) (va_cwS 2 hts gX6_walker_X6_cell rfl rfl rfl (by decide +kernel) ⟨Nat.le_of_ble_eq_true rfl, Nat.le_of_ble_eq_true rfl⟩) (z_rpre (hP.sub (ws' := [((q (23 + 2)), .inl (g.2.2.1, 4, .inl ((C.1 0).2 1)))]) [25] rfl) hK) rfl rfl hl.1 rfl (lv_room (Nat.le_of_ble_eq_true rfl)) dX6_walker_76 ⟨Nat.zero_le _, Nat.zero_le _⟩) ?_
        cases hF
        exact z_ri hx hb hr hlk rfl dX6_walker_79
      · have hF := zif c3 hF
        by_cases c4 : x2 = 2
        · have hF := zit c4 hF
          refine z_tin (k := 2) (tgt := 80) hx hb dX6_walker_11 c4 ⟨by decide, by decide, rfl, by decide⟩ ?_
          refine lv_aload_n hx hb dX6_walker_80 rfl (lv_at hl 0 rfl) ?_
          refine z_get (ci := 6) (v := .ref (q 23)) (C := RX6) (T := TX6) (N := 13) hx hb hts inX6 hown hK hP 0 rfl rfl 4 (by decide) (List.mem_of_getElem? (i := 1) rfl) rfl rfl dX6_walker_81 ?_
          refine z_get (ci := 2) (v := .ref (q (23 + 3))) (C := RX2) (T := TX2) (N := 9) hx hb hts inX2 hown hK hP 23 rfl rfl 2 (by decide) (List.mem_of_getElem? (i := 4) rfl) rfl rfl dX6_walker_84 ?_
          refine lv_iload_n hx hb dX6_walker_87 rfl (lv_at hl 1 rfl) ?_
          refine z_rgo (va_runS (As := [.ref (q (23 + 3)), .int x1]) (rest := []) ⟨hx, hb, hml, hown, hts⟩ (c6_cell l g (q (23 + 3)) 4 (by decide) ((C.1 0).2 2) x1) (va_cwS 2 hts gX6_walker_X6_cell rfl rfl rfl (by decide +kernel) ⟨Nat.le_of_ble_eq_true rfl, Nat.le_of_ble_eq_true rfl⟩) (z_rpre (hP.sub (ws' := [((q (23 + 3)), .inl (g.2.2.1, 4, .inl ((C.1 0).2 2)))]) [26] rfl) hK) rfl rfl hl.1 rfl (lv_room (Nat.le_of_ble_eq_true rfl)) dX6_walker_88 ⟨Nat.zero_le _, Nat.zero_le _⟩) ?_
          cases hF
          exact z_ri hx hb hr hlk rfl dX6_walker_91
        · have hF := zif c4 hF
          by_cases c5 : x2 = 3
          · have hF := zit c5 hF
            refine z_tin (k := 3) (tgt := 92) hx hb dX6_walker_11 c5 ⟨by decide, by decide, rfl, by decide⟩ ?_
            refine lv_aload_n hx hb dX6_walker_92 rfl (lv_at hl 0 rfl) ?_
            refine z_get (ci := 6) (v := .ref (q (13 + 2))) (C := RX6) (T := TX6) (N := 13) hx hb hts inX6 hown hK hP 0 rfl rfl 3 (by decide) (List.mem_of_getElem? (i := 5) rfl) rfl rfl dX6_walker_93 ?_
            refine z_get (ci := 3) (v := .ref (q ((13 + 2) + 6))) (C := RX3) (T := TX3) (N := 13) hx hb hts inX3 hown hK hP 15 rfl rfl 11 (by decide) (List.mem_of_getElem? (i := 6) rfl) rfl rfl dX6_walker_96 ?_
            refine lv_iload_n hx hb dX6_walker_99 rfl (lv_at hl 1 rfl) ?_
            refine z_rgo (va_runS (As := [.ref (q ((13 + 2) + 6)), .int x1]) (rest := []) ⟨hx, hb, hml, hown, hts⟩ (c6_cell l g (q ((13 + 2) + 6)) 4 (by decide) (((C.2.2.2.2.2.1).1).2 11) x1) (va_cwS 2 hts gX6_walker_X6_cell rfl rfl rfl (by decide +kernel) ⟨Nat.le_of_ble_eq_true rfl, Nat.le_of_ble_eq_true rfl⟩) (z_rpre (hP.sub (ws' := [((q ((13 + 2) + 6)), .inl (g.2.2.1, 4, .inl (((C.2.2.2.2.2.1).1).2 11)))]) [21] rfl) hK) rfl rfl hl.1 rfl (lv_room (Nat.le_of_ble_eq_true rfl)) dX6_walker_100 ⟨Nat.zero_le _, Nat.zero_le _⟩) ?_
            cases hF
            exact z_ri hx hb hr hlk rfl dX6_walker_103
          · have hF := zif c5 hF
            by_cases c6 : x2 = 4
            · have hF := zit c6 hF
              refine z_tin (k := 4) (tgt := 104) hx hb dX6_walker_11 c6 ⟨by decide, by decide, rfl, by decide⟩ ?_
              refine lv_aload_n hx hb dX6_walker_104 rfl (lv_at hl 0 rfl) ?_
              refine z_get (ci := 6) (v := .ref (q (13 + 2))) (C := RX6) (T := TX6) (N := 13) hx hb hts inX6 hown hK hP 0 rfl rfl 3 (by decide) (List.mem_of_getElem? (i := 5) rfl) rfl rfl dX6_walker_105 ?_
              refine z_get (ci := 3) (v := .ref (q ((13 + 2) + 7))) (C := RX3) (T := TX3) (N := 13) hx hb hts inX3 hown hK hP 15 rfl rfl 12 (by decide) (List.mem_of_getElem? (i := 7) rfl) rfl rfl dX6_walker_108 ?_
              refine lv_iload_n hx hb dX6_walker_111 rfl (lv_at hl 1 rfl) ?_
              refine z_rgo (va_runS (As := [.ref (q ((13 + 2) + 7)), .int x1]) (rest := []) ⟨hx, hb, hml, hown, hts⟩ (c6_cell l g (q ((13 + 2) + 7)) 4 (by decide) (((C.2.2.2.2.2.1).1).2 12) x1) (va_cwS 2 hts gX6_walker_X6_cell rfl rfl rfl (by decide +kernel) ⟨Nat.le_of_ble_eq_true rfl, Nat.le_of_ble_eq_true rfl⟩) (z_rpre (hP.sub (ws' := [((q ((13 + 2) + 7)), .inl (g.2.2.1, 4, .inl (((C.2.2.2.2.2.1).1).2 12)))]) [22] rfl) hK) rfl rfl hl.1 rfl (lv_room (Nat.le_of_ble_eq_true rfl)) dX6_walker_112 ⟨Nat.zero_le _, Nat.zero_le _⟩) ?_
              cases hF
              exact z_ri hx hb hr hlk rfl dX6_walker_115
            · have hF := zif c6 hF
              by_cases c7 : x2 = 5
              · have hF := zit c7 hF
                refine z_tin (k := 5) (tgt := 116) hx hb dX6_walker_11 c7 ⟨by decide, by decide, rfl, by decide⟩ ?_
                refine lv_aload_n hx hb dX6_walker_116 rfl (lv_at hl 0 rfl) ?_
                refine z_get (ci := 6) (v := .ref (q 23)) (C := RX6) (T := TX6) (N := 13) hx hb hts inX6 hown hK hP 0 rfl rfl 4 (by decide) (List.mem_of_getElem? (i := 1) rfl) rfl rfl dX6_walker_117 ?_
                refine z_get (ci := 2) (v := .int ((C.1 0).1 5)) (C := RX2) (T := TX2) (N := 9) hx hb hts inX2 hown hK hP 23 rfl rfl 5 (by decide) (List.mem_of_getElem? (i := 8) rfl) rfl rfl dX6_walker_120 ?_
                refine lv_iload_n hx hb dX6_walker_123 rfl (lv_at hl 1 rfl) ?_
                refine z_rgo (va_runS (As := [.int ((C.1 0).1 5), .int x1]) (rest := []) ⟨hx, hb, hml, hown, hts⟩ (c6_has l g   ((C.1 0).1 5) x1) (va_cwS 2 hts gX6_walker_X6_has rfl rfl rfl (by decide +kernel) ⟨Nat.le_of_ble_eq_true rfl, Nat.le_of_ble_eq_true rfl⟩) (z_rpre z_nil hK) rfl rfl hl.1 rfl (lv_room (Nat.le_of_ble_eq_true rfl)) dX6_walker_124 ⟨Nat.zero_le _, Nat.zero_le _⟩) ?_
                refine z_rgo (va_runS (As := [.int (f6_has ((C.1 0).1 5) x1)]) (rest := []) ⟨hx, hb, hml, hown, hts⟩ (c6_flag l g   (f6_has ((C.1 0).1 5) x1)) (va_cwS 1 hts gX6_walker_X6_flag rfl rfl rfl (by decide +kernel) ⟨Nat.le_of_ble_eq_true rfl, Nat.le_of_ble_eq_true rfl⟩) (z_rpre z_nil hK) rfl rfl hl.1 rfl (lv_room (Nat.le_of_ble_eq_true rfl)) dX6_walker_127 ⟨Nat.zero_le _, Nat.zero_le _⟩) ?_
                cases hF
                exact z_ri hx hb hr hlk rfl dX6_walker_130
              · have hF := zif c7 hF
                by_cases c8 : x2 = 6
                · have hF := zit c8 hF
                  refine z_tin (k := 6) (tgt := 131) hx hb dX6_walker_11 c8 ⟨by decide, by decide, rfl, by decide⟩ ?_
                  refine lv_aload_n hx hb dX6_walker_131 rfl (lv_at hl 0 rfl) ?_
                  refine z_get (ci := 6) (v := .ref (q 23)) (C := RX6) (T := TX6) (N := 13) hx hb hts inX6 hown hK hP 0 rfl rfl 4 (by decide) (List.mem_of_getElem? (i := 1) rfl) rfl rfl dX6_walker_132 ?_
                  refine lv_iload_n hx hb dX6_walker_135 rfl (lv_at hl 1 rfl) ?_
                  refine lv_aload_n hx hb dX6_walker_136 rfl (lv_at hl 0 rfl) ?_
                  refine z_get (ci := 6) (v := .ref (q (13 + 2))) (C := RX6) (T := TX6) (N := 13) hx hb hts inX6 hown hK hP 0 rfl rfl 3 (by decide) (List.mem_of_getElem? (i := 5) rfl) rfl rfl dX6_walker_137 ?_
                  refine lv_aload_n hx hb dX6_walker_140 rfl (lv_at hl 0 rfl) ?_
                  refine z_get (ci := 6) (v := .ref (q (13 + 2))) (C := RX6) (T := TX6) (N := 13) hx hb hts inX6 hown hK hP 0 rfl rfl 3 (by decide) (List.mem_of_getElem? (i := 5) rfl) rfl rfl dX6_walker_141 ?_
                  refine lv_aload_n hx hb dX6_walker_144 rfl (lv_at hl 0 rfl) ?_
                  refine z_get (ci := 6) (v := .ref (q 23)) (C := RX6) (T := TX6) (N := 13) hx hb hts inX6 hown hK hP 0 rfl rfl 4 (by decide) (List.mem_of_getElem? (i := 1) rfl) rfl rfl dX6_walker_145 ?_
                  refine z_get (ci := 2) (v := .int ((C.1 0).1 8)) (C := RX2) (T := TX2) (N := 9) hx hb hts inX2 hown hK hP 23 rfl rfl 8 (by decide) (List.mem_of_getElem? (i := 9) rfl) rfl rfl dX6_walker_148 ?_
                  refine z_rgo (va_runV (As := [.int ((C.1 0).1 8)]) (rest := [.ref (q (13 + 2)), .int x1, .ref (q 23)]) ⟨hx, hb, hml, hown, hts⟩ (c3_tide l g q (13 + 2) ((C.2.2.2.2.2.1).1) ((C.1 0).1 8)) (cwV 1 hts gX6_walker_X3_tide rfl rfl rfl (by decide +kernel) ⟨Nat.le_of_ble_eq_true rfl, Nat.le_of_ble_eq_true rfl⟩) (z_rpreV (ci := 3) (q := (RX3, TX3, 13)) (q0 := 0) (hP.sub (ws' := NW g q (13 + 2) ((C.2.2.2.2.2.1).1)) [15, 16, 17, 18, 19, 20, 21, 22] rfl) hK rfl rfl) rfl rfl hl.1 rfl (lv_room (Nat.le_of_ble_eq_true rfl)) dX6_walker_151 ⟨Nat.zero_le _, Nat.zero_le _⟩) ?_
                  obtain ⟨v9, hv9, hF⟩ := zob hF
                  refine z_rgo (va_runV (As := [.int x1, .ref (q (13 + 2)), .int (f3_tide ((C.2.2.2.2.2.1).1) ((C.1 0).1 8))]) (rest := []) ⟨hx, hb, hml, hown, hts⟩ (c2_nextOf l g q 23 q (13 + 2) (C.1 0) ((C.2.2.2.2.2.1).1) x1 (f3_tide ((C.2.2.2.2.2.1).1) ((C.1 0).1 8)) v9 hv9) (cwV 3 hts gX6_walker_X2_nextOf rfl rfl rfl (by decide +kernel) ⟨Nat.le_of_ble_eq_true rfl, Nat.le_of_ble_eq_true rfl⟩) (z_rpreV (ci := 2) (q := (RX2, TX2, 9)) (q0 := 0) (hP.sub (ws' := (OW g q 23 (C.1 0) ++ NW g q (13 + 2) ((C.2.2.2.2.2.1).1))) [23, 24, 25, 26, 27, 15, 16, 17, 18, 19, 20, 21, 22] rfl) hK rfl rfl) rfl rfl hl.1 rfl (lv_room (Nat.le_of_ble_eq_true rfl)) dX6_walker_154 ⟨Nat.zero_le _, Nat.zero_le _⟩) ?_
                  cases hF
                  exact z_ri hx hb hr hlk rfl dX6_walker_157
                · have hF := zif c8 hF
                  by_cases c10 : x2 = 7
                  · have hF := zit c10 hF
                    refine z_tin (k := 7) (tgt := 158) hx hb dX6_walker_11 c10 ⟨by decide, by decide, rfl, by decide⟩ ?_
                    refine lv_aload_n hx hb dX6_walker_158 rfl (lv_at hl 0 rfl) ?_
                    refine z_get (ci := 6) (v := .ref (q (13 + 2))) (C := RX6) (T := TX6) (N := 13) hx hb hts inX6 hown hK hP 0 rfl rfl 3 (by decide) (List.mem_of_getElem? (i := 5) rfl) rfl rfl dX6_walker_159 ?_
                    refine z_get (ci := 3) (v := .ref (q ((13 + 2) + 5))) (C := RX3) (T := TX3) (N := 13) hx hb hts inX3 hown hK hP 15 rfl rfl 10 (by decide) (List.mem_of_getElem? (i := 10) rfl) rfl rfl dX6_walker_162 ?_
                    refine lv_iload_n hx hb dX6_walker_165 rfl (lv_at hl 1 rfl) ?_
                    refine z_rgo (va_runS (As := [.ref (q ((13 + 2) + 5)), .int x1]) (rest := []) ⟨hx, hb, hml, hown, hts⟩ (c6_cell l g (q ((13 + 2) + 5)) 4 (by decide) (((C.2.2.2.2.2.1).1).2 10) x1) (va_cwS 2 hts gX6_walker_X6_cell rfl rfl rfl (by decide +kernel) ⟨Nat.le_of_ble_eq_true rfl, Nat.le_of_ble_eq_true rfl⟩) (z_rpre (hP.sub (ws' := [((q ((13 + 2) + 5)), .inl (g.2.2.1, 4, .inl (((C.2.2.2.2.2.1).1).2 10)))]) [20] rfl) hK) rfl rfl hl.1 rfl (lv_room (Nat.le_of_ble_eq_true rfl)) dX6_walker_166 ⟨Nat.zero_le _, Nat.zero_le _⟩) ?_
                    cases hF
                    exact z_ri hx hb hr hlk rfl dX6_walker_169
                  · have hF := zif c10 hF
                    refine z_tout hx hb dX6_walker_11 [0, 1, 2, 3, 4, 5, 6, 7] (fun k hk => ?_) rfl (tgt := 170) (by decide) ?_
                    · simp only [List.mem_cons, List.not_mem_nil, or_false] at hk
                      rcases hk with rfl | rfl | rfl | rfl | rfl | rfl | rfl | rfl <;> assumption
                    · refine lv_bipush (v := (-2)) hx hb dX6_walker_170 (by decide) ?_
                      cases hF
                      exact z_ri hx hb hr hlk rfl dX6_walker_172
  · have hF := zif c1 hF
    refine lv_iconst (v := (-1)) hx hb dX6_walker_8 (by decide) ?_
    cases hF
    exact z_ri hx hb hr hlk rfl dX6_walker_9
def f6_watch_l17 : Nat → Int32 → Int32 → Cs → Option (Int32 × Cs)
  | 0, _, _, _ => none
  | n17 + 1, y3, y4, C5 => if y4 < 0 then some (y3, C5) else if (f6_bitCount_0f7a4 y3) < (f6_bitCount_0f7a4 y4) then f6_watch_l17 n17 y3 (y4 + (-1)) C5 else (f6_meetsAll C5 y4).bind fun v8 => if v8 = 0 then f6_watch_l17 n17 y3 (y4 + (-1)) C5 else f6_watch_l17 n17 y4 (y4 + (-1)) C5
def f6_watch (C : Cs) : Option (Int32 × Cs) := (f6_findPassed C).bind fun C1 => bd (α := Int32) (f6_all (((C1.2.2.2.2.2.1).1).1 2)) (fun (v2 : Int32) => f6_watch_l17 FU v2 v2 C1)
abbrev rmX6_watch : Room := { frames := 6, cells := 0, slots := 0, locals := 140 }
set_option maxHeartbeats 4000000 in
set_option maxRecDepth 100000 in
theorem c6_watch (l : Launch) (g : zG) (q : Nat → Nat) (C : Cs) (ro : Int32) (C_o : Cs) (hF : f6_watch C = some (ro, C_o)) : zRW l g yX6_watch wsX6_watch rmX6_watch [.ref (q 0)] (CW g q C) (some (.int ro)) (CW g q C_o) := by
  refine zRW_of (cc := cX6_watch) (maxL := 3) (ret := (some .int)) (by decide) rfl (Nat.le_of_ble_eq_true rfl) ?_
  intro p e s m args below meth c A H locs ls hx hb hr hml hts hown hlk hK hA hP hD hS hl
  have hown : s.vm.findClass RX6 = some m.cls := hown
  have hl : lv_has ls 3 [(0, .ref (q 0))] := hl
  have inX3 : ∀ w ∈ wsX30, w ∈ wsX6_watch := fun _ h => List.mem_cons_of_mem _ (List.mem_append_left _ (List.mem_append_right _ h))
  have inX6 : ∀ w ∈ wsX60, w ∈ wsX6_watch := fun _ h => List.mem_cons_of_mem _ (List.mem_append_left _ (List.mem_append_left _ (List.mem_append_right _ h)))
  unfold f6_watch at hF
  refine lv_aload_n hx hb dX6_watch_0 rfl (lv_at hl 0 rfl) ?_
  obtain ⟨C1, hC1, hF⟩ := zob hF
  refine z_wgoW (va_runV (As := []) (rest := []) ⟨hx, hb, hml, hown, hts⟩ ((c6_findPassed l g q C   C1 hC1) H.size) (cwV 0 hts gX6_watch_X6_findPassed rfl rfl rfl (by decide +kernel) ⟨Nat.le_of_ble_eq_true rfl, Nat.le_of_ble_eq_true rfl⟩) (z_wpreV (ci := 6) (q := (RX6, TX6, 13)) (q0 := 0) hP hK (z_any hD) rfl rfl) rfl rfl hl.1 rfl (lv_room (Nat.le_of_ble_eq_true rfl)) dX6_watch_1 ⟨Nat.zero_le _, Nat.zero_le _⟩) hP hD hS hA (fun H locs hP hD hS => ?_)
  show W p l e (headSpec wsX6_watch rmX6_watch).room s m args below meth c H locs 0 0 (MQ below (zWQ g A (CW g q C_o) (some (.int ro))) args s 0 0 A) (F0 m 4 ls [])
  refine lv_aload_n hx hb dX6_watch_4 rfl (lv_at hl 0 rfl) ?_
  refine z_get (ci := 6) (v := .ref (q (13 + 2))) (C := RX6) (T := TX6) (N := 13) hx hb hts inX6 hown hK hP 0 rfl rfl 3 (by decide) (List.mem_of_getElem? (i := 1) rfl) rfl rfl dX6_watch_5 ?_
  refine z_get (ci := 3) (v := .int (((C1.2.2.2.2.2.1).1).1 2)) (C := RX3) (T := TX3) (N := 13) hx hb hts inX3 hown hK hP 15 rfl rfl 2 (by decide) (List.mem_of_getElem? (i := 2) rfl) rfl rfl dX6_watch_8 ?_
  refine z_rgo (va_runS (As := [.int (((C1.2.2.2.2.2.1).1).1 2)]) (rest := []) ⟨hx, hb, hml, hown, hts⟩ (c6_all l g   (((C1.2.2.2.2.2.1).1).1 2)) (va_cwS 1 hts gX6_watch_X6_all rfl rfl rfl (by decide +kernel) ⟨Nat.le_of_ble_eq_true rfl, Nat.le_of_ble_eq_true rfl⟩) (z_rpre z_nil hK) rfl rfl hl.1 rfl (lv_room (Nat.le_of_ble_eq_true rfl)) dX6_watch_11 ⟨Nat.zero_le _, Nat.zero_le _⟩) ?_
  refine lv_topi (fun v2 ev2 => ?_)
  have hF := bd_eq ev2 hF
  refine lv_istore_n (lv' := [(1, .int v2), (0, .ref (q 0))]) hx hb dX6_watch_14 rfl hl (by decide) rfl (fun ls hl => ?_)
  refine lv_iload_n hx hb dX6_watch_15 rfl (lv_at hl 0 rfl) ?_
  refine lv_istore_n (lv' := [(2, .int v2), (1, .int v2), (0, .ref (q 0))]) hx hb dX6_watch_16 rfl hl (by decide) rfl (fun ls hl => ?_)
  have L17 : ∀ (n17 : Nat) (y3 : Int32) (y4 : Int32) (C5 : Cs) (H : Heap) (locs : List Loc) (ls : Array Slot), f6_watch_l17 n17 y3 y4 C5 = some (ro, C_o) → va_P (zD g) vwCl (CW g q C5) H → va_D A (CW g q C5) → va_S A s.heap H locs → lv_has ls 3 [(0, .ref (q 0)), (1, .int y3), (2, .int y4)] → W p l e (headSpec wsX6_watch rmX6_watch).room s m args below meth c H locs 0 0 (MQ below (zWQ g A (CW g q C_o) (some (.int ro))) args s 0 0 A) (F0 m 17 ls []) := by
    intro n17
    induction n17 with
    | zero =>
      intro y3 y4 C5 H locs ls hF hP hD hS hl
      exact absurd (show (none : Option (Int32 × Cs)) = some _ from hF) (fun h9 => by cases h9)
    | succ n17 ih17 =>
      intro y3 y4 C5 H locs ls hF hP hD hS hl
      rw [f6_watch_l17] at hF
      refine lv_iload_n hx hb dX6_watch_17 rfl (lv_at hl 2 rfl) ?_
      refine lv_if_lt (tgt := 48) hx hb dX6_watch_18 (by decide) (fun c6 => ?_) (fun c6 => ?_)
      · have hF := zit c6 hF
        refine lv_iload_n hx hb dX6_watch_48 rfl (lv_at hl 1 rfl) ?_
        cases hF
        exact z_wi hx hb hr hlk hP hD hS rfl rfl dX6_watch_49
      · have hF := zif c6 hF
        refine lv_iload_n hx hb dX6_watch_21 rfl (lv_at hl 2 rfl) ?_
        refine z_rgo (va_runS (As := [.int y4]) (rest := []) ⟨hx, hb, hml, hown, hts⟩ (c6_bitCount_0f7a4 l g   y4) (va_cwS 1 hts gX6_watch_J6_bitCount_0f7a4 rfl rfl rfl (by decide +kernel) ⟨Nat.le_of_ble_eq_true rfl, Nat.le_of_ble_eq_true rfl⟩) (z_rpre z_nil hK) rfl rfl hl.1 rfl (lv_room (Nat.le_of_ble_eq_true rfl)) dX6_watch_22 ⟨Nat.zero_le _, Nat.zero_le _⟩) ?_
        refine lv_iload_n hx hb dX6_watch_25 rfl (lv_at hl 1 rfl) ?_
        refine z_rgo (va_runS (As := [.int y3]) (rest := [.int (f6_bitCount_0f7a4 y4)]) ⟨hx, hb, hml, hown, hts⟩ (c6_bitCount_0f7a4 l g   y3) (va_cwS 1 hts gX6_watch_J6_bitCount_0f7a4 rfl rfl rfl (by decide +kernel) ⟨Nat.le_of_ble_eq_true rfl, Nat.le_of_ble_eq_true rfl⟩) (z_rpre z_nil hK) rfl rfl hl.1 rfl (lv_room (Nat.le_of_ble_eq_true rfl)) dX6_watch_26 ⟨Nat.zero_le _, Nat.zero_le _⟩) ?_
        refine lv_icmp_gt (tgt := 42) hx hb dX6_watch_29 (by decide) (fun c7 => ?_) (fun c7 => ?_)
        · have hF := zit c7 hF
          refine lv_iinc (v := (y4 + (-1))) (lv' := [(2, .int (y4 + (-1))), (0, .ref (q 0)), (1, .int y3)]) hx hb dX6_watch_42 hl (k := 2) rfl rfl (by decide) rfl (fun ls hl => ?_)
          refine lv_goto (tgt := 17) hx hb dX6_watch_45 (by decide) ?_
          exact ih17 y3 (y4 + (-1)) C5 H locs ls hF hP hD hS (lv_sub hl [1, 2, 0] rfl)
        · have hF := zif c7 hF
          refine lv_aload_n hx hb dX6_watch_32 rfl (lv_at hl 0 rfl) ?_
          refine lv_iload_n hx hb dX6_watch_33 rfl (lv_at hl 2 rfl) ?_
          obtain ⟨v8, hv8, hF⟩ := zob hF
          refine z_rgo (va_runV (As := [.int y4]) (rest := []) ⟨hx, hb, hml, hown, hts⟩ (c6_meetsAll l g q C5 y4 v8 hv8) (cwV 1 hts gX6_watch_X6_meetsAll rfl rfl rfl (by decide +kernel) ⟨Nat.le_of_ble_eq_true rfl, Nat.le_of_ble_eq_true rfl⟩) (z_rpreV (ci := 6) (q := (RX6, TX6, 13)) (q0 := 0) hP hK rfl rfl) rfl rfl hl.1 rfl (lv_room (Nat.le_of_ble_eq_true rfl)) dX6_watch_34 ⟨Nat.zero_le _, Nat.zero_le _⟩) ?_
          refine lv_if_eq (tgt := 42) hx hb dX6_watch_37 (by decide) (fun c9 => ?_) (fun c9 => ?_)
          · have hF := zit c9 hF
            refine lv_iinc (v := (y4 + (-1))) (lv' := [(2, .int (y4 + (-1))), (0, .ref (q 0)), (1, .int y3)]) hx hb dX6_watch_42 hl (k := 2) rfl rfl (by decide) rfl (fun ls hl => ?_)
            refine lv_goto (tgt := 17) hx hb dX6_watch_45 (by decide) ?_
            exact ih17 y3 (y4 + (-1)) C5 H locs ls hF hP hD hS (lv_sub hl [1, 2, 0] rfl)
          · have hF := zif c9 hF
            refine lv_iload_n hx hb dX6_watch_40 rfl (lv_at hl 2 rfl) ?_
            refine lv_istore_n (lv' := [(1, .int y4), (0, .ref (q 0)), (2, .int y4)]) hx hb dX6_watch_41 rfl hl (by decide) rfl (fun ls hl => ?_)
            refine lv_iinc (v := (y4 + (-1))) (lv' := [(2, .int (y4 + (-1))), (1, .int y4), (0, .ref (q 0))]) hx hb dX6_watch_42 hl (k := 2) rfl rfl (by decide) rfl (fun ls hl => ?_)
            refine lv_goto (tgt := 17) hx hb dX6_watch_45 (by decide) ?_
            exact ih17 y4 (y4 + (-1)) C5 H locs ls hF hP hD hS (lv_sub hl [2, 1, 0] rfl)
  exact L17 FU v2 v2 C1 H locs ls hF hP hD hS (lv_sub hl [2, 1, 0] rfl)
def f6_way (C : Cs) (x1 : Int32) (x2 : Int32) : Option (Int32) := if (f6_isNoJoint C x1) = 0 then if (f6_isNoJoint C x2) = 0 then (f3_stepsBetween ((C.2.2.2.2.2.1).1) x1 x2 ((C.1 0).1 6)).bind fun v3 => some v3 else some (-1) else some (-1)
abbrev rmX6_way : Room := { frames := 4, cells := 0, slots := 0, locals := 96 }
set_option maxHeartbeats 4000000 in
set_option maxRecDepth 100000 in
theorem c6_way (l : Launch) (g : zG) (q : Nat → Nat) (C : Cs) (x1 : Int32) (x2 : Int32) (ro : Int32) (hF : f6_way C x1 x2 = some ro) : zRO l g yX6_way wsX6_way rmX6_way [.ref (q 0), .int x1, .int x2] (CW g q C) (some (.int ro)) := by
  refine zRO_of (cc := cX6_way) (maxL := 3) (ret := (some .int)) (by decide) rfl (Nat.le_of_ble_eq_true rfl) ?_
  intro p e s m args below meth c ls hx hb hr hml hts hown hlk hK hP hl
  have hown : s.vm.findClass RX6 = some m.cls := hown
  have hl : lv_has ls 3 [(0, .ref (q 0)), (1, .int x1), (2, .int x2)] := hl
  have inX2 : ∀ w ∈ wsX20, w ∈ wsX6_way := fun _ h => List.mem_cons_of_mem _ (List.mem_append_left _ (List.mem_append_right _ h))
  have inX6 : ∀ w ∈ wsX60, w ∈ wsX6_way := fun _ h => List.mem_cons_of_mem _ (List.mem_append_left _ (List.mem_append_left _ (List.mem_append_right _ h)))
  unfold f6_way at hF
  refine lv_aload_n hx hb dX6_way_0 rfl (lv_at hl 0 rfl) ?_
  refine lv_iload_n hx hb dX6_way_1 rfl (lv_at hl 1 rfl) ?_
  refine z_rgo (va_runV (As := [.int x1]) (rest := []) ⟨hx, hb, hml, hown, hts⟩ (c6_isNoJoint l g q C x1) (cwV 1 hts gX6_way_X6_isNoJoint rfl rfl rfl (by decide +kernel) ⟨Nat.le_of_ble_eq_true rfl, Nat.le_of_ble_eq_true rfl⟩) (z_rpreV (ci := 6) (q := (RX6, TX6, 13)) (q0 := 0) hP hK rfl rfl) rfl rfl hl.1 rfl (lv_room (Nat.le_of_ble_eq_true rfl)) dX6_way_2 ⟨Nat.zero_le _, Nat.zero_le _⟩) ?_
  refine lv_if_ne (tgt := 16) hx hb dX6_way_5 (by decide) (fun c1 => ?_) (fun c1 => ?_)
  · have hF := zif c1 hF
    refine lv_iconst (v := (-1)) hx hb dX6_way_16 (by decide) ?_
    cases hF
    exact z_ri hx hb hr hlk rfl dX6_way_17
  · have hF := zit c1 hF
    refine lv_aload_n hx hb dX6_way_8 rfl (lv_at hl 0 rfl) ?_
    refine lv_iload_n hx hb dX6_way_9 rfl (lv_at hl 2 rfl) ?_
    refine z_rgo (va_runV (As := [.int x2]) (rest := []) ⟨hx, hb, hml, hown, hts⟩ (c6_isNoJoint l g q C x2) (cwV 1 hts gX6_way_X6_isNoJoint rfl rfl rfl (by decide +kernel) ⟨Nat.le_of_ble_eq_true rfl, Nat.le_of_ble_eq_true rfl⟩) (z_rpreV (ci := 6) (q := (RX6, TX6, 13)) (q0 := 0) hP hK rfl rfl) rfl rfl hl.1 rfl (lv_room (Nat.le_of_ble_eq_true rfl)) dX6_way_10 ⟨Nat.zero_le _, Nat.zero_le _⟩) ?_
    refine lv_if_eq (tgt := 18) hx hb dX6_way_13 (by decide) (fun c2 => ?_) (fun c2 => ?_)
    · have hF := zit c2 hF
      refine lv_aload_n hx hb dX6_way_18 rfl (lv_at hl 0 rfl) ?_
      refine z_get (ci := 6) (v := .ref (q (13 + 2))) (C := RX6) (T := TX6) (N := 13) hx hb hts inX6 hown hK hP 0 rfl rfl 3 (by decide) (List.mem_of_getElem? (i := 1) rfl) rfl rfl dX6_way_19 ?_
      refine lv_iload_n hx hb dX6_way_22 rfl (lv_at hl 1 rfl) ?_
      refine lv_iload_n hx hb dX6_way_23 rfl (lv_at hl 2 rfl) ?_
      refine lv_aload_n hx hb dX6_way_24 rfl (lv_at hl 0 rfl) ?_
      refine z_get (ci := 6) (v := .ref (q 23)) (C := RX6) (T := TX6) (N := 13) hx hb hts inX6 hown hK hP 0 rfl rfl 4 (by decide) (List.mem_of_getElem? (i := 2) rfl) rfl rfl dX6_way_25 ?_
      refine z_get (ci := 2) (v := .int ((C.1 0).1 6)) (C := RX2) (T := TX2) (N := 9) hx hb hts inX2 hown hK hP 23 rfl rfl 6 (by decide) (List.mem_of_getElem? (i := 3) rfl) rfl rfl dX6_way_28 ?_
      obtain ⟨v3, hv3, hF⟩ := zob hF
      refine z_rgo (va_runV (As := [.int x1, .int x2, .int ((C.1 0).1 6)]) (rest := []) ⟨hx, hb, hml, hown, hts⟩ (c3_stepsBetween l g q (13 + 2) ((C.2.2.2.2.2.1).1) x1 x2 ((C.1 0).1 6) v3 hv3) (cwV 3 hts gX6_way_X3_stepsBetween rfl rfl rfl (by decide +kernel) ⟨Nat.le_of_ble_eq_true rfl, Nat.le_of_ble_eq_true rfl⟩) (z_rpreV (ci := 3) (q := (RX3, TX3, 13)) (q0 := 0) (hP.sub (ws' := NW g q (13 + 2) ((C.2.2.2.2.2.1).1)) [15, 16, 17, 18, 19, 20, 21, 22] rfl) hK rfl rfl) rfl rfl hl.1 rfl (lv_room (Nat.le_of_ble_eq_true rfl)) dX6_way_31 ⟨Nat.zero_le _, Nat.zero_le _⟩) ?_
      cases hF
      exact z_ri hx hb hr hlk rfl dX6_way_34
    · have hF := zif c2 hF
      refine lv_iconst (v := (-1)) hx hb dX6_way_16 (by decide) ?_
      cases hF
      exact z_ri hx hb hr hlk rfl dX6_way_17
def f6_wipe (C : Cs) : Option (Int32 × Cs) := bd (α := Int32) ((C.2.2.2.1).2) (fun (v1 : Int32) => bd (cT C (lL (C.2.2.2.1) 0)) (fun (C2 : Cs) => some (v1, C2)))
abbrev rmX6_wipe : Room := { frames := 0, cells := 0, slots := 0, locals := 0 }
set_option maxHeartbeats 4000000 in
set_option maxRecDepth 100000 in
theorem c6_wipe (l : Launch) (g : zG) (q : Nat → Nat) (C : Cs) (ro : Int32) (C_o : Cs) (hF : f6_wipe C = some (ro, C_o)) : zRW l g yX6_wipe wsX6_wipe rmX6_wipe [.ref (q 0)] (CW g q C) (some (.int ro)) (CW g q C_o) := by
  refine zRW_of (cc := cX6_wipe) (maxL := 2) (ret := (some .int)) (by decide) rfl (Nat.le_of_ble_eq_true rfl) ?_
  intro p e s m args below meth c A H locs ls hx hb hr hml hts hown hlk hK hA hP hD hS hl
  have hown : s.vm.findClass RX6 = some m.cls := hown
  have hl : lv_has ls 2 [(0, .ref (q 0))] := hl
  have inX1 : ∀ w ∈ wsX10, w ∈ wsX6_wipe := fun _ h => List.mem_cons_of_mem _ (List.mem_append_right _ h)
  have inX6 : ∀ w ∈ wsX60, w ∈ wsX6_wipe := fun _ h => List.mem_cons_of_mem _ (List.mem_append_left _ (List.mem_append_right _ h))
  unfold f6_wipe at hF
  refine lv_aload_n hx hb dX6_wipe_0 rfl (lv_at hl 0 rfl) ?_
  refine z_get (ci := 6) (v := .ref (q 1)) (C := RX6) (T := TX6) (N := 13) hx hb hts inX6 hown hK hP 0 rfl rfl 0 (by decide) (List.mem_of_getElem? (i := 1) rfl) rfl rfl dX6_wipe_1 ?_
  refine z_get (ci := 1) (v := .int ((C.2.2.2.1).2)) (C := RX1) (T := TX1) (N := 2) hx hb hts inX1 hown hK hP 1 rfl rfl 1 (by decide) (List.mem_of_getElem? (i := 2) rfl) rfl rfl dX6_wipe_4 ?_
  refine lv_topi (fun v1 ev1 => ?_)
  have hF := bd_eq ev1 hF
  refine lv_istore_n (lv' := [(1, .int v1), (0, .ref (q 0))]) hx hb dX6_wipe_7 rfl hl (by decide) rfl (fun ls hl => ?_)
  refine lv_aload_n hx hb dX6_wipe_8 rfl (lv_at hl 1 rfl) ?_
  refine z_get (ci := 6) (v := .ref (q 1)) (C := RX6) (T := TX6) (N := 13) hx hb hts inX6 hown hK hP 0 rfl rfl 0 (by decide) (List.mem_of_getElem? (i := 1) rfl) rfl rfl dX6_wipe_9 ?_
  refine lv_iconst (v := 0) hx hb dX6_wipe_12 (by decide) ?_
  refine z_put (ci := 1) (v := .int 0) (C := RX1) (T := TX1) (N := 2) (ws' := CW g q (cT C (lL (C.2.2.2.1) 0))) hx hb hts inX1 tyX1 tyX1_ok nmX1 hown hK hP hD hS 1 rfl rfl 1 (by decide) (List.mem_of_getElem? (i := 2) rfl) rfl rfl rfl rfl (Nat.le_of_ble_eq_true rfl) rfl dX6_wipe_13 (fun H locs hP hD hS => ?_)
  obtain ⟨C2, eC2⟩ : ∃ y : Cs, y = (cT C (lL (C.2.2.2.1) 0)) := ⟨_, rfl⟩
  rw [← eC2] at hP hD
  have hF := bd_eq eC2 hF
  refine lv_iload_n hx hb dX6_wipe_16 rfl (lv_at hl 0 rfl) ?_
  cases hF
  exact z_wi hx hb hr hlk hP hD hS rfl rfl dX6_wipe_17
def f6_write (C : Cs) (x1 : Int32) : Option (Int32 × Cs) := if x1 < 0 then some ((-2), C) else if x1 ≤ 255 then if ((C.2.2.2.1).2) < 60 then (f1_add (C.2.2.2.1) x1).bind fun T4 => bd (cT C T4) (fun (C5 : Cs) => some (((C5.2.2.2.1).2), C5)) else some ((-4), C) else some ((-2), C)
abbrev rmX6_write : Room := { frames := 2, cells := 0, slots := 0, locals := 43 }
set_option maxHeartbeats 4000000 in
set_option maxRecDepth 100000 in
theorem c6_write (l : Launch) (g : zG) (q : Nat → Nat) (C : Cs) (x1 : Int32) (ro : Int32) (C_o : Cs) (hF : f6_write C x1 = some (ro, C_o)) : zRW l g yX6_write wsX6_write rmX6_write [.ref (q 0), .int x1] (CW g q C) (some (.int ro)) (CW g q C_o) := by
  refine zRW_of (cc := cX6_write) (maxL := 2) (ret := (some .int)) (by decide) rfl (Nat.le_of_ble_eq_true rfl) ?_
  intro p e s m args below meth c A H locs ls hx hb hr hml hts hown hlk hK hA hP hD hS hl
  have hown : s.vm.findClass RX6 = some m.cls := hown
  have hl : lv_has ls 2 [(0, .ref (q 0)), (1, .int x1)] := hl
  have inX1 : ∀ w ∈ wsX10, w ∈ wsX6_write := fun _ h => List.mem_cons_of_mem _ (List.mem_append_right _ h)
  have inX6 : ∀ w ∈ wsX60, w ∈ wsX6_write := fun _ h => List.mem_cons_of_mem _ (List.mem_append_left _ (List.mem_append_right _ h))
  unfold f6_write at hF
  refine lv_iload_n hx hb dX6_write_0 rfl (lv_at hl 1 rfl) ?_
  refine lv_if_lt (tgt := 11) hx hb dX6_write_1 (by decide) (fun c1 => ?_) (fun c1 => ?_)
  · have hF := zit c1 hF
    refine lv_bipush (v := (-2)) hx hb dX6_write_11 (by decide) ?_
    cases hF
    exact z_wi hx hb hr hlk hP hD hS rfl rfl dX6_write_13
  · have hF := zif c1 hF
    refine lv_iload_n hx hb dX6_write_4 rfl (lv_at hl 1 rfl) ?_
    refine lv_sipush (v := 255) hx hb dX6_write_5 (by decide) ?_
    refine lv_icmp_le (tgt := 14) hx hb dX6_write_8 (by decide) (fun c2 => ?_) (fun c2 => ?_)
    · have hF := zit c2 hF
      refine lv_aload_n hx hb dX6_write_14 rfl (lv_at hl 0 rfl) ?_
      refine z_get (ci := 6) (v := .ref (q 1)) (C := RX6) (T := TX6) (N := 13) hx hb hts inX6 hown hK hP 0 rfl rfl 0 (by decide) (List.mem_of_getElem? (i := 1) rfl) rfl rfl dX6_write_15 ?_
      refine z_get (ci := 1) (v := .int ((C.2.2.2.1).2)) (C := RX1) (T := TX1) (N := 2) hx hb hts inX1 hown hK hP 1 rfl rfl 1 (by decide) (List.mem_of_getElem? (i := 2) rfl) rfl rfl dX6_write_18 ?_
      refine lv_bipush (v := 60) hx hb dX6_write_21 (by decide) ?_
      refine lv_icmp_lt (tgt := 29) hx hb dX6_write_23 (by decide) (fun c3 => ?_) (fun c3 => ?_)
      · have hF := zit c3 hF
        refine lv_aload_n hx hb dX6_write_29 rfl (lv_at hl 0 rfl) ?_
        refine z_get (ci := 6) (v := .ref (q 1)) (C := RX6) (T := TX6) (N := 13) hx hb hts inX6 hown hK hP 0 rfl rfl 0 (by decide) (List.mem_of_getElem? (i := 1) rfl) rfl rfl dX6_write_30 ?_
        refine lv_iload_n hx hb dX6_write_33 rfl (lv_at hl 1 rfl) ?_
        obtain ⟨T4, hT4, hF⟩ := zob hF
        refine z_wgo (wn := CW g q (cT C T4)) (va_runV (As := [.int x1]) (rest := []) ⟨hx, hb, hml, hown, hts⟩ ((c1_add l g q 1 (C.2.2.2.1) x1  T4 hT4) H.size) (cwV 1 hts gX6_write_X1_add rfl rfl rfl (by decide +kernel) ⟨Nat.le_of_ble_eq_true rfl, Nat.le_of_ble_eq_true rfl⟩) (z_wpreV (ci := 1) (q := (RX1, TX1, 2)) (q0 := 0) (hP.sub (ws' := LW g q 1 (C.2.2.2.1)) [1, 2] rfl) hK (z_any (hD.sub (ws' := LW g q 1 (C.2.2.2.1)) [1, 2] (by decide) rfl)) rfl rfl) rfl rfl hl.1 rfl (lv_room (Nat.le_of_ble_eq_true rfl)) dX6_write_34 ⟨Nat.zero_le _, Nat.zero_le _⟩) hP hD hS hA [1, 2] rfl (by decide) rfl rfl (fun H locs hP hD hS => ?_)
        show W p l e (headSpec wsX6_write rmX6_write).room s m args below meth c H locs 0 0 (MQ below (zWQ g A (CW g q C_o) (some (.int ro))) args s 0 0 A) (F0 m 37 ls [])
        obtain ⟨C5, eC5⟩ : ∃ y : Cs, y = (cT C T4) := ⟨_, rfl⟩
        rw [← eC5] at hP hD
        have hF := bd_eq eC5 hF
        refine lv_aload_n hx hb dX6_write_37 rfl (lv_at hl 0 rfl) ?_
        refine z_get (ci := 6) (v := .ref (q 1)) (C := RX6) (T := TX6) (N := 13) hx hb hts inX6 hown hK hP 0 rfl rfl 0 (by decide) (List.mem_of_getElem? (i := 1) rfl) rfl rfl dX6_write_38 ?_
        refine z_get (ci := 1) (v := .int ((C5.2.2.2.1).2)) (C := RX1) (T := TX1) (N := 2) hx hb hts inX1 hown hK hP 1 rfl rfl 1 (by decide) (List.mem_of_getElem? (i := 2) rfl) rfl rfl dX6_write_41 ?_
        cases hF
        exact z_wi hx hb hr hlk hP hD hS rfl rfl dX6_write_44
      · have hF := zif c3 hF
        refine lv_bipush (v := (-4)) hx hb dX6_write_26 (by decide) ?_
        cases hF
        exact z_wi hx hb hr hlk hP hD hS rfl rfl dX6_write_28
    · have hF := zif c2 hF
      refine lv_bipush (v := (-2)) hx hb dX6_write_11 (by decide) ?_
      cases hF
      exact z_wi hx hb hr hlk hP hD hS rfl rfl dX6_write_13
def f6_years_l27 (x1 : Int32) : Nat → Int32 → Cs → Option (Int32 × Cs)
  | 0, _, _ => none
  | n27 + 1, y5, C6 => if x1 ≤ y5 then (f2_right (C6.1 1) ((C6.2.2.2.2.2.1).1)).bind fun v8 => some ((f6_bitCount_0f7a4 v8), C6) else bd (cCh C6 (((C6.2.2.2.2.2.2.2.2.2) * 6364136223846793005) + 1442695040888963407)) (fun (C9 : Cs) => bd (α := Int32) (((((((C9.2.2.2.2.2.2.2.2.2)).toUInt64 >>> ((33 : Int32).toInt64.toUInt64 &&& Int64.toUInt64 63)).toInt64) - ((((C9.2.2.2.2.2.2.2.2.2)).toUInt64 >>> ((33 : Int32).toInt64.toUInt64 &&& Int64.toUInt64 63)).toInt64) / 14 * 14)).toInt32) (fun (v10 : Int32) => if v10 < 8 then if (((C9.2.2.2.2.2.1).1).1 3) ≤ v10 then f6_years_l27 x1 n27 (y5 + 1) C9 else (f2_turnPipe (C9.1 1) v10).bind fun M13 => bd (cM C9 1 M13) (fun (C14 : Cs) => f6_years_l27 x1 n27 (y5 + 1) C14) else (f2_advance (C9.1 1) ((C9.2.2.2.2.2.1).1)).bind fun M15 => bd (cM C9 1 M15) (fun (C16 : Cs) => f6_years_l27 x1 n27 (y5 + 1) C16)))
def f6_years (C : Cs) (x1 : Int32) : Option (Int32 × Cs) := if x1 < 1 then some ((-2), C) else if x1 ≤ 30 then (f2_copy (C.1 1) (C.1 0)).bind fun M3 => bd (cM C 1 M3) (fun (C4 : Cs) => f6_years_l27 x1 FU 0 C4) else some ((-2), C)
abbrev rmX6_years : Room := { frames := 5, cells := 0, slots := 0, locals := 118 }
set_option maxHeartbeats 4000000 in
set_option maxRecDepth 100000 in
theorem c6_years (l : Launch) (g : zG) (q : Nat → Nat) (C : Cs) (x1 : Int32) (ro : Int32) (C_o : Cs) (hF : f6_years C x1 = some (ro, C_o)) : zRW l g yX6_years wsX6_years rmX6_years [.ref (q 0), .int x1] (CW g q C) (some (.int ro)) (CW g q C_o) := by
  refine zRW_of (cc := cX6_years) (maxL := 4) (ret := (some .int)) (by decide) rfl (Nat.le_of_ble_eq_true rfl) ?_
  intro p e s m args below meth c A H locs ls hx hb hr hml hts hown hlk hK hA hP hD hS hl
  have hown : s.vm.findClass RX6 = some m.cls := hown
  have hl : lv_has ls 4 [(0, .ref (q 0)), (1, .int x1)] := hl
  have inX3 : ∀ w ∈ wsX30, w ∈ wsX6_years := fun _ h => List.mem_cons_of_mem _ (List.mem_append_left _ (List.mem_append_right _ h))
  have inX6 : ∀ w ∈ wsX60, w ∈ wsX6_years := fun _ h => List.mem_cons_of_mem _ (List.mem_append_left _ (List.mem_append_left _ (List.mem_append_right _ h)))
  unfold f6_years at hF
  refine lv_iload_n hx hb dX6_years_0 rfl (lv_at hl 1 rfl) ?_
  refine lv_iconst (v := 1) hx hb dX6_years_1 (by decide) ?_
  refine lv_icmp_lt (tgt := 11) hx hb dX6_years_2 (by decide) (fun c1 => ?_) (fun c1 => ?_)
  · have hF := zit c1 hF
    refine lv_bipush (v := (-2)) hx hb dX6_years_11 (by decide) ?_
    cases hF
    exact z_wi hx hb hr hlk hP hD hS rfl rfl dX6_years_13
  · have hF := zif c1 hF
    refine lv_iload_n hx hb dX6_years_5 rfl (lv_at hl 1 rfl) ?_
    refine lv_bipush (v := 30) hx hb dX6_years_6 (by decide) ?_
    refine lv_icmp_le (tgt := 14) hx hb dX6_years_8 (by decide) (fun c2 => ?_) (fun c2 => ?_)
    · have hF := zit c2 hF
      refine lv_aload_n hx hb dX6_years_14 rfl (lv_at hl 0 rfl) ?_
      refine z_get (ci := 6) (v := .ref (q 28)) (C := RX6) (T := TX6) (N := 13) hx hb hts inX6 hown hK hP 0 rfl rfl 5 (by decide) (List.mem_of_getElem? (i := 1) rfl) rfl rfl dX6_years_15 ?_
      refine lv_aload_n hx hb dX6_years_18 rfl (lv_at hl 0 rfl) ?_
      refine z_get (ci := 6) (v := .ref (q 23)) (C := RX6) (T := TX6) (N := 13) hx hb hts inX6 hown hK hP 0 rfl rfl 4 (by decide) (List.mem_of_getElem? (i := 2) rfl) rfl rfl dX6_years_19 ?_
      obtain ⟨M3, hM3, hF⟩ := zob hF
      refine z_wgo (wn := CW g q (cM C 1 M3)) (va_runV (As := [.ref (q 23)]) (rest := []) ⟨hx, hb, hml, hown, hts⟩ ((c2_copy l g q 28 q 23 (C.1 1) (C.1 0)   M3 hM3) H.size) (cwV 1 hts gX6_years_X2_copy rfl rfl rfl (by decide +kernel) ⟨Nat.le_of_ble_eq_true rfl, Nat.le_of_ble_eq_true rfl⟩) (z_wpreV (ci := 2) (q := (RX2, TX2, 9)) (q0 := 0) (hP.sub (ws' := (OW g q 28 (C.1 1) ++ OW g q 23 (C.1 0))) [28, 29, 30, 31, 32, 23, 24, 25, 26, 27] rfl) hK (z_any (hD.sub (ws' := (OW g q 28 (C.1 1) ++ OW g q 23 (C.1 0))) [28, 29, 30, 31, 32, 23, 24, 25, 26, 27] (by decide) rfl)) rfl rfl) rfl rfl hl.1 rfl (lv_room (Nat.le_of_ble_eq_true rfl)) dX6_years_22 ⟨Nat.zero_le _, Nat.zero_le _⟩) hP hD hS hA [28, 29, 30, 31, 32, 23, 24, 25, 26, 27] rfl (by decide) rfl rfl (fun H locs hP hD hS => ?_)
      show W p l e (headSpec wsX6_years rmX6_years).room s m args below meth c H locs 0 0 (MQ below (zWQ g A (CW g q C_o) (some (.int ro))) args s 0 0 A) (F0 m 25 ls [])
      obtain ⟨C4, eC4⟩ : ∃ y : Cs, y = (cM C 1 M3) := ⟨_, rfl⟩
      rw [← eC4] at hP hD
      have hF := bd_eq eC4 hF
      refine lv_iconst (v := 0) hx hb dX6_years_25 (by decide) ?_
      refine lv_istore_n (lv' := [(2, .int 0), (0, .ref (q 0)), (1, .int x1)]) hx hb dX6_years_26 rfl hl (by decide) rfl (fun ls hl => ?_)
      have L27 : ∀ (n27 : Nat) (y5 : Int32) (C6 : Cs) (H : Heap) (locs : List Loc) (ls : Array Slot), f6_years_l27 x1 n27 y5 C6 = some (ro, C_o) → va_P (zD g) vwCl (CW g q C6) H → va_D A (CW g q C6) → va_S A s.heap H locs → lv_has ls 4 [(0, .ref (q 0)), (1, .int x1), (2, .int y5)] → W p l e (headSpec wsX6_years rmX6_years).room s m args below meth c H locs 0 0 (MQ below (zWQ g A (CW g q C_o) (some (.int ro))) args s 0 0 A) (F0 m 27 ls []) := by
        intro n27
        induction n27 with
        | zero =>
          intro y5 C6 H locs ls hF hP hD hS hl
          exact absurd (show (none : Option (Int32 × Cs)) = some _ from hF) (fun h9 => by cases h9)
        | succ n27 ih27 =>
          intro y5 C6 H locs ls hF hP hD hS hl
          rw [f6_years_l27] at hF
          refine lv_iload_n hx hb dX6_years_27 rfl (lv_at hl 2 rfl) ?_
          refine lv_iload_n hx hb dX6_years_28 rfl (lv_at hl 1 rfl) ?_
          refine lv_icmp_ge (tgt := 106) hx hb dX6_years_29 (by decide) (fun c7 => ?_) (fun c7 => ?_)
          · have hF := zit c7 hF
            refine lv_aload_n hx hb dX6_years_106 rfl (lv_at hl 0 rfl) ?_
            refine z_get (ci := 6) (v := .ref (q 28)) (C := RX6) (T := TX6) (N := 13) hx hb hts inX6 hown hK hP 0 rfl rfl 5 (by decide) (List.mem_of_getElem? (i := 1) rfl) rfl rfl dX6_years_107 ?_
            refine lv_aload_n hx hb dX6_years_110 rfl (lv_at hl 0 rfl) ?_
            refine z_get (ci := 6) (v := .ref (q (13 + 2))) (C := RX6) (T := TX6) (N := 13) hx hb hts inX6 hown hK hP 0 rfl rfl 3 (by decide) (List.mem_of_getElem? (i := 7) rfl) rfl rfl dX6_years_111 ?_
            obtain ⟨v8, hv8, hF⟩ := zob hF
            refine z_rgo (va_runV (As := [.ref (q (13 + 2))]) (rest := []) ⟨hx, hb, hml, hown, hts⟩ (c2_right l g q 28 q (13 + 2) (C6.1 1) ((C6.2.2.2.2.2.1).1)  v8 hv8) (cwV 1 hts gX6_years_X2_right rfl rfl rfl (by decide +kernel) ⟨Nat.le_of_ble_eq_true rfl, Nat.le_of_ble_eq_true rfl⟩) (z_rpreV (ci := 2) (q := (RX2, TX2, 9)) (q0 := 0) (hP.sub (ws' := (OW g q 28 (C6.1 1) ++ NW g q (13 + 2) ((C6.2.2.2.2.2.1).1))) [28, 29, 30, 31, 32, 15, 16, 17, 18, 19, 20, 21, 22] rfl) hK rfl rfl) rfl rfl hl.1 rfl (lv_room (Nat.le_of_ble_eq_true rfl)) dX6_years_114 ⟨Nat.zero_le _, Nat.zero_le _⟩) ?_
            refine z_rgo (va_runS (As := [.int v8]) (rest := []) ⟨hx, hb, hml, hown, hts⟩ (c6_bitCount_0f7a4 l g   v8) (va_cwS 1 hts gX6_years_J6_bitCount_0f7a4 rfl rfl rfl (by decide +kernel) ⟨Nat.le_of_ble_eq_true rfl, Nat.le_of_ble_eq_true rfl⟩) (z_rpre z_nil hK) rfl rfl hl.1 rfl (lv_room (Nat.le_of_ble_eq_true rfl)) dX6_years_117 ⟨Nat.zero_le _, Nat.zero_le _⟩) ?_
            cases hF
            exact z_wi hx hb hr hlk hP hD hS rfl rfl dX6_years_120
          · have hF := zif c7 hF
            refine lv_aload_n hx hb dX6_years_32 rfl (lv_at hl 0 rfl) ?_
            refine lv_aload_n hx hb dX6_years_33 rfl (lv_at hl 0 rfl) ?_
            refine z_get (ci := 6) (v := .long (C6.2.2.2.2.2.2.2.2.2)) (C := RX6) (T := TX6) (N := 13) hx hb hts inX6 hown hK hP 0 rfl rfl 12 (by decide) (List.mem_of_getElem? (i := 3) rfl) rfl rfl dX6_years_34 ?_
            refine lv_ldc2 (own := RX6) (v := 6364136223846793005) hx hb hown (hts (.constantLong RX6 319 6364136223846793005) (List.mem_of_getElem? (i := 4) rfl)) dX6_years_37 ?_
            refine lv_lmul hx hb dX6_years_40 ?_
            refine lv_ldc2 (own := RX6) (v := 1442695040888963407) hx hb hown (hts (.constantLong RX6 321 1442695040888963407) (List.mem_of_getElem? (i := 5) rfl)) dX6_years_41 ?_
            refine lv_ladd hx hb dX6_years_44 ?_
            refine z_put (ci := 6) (v := .long (((C6.2.2.2.2.2.2.2.2.2) * 6364136223846793005) + 1442695040888963407)) (C := RX6) (T := TX6) (N := 13) (ws' := CW g q (cCh C6 (((C6.2.2.2.2.2.2.2.2.2) * 6364136223846793005) + 1442695040888963407))) hx hb hts inX6 tyX6 tyX6_ok nmX6 hown hK hP hD hS 0 rfl rfl 12 (by decide) (List.mem_of_getElem? (i := 3) rfl) rfl rfl rfl rfl (Nat.le_of_ble_eq_true rfl) rfl dX6_years_45 (fun H locs hP hD hS => ?_)
            obtain ⟨C9, eC9⟩ : ∃ y : Cs, y = (cCh C6 (((C6.2.2.2.2.2.2.2.2.2) * 6364136223846793005) + 1442695040888963407)) := ⟨_, rfl⟩
            rw [← eC9] at hP hD
            have hF := bd_eq eC9 hF
            refine lv_aload_n hx hb dX6_years_48 rfl (lv_at hl 0 rfl) ?_
            refine z_get (ci := 6) (v := .long (C9.2.2.2.2.2.2.2.2.2)) (C := RX6) (T := TX6) (N := 13) hx hb hts inX6 hown hK hP 0 rfl rfl 12 (by decide) (List.mem_of_getElem? (i := 3) rfl) rfl rfl dX6_years_49 ?_
            refine lv_bipush (v := 33) hx hb dX6_years_52 (by decide) ?_
            refine lv_lushr (v := (((C9.2.2.2.2.2.2.2.2.2)).toUInt64 >>> ((33 : Int32).toInt64.toUInt64 &&& Int64.toUInt64 63)).toInt64) hx hb dX6_years_54 rfl ?_
            refine lv_ldc2 (own := RX6) (v := 14) hx hb hown (hts (.constantLong RX6 323 14) (List.mem_of_getElem? (i := 6) rfl)) dX6_years_55 ?_
            refine lv_lrem hx hb dX6_years_58 (by decide) ?_
            refine lv_l2i (v := ((((((C9.2.2.2.2.2.2.2.2.2)).toUInt64 >>> ((33 : Int32).toInt64.toUInt64 &&& Int64.toUInt64 63)).toInt64) - ((((C9.2.2.2.2.2.2.2.2.2)).toUInt64 >>> ((33 : Int32).toInt64.toUInt64 &&& Int64.toUInt64 63)).toInt64) / 14 * 14)).toInt32) hx hb dX6_years_59 rfl ?_
            refine lv_topi (fun v10 ev10 => ?_)
            have hF := bd_eq ev10 hF
            refine lv_istore_n (lv' := [(3, .int v10), (0, .ref (q 0)), (1, .int x1), (2, .int y5)]) hx hb dX6_years_60 rfl hl (by decide) rfl (fun ls hl => ?_)
            refine lv_iload_n hx hb dX6_years_61 rfl (lv_at hl 0 rfl) ?_
            refine lv_bipush (v := 8) hx hb dX6_years_62 (by decide) ?_
            refine lv_icmp_lt (tgt := 81) hx hb dX6_years_64 (by decide) (fun c11 => ?_) (fun c11 => ?_)
            · have hF := zit c11 hF
              refine lv_iload_n hx hb dX6_years_81 rfl (lv_at hl 0 rfl) ?_
              refine lv_aload_n hx hb dX6_years_82 rfl (lv_at hl 1 rfl) ?_
              refine z_get (ci := 6) (v := .ref (q (13 + 2))) (C := RX6) (T := TX6) (N := 13) hx hb hts inX6 hown hK hP 0 rfl rfl 3 (by decide) (List.mem_of_getElem? (i := 7) rfl) rfl rfl dX6_years_83 ?_
              refine z_get (ci := 3) (v := .int (((C9.2.2.2.2.2.1).1).1 3)) (C := RX3) (T := TX3) (N := 13) hx hb hts inX3 hown hK hP 15 rfl rfl 3 (by decide) (List.mem_of_getElem? (i := 8) rfl) rfl rfl dX6_years_86 ?_
              refine lv_icmp_ge (tgt := 100) hx hb dX6_years_89 (by decide) (fun c12 => ?_) (fun c12 => ?_)
              · have hF := zit c12 hF
                refine lv_iinc (v := (y5 + 1)) (lv' := [(2, .int (y5 + 1)), (3, .int v10), (0, .ref (q 0)), (1, .int x1)]) hx hb dX6_years_100 hl (k := 3) rfl rfl (by decide) rfl (fun ls hl => ?_)
                refine lv_goto (tgt := 27) hx hb dX6_years_103 (by decide) ?_
                exact ih27 (y5 + 1) C9 H locs ls hF hP hD hS (lv_sub hl [2, 3, 0] rfl)
              · have hF := zif c12 hF
                refine lv_aload_n hx hb dX6_years_92 rfl (lv_at hl 1 rfl) ?_
                refine z_get (ci := 6) (v := .ref (q 28)) (C := RX6) (T := TX6) (N := 13) hx hb hts inX6 hown hK hP 0 rfl rfl 5 (by decide) (List.mem_of_getElem? (i := 1) rfl) rfl rfl dX6_years_93 ?_
                refine lv_iload_n hx hb dX6_years_96 rfl (lv_at hl 0 rfl) ?_
                obtain ⟨M13, hM13, hF⟩ := zob hF
                refine z_wgo (wn := CW g q (cM C9 1 M13)) (va_runV (As := [.int v10]) (rest := []) ⟨hx, hb, hml, hown, hts⟩ ((c2_turnPipe l g q 28 (C9.1 1) v10  M13 hM13) H.size) (cwV 1 hts gX6_years_X2_turnPipe rfl rfl rfl (by decide +kernel) ⟨Nat.le_of_ble_eq_true rfl, Nat.le_of_ble_eq_true rfl⟩) (z_wpreV (ci := 2) (q := (RX2, TX2, 9)) (q0 := 0) (hP.sub (ws' := OW g q 28 (C9.1 1)) [28, 29, 30, 31, 32] rfl) hK (z_any (hD.sub (ws' := OW g q 28 (C9.1 1)) [28, 29, 30, 31, 32] (by decide) rfl)) rfl rfl) rfl rfl hl.1 rfl (lv_room (Nat.le_of_ble_eq_true rfl)) dX6_years_97 ⟨Nat.zero_le _, Nat.zero_le _⟩) hP hD hS hA [28, 29, 30, 31, 32] rfl (by decide) rfl rfl (fun H locs hP hD hS => ?_)
                show W p l e (headSpec wsX6_years rmX6_years).room s m args below meth c H locs 0 0 (MQ below (zWQ g A (CW g q C_o) (some (.int ro))) args s 0 0 A) (F0 m 100 ls [])
                obtain ⟨C14, eC14⟩ : ∃ y : Cs, y = (cM C9 1 M13) := ⟨_, rfl⟩
                rw [← eC14] at hP hD
                have hF := bd_eq eC14 hF
                refine lv_iinc (v := (y5 + 1)) (lv' := [(2, .int (y5 + 1)), (3, .int v10), (0, .ref (q 0)), (1, .int x1)]) hx hb dX6_years_100 hl (k := 3) rfl rfl (by decide) rfl (fun ls hl => ?_)
                refine lv_goto (tgt := 27) hx hb dX6_years_103 (by decide) ?_
                exact ih27 (y5 + 1) C14 H locs ls hF hP hD hS (lv_sub hl [2, 3, 0] rfl)
            · have hF := zif c11 hF
              refine lv_aload_n hx hb dX6_years_67 rfl (lv_at hl 1 rfl) ?_
              refine z_get (ci := 6) (v := .ref (q 28)) (C := RX6) (T := TX6) (N := 13) hx hb hts inX6 hown hK hP 0 rfl rfl 5 (by decide) (List.mem_of_getElem? (i := 1) rfl) rfl rfl dX6_years_68 ?_
              refine lv_aload_n hx hb dX6_years_71 rfl (lv_at hl 1 rfl) ?_
              refine z_get (ci := 6) (v := .ref (q (13 + 2))) (C := RX6) (T := TX6) (N := 13) hx hb hts inX6 hown hK hP 0 rfl rfl 3 (by decide) (List.mem_of_getElem? (i := 7) rfl) rfl rfl dX6_years_72 ?_
              obtain ⟨M15, hM15, hF⟩ := zob hF
              refine z_wgo (wn := CW g q (cM C9 1 M15)) (va_runV (As := [.ref (q (13 + 2))]) (rest := []) ⟨hx, hb, hml, hown, hts⟩ ((c2_advance l g q 28 q (13 + 2) (C9.1 1) ((C9.2.2.2.2.2.1).1)   M15 hM15) H.size) (cwV 1 hts gX6_years_X2_advance rfl rfl rfl (by decide +kernel) ⟨Nat.le_of_ble_eq_true rfl, Nat.le_of_ble_eq_true rfl⟩) (z_wpreV (ci := 2) (q := (RX2, TX2, 9)) (q0 := 0) (hP.sub (ws' := (OW g q 28 (C9.1 1) ++ NW g q (13 + 2) ((C9.2.2.2.2.2.1).1))) [28, 29, 30, 31, 32, 15, 16, 17, 18, 19, 20, 21, 22] rfl) hK (z_any (hD.sub (ws' := (OW g q 28 (C9.1 1) ++ NW g q (13 + 2) ((C9.2.2.2.2.2.1).1))) [28, 29, 30, 31, 32, 15, 16, 17, 18, 19, 20, 21, 22] (by decide) rfl)) rfl rfl) rfl rfl hl.1 rfl (lv_room (Nat.le_of_ble_eq_true rfl)) dX6_years_75 ⟨Nat.zero_le _, Nat.zero_le _⟩) hP hD hS hA [28, 29, 30, 31, 32, 15, 16, 17, 18, 19, 20, 21, 22] rfl (by decide) rfl rfl (fun H locs hP hD hS => ?_)
              show W p l e (headSpec wsX6_years rmX6_years).room s m args below meth c H locs 0 0 (MQ below (zWQ g A (CW g q C_o) (some (.int ro))) args s 0 0 A) (F0 m 78 ls [])
              obtain ⟨C16, eC16⟩ : ∃ y : Cs, y = (cM C9 1 M15) := ⟨_, rfl⟩
              rw [← eC16] at hP hD
              have hF := bd_eq eC16 hF
              refine lv_goto (tgt := 100) hx hb dX6_years_78 (by decide) ?_
              refine lv_iinc (v := (y5 + 1)) (lv' := [(2, .int (y5 + 1)), (3, .int v10), (0, .ref (q 0)), (1, .int x1)]) hx hb dX6_years_100 hl (k := 3) rfl rfl (by decide) rfl (fun ls hl => ?_)
              refine lv_goto (tgt := 27) hx hb dX6_years_103 (by decide) ?_
              exact ih27 (y5 + 1) C16 H locs ls hF hP hD hS (lv_sub hl [2, 3, 0] rfl)
      exact L27 FU 0 C4 H locs ls hF hP hD hS (lv_sub hl [1, 2, 0] rfl)
    · have hF := zif c2 hF
      refine lv_bipush (v := (-2)) hx hb dX6_years_11 (by decide) ?_
      cases hF
      exact z_wi hx hb hr hlk hP hD hS rfl rfl dX6_years_13

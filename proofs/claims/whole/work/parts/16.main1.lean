def f6_isAsHeard_l25 (x1 : Int32) : Nat → Int32 → Cs → Option (Int32 × Cs)
  | 0, _, _ => none
  | n25 + 1, y4, C5 => if 9 < y4 then some (1, C5) else (f2_advance (C5.1 1) ((C5.2.2.2.2.2.1).1)).bind fun M7 => bd (cM C5 1 M7) (fun (C8 : Cs) => (f0_allows (C8.2.2.2.2.2.2.2.1) x1 y4 (f6_cell 4 ((C8.1 1).2 0) x1) (((C8.2.2.2.2.2.1).1).1 2)).bind fun v9 => if v9 = 0 then some (0, C8) else f6_isAsHeard_l25 x1 n25 (y4 + 1) C8)
def f6_isAsHeard (C : Cs) (x1 : Int32) (x2 : Int32) : Option (Int32 × Cs) := (f2_copy (C.1 1) (C.1 0)).bind fun M1 => bd (cM C 1 M1) (fun (C2 : Cs) => bd (cM C2 1 (sA (C2.1 1) 3 (f6_put 4 ((C2.1 1).2 3) x1 x2))) (fun (C3 : Cs) => f6_isAsHeard_l25 x1 FU 1 C3))
abbrev rmX6_isAsHeard : Room := { frames := 5, cells := 0, slots := 0, locals := 118 }
set_option maxHeartbeats 4000000 in
set_option maxRecDepth 100000 in
theorem c6_isAsHeard (l : Launch) (g : zG) (q : Nat → Nat) (C : Cs) (x1 : Int32) (x2 : Int32) (ro : Int32) (C_o : Cs) (hF : f6_isAsHeard C x1 x2 = some (ro, C_o)) : zRW l g yX6_isAsHeard wsX6_isAsHeard rmX6_isAsHeard [.ref (q 0), .int x1, .int x2] (CW g q C) (some (.int ro)) (CW g q C_o) := by
  refine zRW_of (cc := cX6_isAsHeard) (maxL := 4) (ret := (some .boolean)) (by decide) rfl (Nat.le_of_ble_eq_true rfl) ?_
  intro p e s m args below meth c A H locs ls hx hb hr hml hts hown hlk hK hA hP hD hS hl
  have hown : s.vm.findClass RX6 = some m.cls := hown
  have hl : lv_has ls 4 [(0, .ref (q 0)), (1, .int x1), (2, .int x2)] := hl
  have inX2 : ∀ w ∈ wsX20, w ∈ wsX6_isAsHeard := fun _ h => List.mem_cons_of_mem _ (List.mem_append_left _ (List.mem_append_left _ (List.mem_append_right _ h)))
  have inX3 : ∀ w ∈ wsX30, w ∈ wsX6_isAsHeard := fun _ h => List.mem_cons_of_mem _ (List.mem_append_left _ (List.mem_append_right _ h))
  have inX6 : ∀ w ∈ wsX60, w ∈ wsX6_isAsHeard := fun _ h => List.mem_cons_of_mem _ (List.mem_append_left _ (List.mem_append_left _ (List.mem_append_left _ (List.mem_append_right _ h))))
  unfold f6_isAsHeard at hF
  refine lv_aload_n hx hb dX6_isAsHeard_0 rfl (lv_at hl 0 rfl) ?_
  refine z_get (ci := 6) (v := .ref (q 28)) (C := RX6) (T := TX6) (N := 13) hx hb hts inX6 hown hK hP 0 (cwp_0 g q C) rfl 5 (by decide) (List.mem_of_getElem? (i := 1) rfl) rfl rfl dX6_isAsHeard_1 ?_
  refine lv_aload_n hx hb dX6_isAsHeard_4 rfl (lv_at hl 0 rfl) ?_
  refine z_get (ci := 6) (v := .ref (q 23)) (C := RX6) (T := TX6) (N := 13) hx hb hts inX6 hown hK hP 0 (cwp_0 g q C) rfl 4 (by decide) (List.mem_of_getElem? (i := 2) rfl) rfl rfl dX6_isAsHeard_5 ?_
  obtain ⟨M1, hM1, hF⟩ := zob hF
  refine z_wgo (wn := CW g q (cM C 1 M1)) (va_runV (As := [.ref (q 23)]) (rest := []) ⟨hx, hb, hml, hown, hts⟩ ((c2_copy l g q 28 q 23 (C.1 1) (C.1 0)   M1 hM1) H.size) (cwV 1 hts gX6_isAsHeard_X2_copy rfl rfl rfl (by decide +kernel) ⟨Nat.le_of_ble_eq_true rfl, Nat.le_of_ble_eq_true rfl⟩) (z_wpreV (ci := 2) (q := (RX2, TX2, 9)) (q0 := 0) (z_Psub hP _ (cwm_28_10_27 g q C)) hK (z_any (hD.sub _ (by decide) (cwm_28_10_27 g q C))) rfl rfl) rfl rfl hl.1 rfl (lv_room (Nat.le_of_ble_eq_true rfl)) dX6_isAsHeard_8 ⟨Nat.zero_le _, Nat.zero_le _⟩) hP hD hS hA _ (cwm_28_10_27 g q C) (by decide) rfl (cww_28_10_27 g q C M1) (fun H locs hP hD hS => ?_)
  show W p l e (headSpec wsX6_isAsHeard rmX6_isAsHeard).room s m args below meth c H locs 0 0 (MQ below (zWQ g A (CW g q C_o) (some (.int ro))) args s 0 0 A) (F0 m 11 ls [])
  obtain ⟨C2, eC2⟩ : ∃ y : Cs, y = (cM C 1 M1) := ⟨_, rfl⟩
  rw [← eC2] at hP hD
  have hF := bd_eq eC2 hF
  refine lv_aload_n hx hb dX6_isAsHeard_11 rfl (lv_at hl 0 rfl) ?_
  refine z_get (ci := 6) (v := .ref (q 28)) (C := RX6) (T := TX6) (N := 13) hx hb hts inX6 hown hK hP 0 (cwp_0 g q C2) rfl 5 (by decide) (List.mem_of_getElem? (i := 1) rfl) rfl rfl dX6_isAsHeard_12 ?_
  refine z_get (ci := 2) (v := .ref (q (28 + 4))) (C := RX2) (T := TX2) (N := 9) hx hb hts inX2 hown hK hP 28 (cwp_28 g q C2) rfl 3 (by decide) (List.mem_of_getElem? (i := 3) rfl) rfl rfl dX6_isAsHeard_15 ?_
  refine lv_iload_n hx hb dX6_isAsHeard_18 rfl (lv_at hl 1 rfl) ?_
  refine lv_iload_n hx hb dX6_isAsHeard_19 rfl (lv_at hl 2 rfl) ?_
  refine z_wgo (wn := CW g q (cM C2 1 (sA (C2.1 1) 3 (f6_put 4 ((C2.1 1).2 3) x1 x2)))) (va_runS (As := [.ref (q (28 + 4)), .int x1, .int x2]) (rest := []) ⟨hx, hb, hml, hown, hts⟩ ((c6_put l g (q (28 + 4)) 4 (by decide) ((C2.1 1).2 3) x1 x2) H.size) (va_cwS 3 hts gX6_isAsHeard_X6_put rfl rfl rfl (by decide +kernel) ⟨Nat.le_of_ble_eq_true rfl, Nat.le_of_ble_eq_true rfl⟩) (z_wpre (z_Psub hP _ (cwm_32_1_32 g q C2)) hK (z_any (hD.sub _ (by decide) (cwm_32_1_32 g q C2)))) rfl rfl hl.1 rfl (lv_room (Nat.le_of_ble_eq_true rfl)) dX6_isAsHeard_20 ⟨Nat.zero_le _, Nat.zero_le _⟩) hP hD hS hA _ (cwm_32_1_32 g q C2) (by decide) rfl (cww_32_1_32 g q C2 (f6_put 4 ((C2.1 1).2 3) x1 x2)) (fun H locs hP hD hS => ?_)
  show W p l e (headSpec wsX6_isAsHeard rmX6_isAsHeard).room s m args below meth c H locs 0 0 (MQ below (zWQ g A (CW g q C_o) (some (.int ro))) args s 0 0 A) (F0 m 23 ls [])
  obtain ⟨C3, eC3⟩ : ∃ y : Cs, y = (cM C2 1 (sA (C2.1 1) 3 (f6_put 4 ((C2.1 1).2 3) x1 x2))) := ⟨_, rfl⟩
  rw [← eC3] at hP hD
  have hF := bd_eq eC3 hF
  refine lv_iconst (v := 1) hx hb dX6_isAsHeard_23 (by decide) ?_
  refine lv_istore_n (lv' := [(3, .int 1), (0, .ref (q 0)), (1, .int x1), (2, .int x2)]) hx hb dX6_isAsHeard_24 rfl hl (by decide) rfl (fun ls hl => ?_)
  have L25 : ∀ (n25 : Nat) (y4 : Int32) (C5 : Cs) (H : Heap) (locs : List Loc) (ls : Array Slot), f6_isAsHeard_l25 x1 n25 y4 C5 = some (ro, C_o) → va_P (zD g) vwCl (CW g q C5) H → va_D A (CW g q C5) → va_S A s.heap H locs → lv_has ls 4 [(0, .ref (q 0)), (1, .int x1), (3, .int y4)] → W p l e (headSpec wsX6_isAsHeard rmX6_isAsHeard).room s m args below meth c H locs 0 0 (MQ below (zWQ g A (CW g q C_o) (some (.int ro))) args s 0 0 A) (F0 m 25 ls []) := by
    intro n25
    induction n25 with
    | zero =>
      intro y4 C5 H locs ls hF hP hD hS hl
      exact absurd (show (none : Option (Int32 × Cs)) = some _ from hF) (fun h9 => by cases h9)
    | succ n25 ih25 =>
      intro y4 C5 H locs ls hF hP hD hS hl
      rw [f6_isAsHeard_l25] at hF
      refine lv_iload_n hx hb dX6_isAsHeard_25 rfl (lv_at hl 2 rfl) ?_
      refine lv_bipush (v := 9) hx hb dX6_isAsHeard_26 (by decide) ?_
      refine lv_icmp_gt (tgt := 80) hx hb dX6_isAsHeard_28 (by decide) (fun c6 => ?_) (fun c6 => ?_)
      · have hF := zit c6 hF
        refine lv_iconst (v := 1) hx hb dX6_isAsHeard_80 (by decide) ?_
        obtain ⟨e9a, e9b⟩ := Prod.mk.inj (zin hF)
        exact z_wz hx hb hr hlk rfl hP hD hS (congrArg (fun z => some (Value.int z)) e9a) (by rw [e9b]) dX6_isAsHeard_81
      · have hF := zif c6 hF
        refine lv_aload_n hx hb dX6_isAsHeard_31 rfl (lv_at hl 0 rfl) ?_
        refine z_get (ci := 6) (v := .ref (q 28)) (C := RX6) (T := TX6) (N := 13) hx hb hts inX6 hown hK hP 0 (cwp_0 g q C5) rfl 5 (by decide) (List.mem_of_getElem? (i := 1) rfl) rfl rfl dX6_isAsHeard_32 ?_
        refine lv_aload_n hx hb dX6_isAsHeard_35 rfl (lv_at hl 0 rfl) ?_
        refine z_get (ci := 6) (v := .ref (q (13 + 2))) (C := RX6) (T := TX6) (N := 13) hx hb hts inX6 hown hK hP 0 (cwp_0 g q C5) rfl 3 (by decide) (List.mem_of_getElem? (i := 4) rfl) rfl rfl dX6_isAsHeard_36 ?_
        obtain ⟨M7, hM7, hF⟩ := zob hF
        refine z_wgo (wn := CW g q (cM C5 1 M7)) (va_runV (As := [.ref (q (13 + 2))]) (rest := []) ⟨hx, hb, hml, hown, hts⟩ ((c2_advance l g q 28 q (13 + 2) (C5.1 1) ((C5.2.2.2.2.2.1).1)   M7 hM7) H.size) (cwV 1 hts gX6_isAsHeard_X2_advance rfl rfl rfl (by decide +kernel) ⟨Nat.le_of_ble_eq_true rfl, Nat.le_of_ble_eq_true rfl⟩) (z_wpreV (ci := 2) (q := (RX2, TX2, 9)) (q0 := 0) (z_Psub hP _ (cwm_28_13_22 g q C5)) hK (z_any (hD.sub _ (by decide) (cwm_28_13_22 g q C5))) rfl rfl) rfl rfl hl.1 rfl (lv_room (Nat.le_of_ble_eq_true rfl)) dX6_isAsHeard_39 ⟨Nat.zero_le _, Nat.zero_le _⟩) hP hD hS hA _ (cwm_28_13_22 g q C5) (by decide) rfl (cww_28_13_22 g q C5 M7) (fun H locs hP hD hS => ?_)
        show W p l e (headSpec wsX6_isAsHeard rmX6_isAsHeard).room s m args below meth c H locs 0 0 (MQ below (zWQ g A (CW g q C_o) (some (.int ro))) args s 0 0 A) (F0 m 42 ls [])
        obtain ⟨C8, eC8⟩ : ∃ y : Cs, y = (cM C5 1 M7) := ⟨_, rfl⟩
        rw [← eC8] at hP hD
        have hF := bd_eq eC8 hF
        refine lv_aload_n hx hb dX6_isAsHeard_42 rfl (lv_at hl 0 rfl) ?_
        refine z_get (ci := 6) (v := .ref (q 46)) (C := RX6) (T := TX6) (N := 13) hx hb hts inX6 hown hK hP 0 (cwp_0 g q C8) rfl 10 (by decide) (List.mem_of_getElem? (i := 5) rfl) rfl rfl dX6_isAsHeard_43 ?_
        refine lv_iload_n hx hb dX6_isAsHeard_46 rfl (lv_at hl 1 rfl) ?_
        refine lv_iload_n hx hb dX6_isAsHeard_47 rfl (lv_at hl 2 rfl) ?_
        refine lv_aload_n hx hb dX6_isAsHeard_48 rfl (lv_at hl 0 rfl) ?_
        refine z_get (ci := 6) (v := .ref (q 28)) (C := RX6) (T := TX6) (N := 13) hx hb hts inX6 hown hK hP 0 (cwp_0 g q C8) rfl 5 (by decide) (List.mem_of_getElem? (i := 1) rfl) rfl rfl dX6_isAsHeard_49 ?_
        refine z_get (ci := 2) (v := .ref (q (28 + 1))) (C := RX2) (T := TX2) (N := 9) hx hb hts inX2 hown hK hP 28 (cwp_28 g q C8) rfl 0 (by decide) (List.mem_of_getElem? (i := 6) rfl) rfl rfl dX6_isAsHeard_52 ?_
        refine lv_iload_n hx hb dX6_isAsHeard_55 rfl (lv_at hl 1 rfl) ?_
        refine z_rgo (va_runS (As := [.ref (q (28 + 1)), .int x1]) (rest := [.int y4, .int x1, .ref (q 46)]) ⟨hx, hb, hml, hown, hts⟩ (c6_cell l g (q (28 + 1)) 4 (by decide) ((C8.1 1).2 0) x1) (va_cwS 2 hts gX6_isAsHeard_X6_cell rfl rfl rfl (by decide +kernel) ⟨Nat.le_of_ble_eq_true rfl, Nat.le_of_ble_eq_true rfl⟩) (z_rpre (z_Psub hP _ (cwm_29_1_29 g q C8)) hK) rfl rfl hl.1 rfl (lv_room (Nat.le_of_ble_eq_true rfl)) dX6_isAsHeard_56 ⟨Nat.zero_le _, Nat.zero_le _⟩) ?_
        refine lv_aload_n hx hb dX6_isAsHeard_59 rfl (lv_at hl 0 rfl) ?_
        refine z_get (ci := 6) (v := .ref (q (13 + 2))) (C := RX6) (T := TX6) (N := 13) hx hb hts inX6 hown hK hP 0 (cwp_0 g q C8) rfl 3 (by decide) (List.mem_of_getElem? (i := 4) rfl) rfl rfl dX6_isAsHeard_60 ?_
        refine z_get (ci := 3) (v := .int (((C8.2.2.2.2.2.1).1).1 2)) (C := RX3) (T := TX3) (N := 13) hx hb hts inX3 hown hK hP 15 (cwp_15 g q C8) rfl 2 (by decide) (List.mem_of_getElem? (i := 7) rfl) rfl rfl dX6_isAsHeard_63 ?_
        obtain ⟨v9, hv9, hF⟩ := zob hF
        refine z_rgo (va_runV (As := [.int x1, .int y4, .int (f6_cell 4 ((C8.1 1).2 0) x1), .int (((C8.2.2.2.2.2.1).1).1 2)]) (rest := []) ⟨hx, hb, hml, hown, hts⟩ (c0_allows l g q 46 (C8.2.2.2.2.2.2.2.1) x1 y4 (f6_cell 4 ((C8.1 1).2 0) x1) (((C8.2.2.2.2.2.1).1).1 2) v9 hv9) (cwV 4 hts gX6_isAsHeard_X0_allows rfl rfl rfl (by decide +kernel) ⟨Nat.le_of_ble_eq_true rfl, Nat.le_of_ble_eq_true rfl⟩) (z_rpreV (ci := 0) (q := (RX0, TX0, 4)) (q0 := 0) (z_Psub hP _ (cwm_46_4_49 g q C8)) hK rfl rfl) rfl rfl hl.1 rfl (lv_room (Nat.le_of_ble_eq_true rfl)) dX6_isAsHeard_66 ⟨Nat.zero_le _, Nat.zero_le _⟩) ?_
        refine lv_if_ne (tgt := 74) hx hb dX6_isAsHeard_69 (by decide) (fun c10 => ?_) (fun c10 => ?_)
        · have hF := zif c10 hF
          refine lv_iinc (v := (y4 + 1)) (lv' := [(3, .int (y4 + 1)), (0, .ref (q 0)), (1, .int x1)]) hx hb dX6_isAsHeard_74 hl (k := 2) rfl rfl (by decide) rfl (fun ls hl => ?_)
          refine lv_goto (tgt := 25) hx hb dX6_isAsHeard_77 (by decide) ?_
          exact ih25 (y4 + 1) C8 H locs ls hF hP hD hS (lv_sub hl [1, 2, 0] rfl)
        · have hF := zit c10 hF
          refine lv_iconst (v := 0) hx hb dX6_isAsHeard_72 (by decide) ?_
          obtain ⟨e9a, e9b⟩ := Prod.mk.inj (zin hF)
          exact z_wz hx hb hr hlk rfl hP hD hS (congrArg (fun z => some (Value.int z)) e9a) (by rw [e9b]) dX6_isAsHeard_73
  exact L25 FU 1 C3 H locs ls hF hP hD hS (lv_sub hl [1, 2, 0] rfl)
def f6_isBest_l13 (x2 : Int32) (x3 : Int32) (x4 : Int32) (v1 : Int32) (C : Cs) : Nat → Int32 → Option (Int32)
  | 0, _ => none
  | n13 + 1, y2 => if (((C.2.2.2.2.2.1).1).1 2) ≤ y2 then some 1 else if (f6_has (((C.2.2.2.2.2.1).1).1 5) y2) = 0 then f6_isBest_l13 x2 x3 x4 v1 C n13 (y2 + 1) else if (f6_gain y2 x2 x3 x4) ≤ v1 then f6_isBest_l13 x2 x3 x4 v1 C n13 (y2 + 1) else some 0
def f6_isBest (C : Cs) (x1 : Int32) (x2 : Int32) (x3 : Int32) (x4 : Int32) : Option (Int32) := bd (α := Int32) (f6_gain x1 x2 x3 x4) (fun (v1 : Int32) => f6_isBest_l13 x2 x3 x4 v1 C FU 0)
abbrev rmX6_isBest : Room := { frames := 1, cells := 0, slots := 0, locals := 23 }
set_option maxHeartbeats 4000000 in
set_option maxRecDepth 100000 in
theorem c6_isBest (l : Launch) (g : zG) (q : Nat → Nat) (C : Cs) (x1 : Int32) (x2 : Int32) (x3 : Int32) (x4 : Int32) (ro : Int32) (hF : f6_isBest C x1 x2 x3 x4 = some ro) : zRO l g yX6_isBest wsX6_isBest rmX6_isBest [.ref (q 0), .int x1, .int x2, .int x3, .int x4] (CW g q C) (some (.int ro)) := by
  refine zRO_of (cc := cX6_isBest) (maxL := 7) (ret := (some .boolean)) (by decide) rfl (Nat.le_of_ble_eq_true rfl) ?_
  intro p e s m args below meth c ls hx hb hr hml hts hown hlk hK hP hl
  have hown : s.vm.findClass RX6 = some m.cls := hown
  have hl : lv_has ls 7 [(0, .ref (q 0)), (1, .int x1), (2, .int x2), (3, .int x3), (4, .int x4)] := hl
  have inX3 : ∀ w ∈ wsX30, w ∈ wsX6_isBest := fun _ h => List.mem_cons_of_mem _ (List.mem_append_right _ h)
  have inX6 : ∀ w ∈ wsX60, w ∈ wsX6_isBest := fun _ h => List.mem_cons_of_mem _ (List.mem_append_left _ (List.mem_append_right _ h))
  unfold f6_isBest at hF
  refine lv_iload_n hx hb dX6_isBest_0 rfl (lv_at hl 1 rfl) ?_
  refine lv_iload_n hx hb dX6_isBest_1 rfl (lv_at hl 2 rfl) ?_
  refine lv_iload_n hx hb dX6_isBest_2 rfl (lv_at hl 3 rfl) ?_
  refine lv_iload hx hb dX6_isBest_3 (lv_at hl 4 rfl) ?_
  refine z_rgo (va_runS (As := [.int x1, .int x2, .int x3, .int x4]) (rest := []) ⟨hx, hb, hml, hown, hts⟩ (c6_gain l g   x1 x2 x3 x4) (va_cwS 4 hts gX6_isBest_X6_gain rfl rfl rfl (by decide +kernel) ⟨Nat.le_of_ble_eq_true rfl, Nat.le_of_ble_eq_true rfl⟩) (z_rpre z_nil hK) rfl rfl hl.1 rfl (lv_room (Nat.le_of_ble_eq_true rfl)) dX6_isBest_5 ⟨Nat.zero_le _, Nat.zero_le _⟩) ?_
  refine lv_topi (fun v1 ev1 => ?_)
  have hF := bd_eq ev1 hF
  refine lv_istore (lv' := [(5, .int v1), (0, .ref (q 0)), (1, .int x1), (2, .int x2), (3, .int x3), (4, .int x4)]) hx hb dX6_isBest_8 hl (by decide) rfl (fun ls hl => ?_)
  refine lv_iconst (v := 0) hx hb dX6_isBest_10 (by decide) ?_
  refine lv_istore (lv' := [(6, .int 0), (5, .int v1), (0, .ref (q 0)), (1, .int x1), (2, .int x2), (3, .int x3), (4, .int x4)]) hx hb dX6_isBest_11 hl (by decide) rfl (fun ls hl => ?_)
  have L13 : ∀ (n13 : Nat) (y2 : Int32) (ls : Array Slot), f6_isBest_l13 x2 x3 x4 v1 C n13 y2 = some ro → lv_has ls 7 [(0, .ref (q 0)), (2, .int x2), (3, .int x3), (4, .int x4), (5, .int v1), (6, .int y2)] → W p l e (headSpec wsX6_isBest rmX6_isBest).room s m args below meth c s.heap [] 0 0 (MQ below (zRQ (some (.int ro))) args s 0 0 (fun _ => False)) (F0 m 13 ls []) := by
    intro n13
    induction n13 with
    | zero =>
      intro y2 ls hF hl
      exact absurd (show (none : Option (Int32)) = some _ from hF) (fun h9 => by cases h9)
    | succ n13 ih13 =>
      intro y2 ls hF hl
      rw [f6_isBest_l13] at hF
      refine lv_iload hx hb dX6_isBest_13 (lv_at hl 5 rfl) ?_
      refine lv_aload_n hx hb dX6_isBest_15 rfl (lv_at hl 0 rfl) ?_
      refine z_get (ci := 6) (v := .ref (q (13 + 2))) (C := RX6) (T := TX6) (N := 13) hx hb hts inX6 hown hK hP 0 (cwp_0 g q C) rfl 3 (by decide) (List.mem_of_getElem? (i := 1) rfl) rfl rfl dX6_isBest_16 ?_
      refine z_get (ci := 3) (v := .int (((C.2.2.2.2.2.1).1).1 2)) (C := RX3) (T := TX3) (N := 13) hx hb hts inX3 hown hK hP 15 (cwp_15 g q C) rfl 2 (by decide) (List.mem_of_getElem? (i := 2) rfl) rfl rfl dX6_isBest_19 ?_
      refine lv_icmp_ge (tgt := 62) hx hb dX6_isBest_22 (by decide) (fun c3 => ?_) (fun c3 => ?_)
      · have hF := zit c3 hF
        refine lv_iconst (v := 1) hx hb dX6_isBest_62 (by decide) ?_
        have e9a := zin hF
        exact z_rz hx hb hr hlk rfl (congrArg (fun z => some (Value.int z)) e9a) dX6_isBest_63
      · have hF := zif c3 hF
        refine lv_aload_n hx hb dX6_isBest_25 rfl (lv_at hl 0 rfl) ?_
        refine z_get (ci := 6) (v := .ref (q (13 + 2))) (C := RX6) (T := TX6) (N := 13) hx hb hts inX6 hown hK hP 0 (cwp_0 g q C) rfl 3 (by decide) (List.mem_of_getElem? (i := 1) rfl) rfl rfl dX6_isBest_26 ?_
        refine z_get (ci := 3) (v := .int (((C.2.2.2.2.2.1).1).1 5)) (C := RX3) (T := TX3) (N := 13) hx hb hts inX3 hown hK hP 15 (cwp_15 g q C) rfl 5 (by decide) (List.mem_of_getElem? (i := 3) rfl) rfl rfl dX6_isBest_29 ?_
        refine lv_iload hx hb dX6_isBest_32 (lv_at hl 5 rfl) ?_
        refine z_rgo (va_runS (As := [.int (((C.2.2.2.2.2.1).1).1 5), .int y2]) (rest := []) ⟨hx, hb, hml, hown, hts⟩ (c6_has l g   (((C.2.2.2.2.2.1).1).1 5) y2) (va_cwS 2 hts gX6_isBest_X6_has rfl rfl rfl (by decide +kernel) ⟨Nat.le_of_ble_eq_true rfl, Nat.le_of_ble_eq_true rfl⟩) (z_rpre z_nil hK) rfl rfl hl.1 rfl (lv_room (Nat.le_of_ble_eq_true rfl)) dX6_isBest_34 ⟨Nat.zero_le _, Nat.zero_le _⟩) ?_
        refine lv_if_eq (tgt := 56) hx hb dX6_isBest_37 (by decide) (fun c4 => ?_) (fun c4 => ?_)
        · have hF := zit c4 hF
          refine lv_iinc (v := (y2 + 1)) (lv' := [(6, .int (y2 + 1)), (0, .ref (q 0)), (2, .int x2), (3, .int x3), (4, .int x4), (5, .int v1)]) hx hb dX6_isBest_56 hl (k := 5) rfl rfl (by decide) rfl (fun ls hl => ?_)
          refine lv_goto (tgt := 13) hx hb dX6_isBest_59 (by decide) ?_
          exact ih13 (y2 + 1) ls hF (lv_sub hl [1, 2, 3, 4, 5, 0] rfl)
        · have hF := zif c4 hF
          refine lv_iload hx hb dX6_isBest_40 (lv_at hl 5 rfl) ?_
          refine lv_iload_n hx hb dX6_isBest_42 rfl (lv_at hl 1 rfl) ?_
          refine lv_iload_n hx hb dX6_isBest_43 rfl (lv_at hl 2 rfl) ?_
          refine lv_iload hx hb dX6_isBest_44 (lv_at hl 3 rfl) ?_
          refine z_rgo (va_runS (As := [.int y2, .int x2, .int x3, .int x4]) (rest := []) ⟨hx, hb, hml, hown, hts⟩ (c6_gain l g   y2 x2 x3 x4) (va_cwS 4 hts gX6_isBest_X6_gain rfl rfl rfl (by decide +kernel) ⟨Nat.le_of_ble_eq_true rfl, Nat.le_of_ble_eq_true rfl⟩) (z_rpre z_nil hK) rfl rfl hl.1 rfl (lv_room (Nat.le_of_ble_eq_true rfl)) dX6_isBest_46 ⟨Nat.zero_le _, Nat.zero_le _⟩) ?_
          refine lv_iload hx hb dX6_isBest_49 (lv_at hl 4 rfl) ?_
          refine lv_icmp_le (tgt := 56) hx hb dX6_isBest_51 (by decide) (fun c5 => ?_) (fun c5 => ?_)
          · have hF := zit c5 hF
            refine lv_iinc (v := (y2 + 1)) (lv' := [(6, .int (y2 + 1)), (0, .ref (q 0)), (2, .int x2), (3, .int x3), (4, .int x4), (5, .int v1)]) hx hb dX6_isBest_56 hl (k := 5) rfl rfl (by decide) rfl (fun ls hl => ?_)
            refine lv_goto (tgt := 13) hx hb dX6_isBest_59 (by decide) ?_
            exact ih13 (y2 + 1) ls hF (lv_sub hl [1, 2, 3, 4, 5, 0] rfl)
          · have hF := zif c5 hF
            refine lv_iconst (v := 0) hx hb dX6_isBest_54 (by decide) ?_
            have e9a := zin hF
            exact z_rz hx hb hr hlk rfl (congrArg (fun z => some (Value.int z)) e9a) dX6_isBest_55
  exact L13 FU 0 ls hF (lv_sub hl [2, 4, 5, 6, 1, 0] rfl)
def f6_isAtRest (C : Cs) (x1 : Int32) (x2 : Int32) (x3 : Int32) (x4 : Int32) : Option (Int32) := if (f6_has (((C.2.2.2.2.2.1).1).1 5) x1) = 0 then some 0 else if (f6_has (((C.2.2.2.2.2.1).1).1 5) x2) = 0 then some 0 else (f6_isBest C x1 x2 x3 x4).bind fun v3 => if v3 = 0 then some 0 else (f6_isBest C x2 x1 x4 x3).bind fun v5 => if v5 = 0 then some 0 else some 1
abbrev rmX6_isAtRest : Room := { frames := 2, cells := 0, slots := 0, locals := 49 }
set_option maxHeartbeats 4000000 in
set_option maxRecDepth 100000 in
theorem c6_isAtRest (l : Launch) (g : zG) (q : Nat → Nat) (C : Cs) (x1 : Int32) (x2 : Int32) (x3 : Int32) (x4 : Int32) (ro : Int32) (hF : f6_isAtRest C x1 x2 x3 x4 = some ro) : zRO l g yX6_isAtRest wsX6_isAtRest rmX6_isAtRest [.ref (q 0), .int x1, .int x2, .int x3, .int x4] (CW g q C) (some (.int ro)) := by
  refine zRO_of (cc := cX6_isAtRest) (maxL := 5) (ret := (some .boolean)) (by decide) rfl (Nat.le_of_ble_eq_true rfl) ?_
  intro p e s m args below meth c ls hx hb hr hml hts hown hlk hK hP hl
  have hown : s.vm.findClass RX6 = some m.cls := hown
  have hl : lv_has ls 5 [(0, .ref (q 0)), (1, .int x1), (2, .int x2), (3, .int x3), (4, .int x4)] := hl
  have inX3 : ∀ w ∈ wsX30, w ∈ wsX6_isAtRest := fun _ h => List.mem_cons_of_mem _ (List.mem_append_right _ h)
  have inX6 : ∀ w ∈ wsX60, w ∈ wsX6_isAtRest := fun _ h => List.mem_cons_of_mem _ (List.mem_append_left _ (List.mem_append_right _ h))
  unfold f6_isAtRest at hF
  refine lv_aload_n hx hb dX6_isAtRest_0 rfl (lv_at hl 0 rfl) ?_
  refine z_get (ci := 6) (v := .ref (q (13 + 2))) (C := RX6) (T := TX6) (N := 13) hx hb hts inX6 hown hK hP 0 (cwp_0 g q C) rfl 3 (by decide) (List.mem_of_getElem? (i := 1) rfl) rfl rfl dX6_isAtRest_1 ?_
  refine z_get (ci := 3) (v := .int (((C.2.2.2.2.2.1).1).1 5)) (C := RX3) (T := TX3) (N := 13) hx hb hts inX3 hown hK hP 15 (cwp_15 g q C) rfl 5 (by decide) (List.mem_of_getElem? (i := 2) rfl) rfl rfl dX6_isAtRest_4 ?_
  refine lv_iload_n hx hb dX6_isAtRest_7 rfl (lv_at hl 1 rfl) ?_
  refine z_rgo (va_runS (As := [.int (((C.2.2.2.2.2.1).1).1 5), .int x1]) (rest := []) ⟨hx, hb, hml, hown, hts⟩ (c6_has l g   (((C.2.2.2.2.2.1).1).1 5) x1) (va_cwS 2 hts gX6_isAtRest_X6_has rfl rfl rfl (by decide +kernel) ⟨Nat.le_of_ble_eq_true rfl, Nat.le_of_ble_eq_true rfl⟩) (z_rpre z_nil hK) rfl rfl hl.1 rfl (lv_room (Nat.le_of_ble_eq_true rfl)) dX6_isAtRest_8 ⟨Nat.zero_le _, Nat.zero_le _⟩) ?_
  refine lv_if_eq (tgt := 56) hx hb dX6_isAtRest_11 (by decide) (fun c1 => ?_) (fun c1 => ?_)
  · have hF := zit c1 hF
    refine lv_iconst (v := 0) hx hb dX6_isAtRest_56 (by decide) ?_
    have e9a := zin hF
    exact z_rz hx hb hr hlk rfl (congrArg (fun z => some (Value.int z)) e9a) dX6_isAtRest_57
  · have hF := zif c1 hF
    refine lv_aload_n hx hb dX6_isAtRest_14 rfl (lv_at hl 0 rfl) ?_
    refine z_get (ci := 6) (v := .ref (q (13 + 2))) (C := RX6) (T := TX6) (N := 13) hx hb hts inX6 hown hK hP 0 (cwp_0 g q C) rfl 3 (by decide) (List.mem_of_getElem? (i := 1) rfl) rfl rfl dX6_isAtRest_15 ?_
    refine z_get (ci := 3) (v := .int (((C.2.2.2.2.2.1).1).1 5)) (C := RX3) (T := TX3) (N := 13) hx hb hts inX3 hown hK hP 15 (cwp_15 g q C) rfl 5 (by decide) (List.mem_of_getElem? (i := 2) rfl) rfl rfl dX6_isAtRest_18 ?_
    refine lv_iload_n hx hb dX6_isAtRest_21 rfl (lv_at hl 2 rfl) ?_
    refine z_rgo (va_runS (As := [.int (((C.2.2.2.2.2.1).1).1 5), .int x2]) (rest := []) ⟨hx, hb, hml, hown, hts⟩ (c6_has l g   (((C.2.2.2.2.2.1).1).1 5) x2) (va_cwS 2 hts gX6_isAtRest_X6_has rfl rfl rfl (by decide +kernel) ⟨Nat.le_of_ble_eq_true rfl, Nat.le_of_ble_eq_true rfl⟩) (z_rpre z_nil hK) rfl rfl hl.1 rfl (lv_room (Nat.le_of_ble_eq_true rfl)) dX6_isAtRest_22 ⟨Nat.zero_le _, Nat.zero_le _⟩) ?_
    refine lv_if_eq (tgt := 56) hx hb dX6_isAtRest_25 (by decide) (fun c2 => ?_) (fun c2 => ?_)
    · have hF := zit c2 hF
      refine lv_iconst (v := 0) hx hb dX6_isAtRest_56 (by decide) ?_
      have e9a := zin hF
      exact z_rz hx hb hr hlk rfl (congrArg (fun z => some (Value.int z)) e9a) dX6_isAtRest_57
    · have hF := zif c2 hF
      refine lv_aload_n hx hb dX6_isAtRest_28 rfl (lv_at hl 0 rfl) ?_
      refine lv_iload_n hx hb dX6_isAtRest_29 rfl (lv_at hl 1 rfl) ?_
      refine lv_iload_n hx hb dX6_isAtRest_30 rfl (lv_at hl 2 rfl) ?_
      refine lv_iload_n hx hb dX6_isAtRest_31 rfl (lv_at hl 3 rfl) ?_
      refine lv_iload hx hb dX6_isAtRest_32 (lv_at hl 4 rfl) ?_
      obtain ⟨v3, hv3, hF⟩ := zob hF
      refine z_rgo (va_runV (As := [.int x1, .int x2, .int x3, .int x4]) (rest := []) ⟨hx, hb, hml, hown, hts⟩ (c6_isBest l g q C x1 x2 x3 x4 v3 hv3) (cwV 4 hts gX6_isAtRest_X6_isBest rfl rfl rfl (by decide +kernel) ⟨Nat.le_of_ble_eq_true rfl, Nat.le_of_ble_eq_true rfl⟩) (z_rpreV (ci := 6) (q := (RX6, TX6, 13)) (q0 := 0) hP hK rfl rfl) rfl rfl hl.1 rfl (lv_room (Nat.le_of_ble_eq_true rfl)) dX6_isAtRest_34 ⟨Nat.zero_le _, Nat.zero_le _⟩) ?_
      refine lv_if_eq (tgt := 56) hx hb dX6_isAtRest_37 (by decide) (fun c4 => ?_) (fun c4 => ?_)
      · have hF := zit c4 hF
        refine lv_iconst (v := 0) hx hb dX6_isAtRest_56 (by decide) ?_
        have e9a := zin hF
        exact z_rz hx hb hr hlk rfl (congrArg (fun z => some (Value.int z)) e9a) dX6_isAtRest_57
      · have hF := zif c4 hF
        refine lv_aload_n hx hb dX6_isAtRest_40 rfl (lv_at hl 0 rfl) ?_
        refine lv_iload_n hx hb dX6_isAtRest_41 rfl (lv_at hl 2 rfl) ?_
        refine lv_iload_n hx hb dX6_isAtRest_42 rfl (lv_at hl 1 rfl) ?_
        refine lv_iload hx hb dX6_isAtRest_43 (lv_at hl 4 rfl) ?_
        refine lv_iload_n hx hb dX6_isAtRest_45 rfl (lv_at hl 3 rfl) ?_
        obtain ⟨v5, hv5, hF⟩ := zob hF
        refine z_rgo (va_runV (As := [.int x2, .int x1, .int x4, .int x3]) (rest := []) ⟨hx, hb, hml, hown, hts⟩ (c6_isBest l g q C x2 x1 x4 x3 v5 hv5) (cwV 4 hts gX6_isAtRest_X6_isBest rfl rfl rfl (by decide +kernel) ⟨Nat.le_of_ble_eq_true rfl, Nat.le_of_ble_eq_true rfl⟩) (z_rpreV (ci := 6) (q := (RX6, TX6, 13)) (q0 := 0) hP hK rfl rfl) rfl rfl hl.1 rfl (lv_room (Nat.le_of_ble_eq_true rfl)) dX6_isAtRest_46 ⟨Nat.zero_le _, Nat.zero_le _⟩) ?_
        refine lv_if_eq (tgt := 56) hx hb dX6_isAtRest_49 (by decide) (fun c6 => ?_) (fun c6 => ?_)
        · have hF := zit c6 hF
          refine lv_iconst (v := 0) hx hb dX6_isAtRest_56 (by decide) ?_
          have e9a := zin hF
          exact z_rz hx hb hr hlk rfl (congrArg (fun z => some (Value.int z)) e9a) dX6_isAtRest_57
        · have hF := zif c6 hF
          refine lv_iconst (v := 1) hx hb dX6_isAtRest_52 (by decide) ?_
          refine lv_goto (tgt := 57) hx hb dX6_isAtRest_53 (by decide) ?_
          have e9a := zin hF
          exact z_rz hx hb hr hlk rfl (congrArg (fun z => some (Value.int z)) e9a) dX6_isAtRest_57
def f6_isNoPipe (C : Cs) (x1 : Int32) : Int32 := if x1 < 0 then 1 else if x1 < (((C.2.2.2.2.2.1).1).1 3) then 0 else 1
abbrev rmX6_isNoPipe : Room := { frames := 0, cells := 0, slots := 0, locals := 0 }
set_option maxHeartbeats 4000000 in
set_option maxRecDepth 100000 in
theorem c6_isNoPipe (l : Launch) (g : zG) (q : Nat → Nat) (C : Cs) (x1 : Int32) : zRO l g yX6_isNoPipe wsX6_isNoPipe rmX6_isNoPipe [.ref (q 0), .int x1] (CW g q C) (some (.int (f6_isNoPipe C x1))) := by
  obtain ⟨ro, hF⟩ : ∃ y : Int32, f6_isNoPipe C x1 = y := ⟨_, rfl⟩
  rw [hF]
  refine zRO_of (cc := cX6_isNoPipe) (maxL := 2) (ret := (some .boolean)) (by decide) rfl (Nat.le_of_ble_eq_true rfl) ?_
  intro p e s m args below meth c ls hx hb hr hml hts hown hlk hK hP hl
  have hown : s.vm.findClass RX6 = some m.cls := hown
  have hl : lv_has ls 2 [(0, .ref (q 0)), (1, .int x1)] := hl
  have inX3 : ∀ w ∈ wsX30, w ∈ wsX6_isNoPipe := fun _ h => List.mem_cons_of_mem _ (List.mem_append_right _ h)
  have inX6 : ∀ w ∈ wsX60, w ∈ wsX6_isNoPipe := fun _ h => List.mem_cons_of_mem _ (List.mem_append_left _ (List.mem_append_right _ h))
  unfold f6_isNoPipe at hF
  refine lv_iload_n hx hb dX6_isNoPipe_0 rfl (lv_at hl 1 rfl) ?_
  refine lv_if_lt (tgt := 15) hx hb dX6_isNoPipe_1 (by decide) (fun c1 => ?_) (fun c1 => ?_)
  · have hF := zit c1 hF
    refine lv_iconst (v := 1) hx hb dX6_isNoPipe_15 (by decide) ?_
    refine lv_goto (tgt := 20) hx hb dX6_isNoPipe_16 (by decide) ?_
    exact z_rz hx hb hr hlk rfl (congrArg (fun z => some (Value.int z)) hF) dX6_isNoPipe_20
  · have hF := zif c1 hF
    refine lv_iload_n hx hb dX6_isNoPipe_4 rfl (lv_at hl 1 rfl) ?_
    refine lv_aload_n hx hb dX6_isNoPipe_5 rfl (lv_at hl 0 rfl) ?_
    refine z_get (ci := 6) (v := .ref (q (13 + 2))) (C := RX6) (T := TX6) (N := 13) hx hb hts inX6 hown hK hP 0 (cwp_0 g q C) rfl 3 (by decide) (List.mem_of_getElem? (i := 1) rfl) rfl rfl dX6_isNoPipe_6 ?_
    refine z_get (ci := 3) (v := .int (((C.2.2.2.2.2.1).1).1 3)) (C := RX3) (T := TX3) (N := 13) hx hb hts inX3 hown hK hP 15 (cwp_15 g q C) rfl 3 (by decide) (List.mem_of_getElem? (i := 2) rfl) rfl rfl dX6_isNoPipe_9 ?_
    refine lv_icmp_lt (tgt := 19) hx hb dX6_isNoPipe_12 (by decide) (fun c2 => ?_) (fun c2 => ?_)
    · have hF := zit c2 hF
      refine lv_iconst (v := 0) hx hb dX6_isNoPipe_19 (by decide) ?_
      exact z_rz hx hb hr hlk rfl (congrArg (fun z => some (Value.int z)) hF) dX6_isNoPipe_20
    · have hF := zif c2 hF
      refine lv_iconst (v := 1) hx hb dX6_isNoPipe_15 (by decide) ?_
      refine lv_goto (tgt := 20) hx hb dX6_isNoPipe_16 (by decide) ?_
      exact z_rz hx hb hr hlk rfl (congrArg (fun z => some (Value.int z)) hF) dX6_isNoPipe_20
theorem b6_isNoPipe (C : Cs) (x1 : Int32) : narrow .boolean (.int (f6_isNoPipe C x1)) = .int (f6_isNoPipe C x1) := by
  unfold f6_isNoPipe
  repeat' split
  all_goals first | rfl | exact rfl
def f6_isTried_j55 (x1 : Int32) (x2 : Int32) (C1 : Cs) : Option (Int32 × Cs) := if (f6_isNoPipe C1 x2) = 0 then bd (α := Int32) (if x1 = 1 then 1 else 0) (fun (v3 : Int32) => if (f6_has ((C1.1 1).1 6) x2) = v3 then (f2_turnPipe (C1.1 1) x2).bind fun M6 => bd (cM C1 1 M6) (fun (C7 : Cs) => some (1, C7)) else some (0, C1)) else some (0, C1)
def f6_isTried (C : Cs) (x1 : Int32) (x2 : Int32) : Option (Int32 × Cs) := if x1 = 0 then if x2 = 0 then (f2_advance (C.1 1) ((C.2.2.2.2.2.1).1)).bind fun M10 => bd (cM C 1 M10) (fun (C11 : Cs) => some (1, C11)) else some (0, C) else if x1 = 1 then f6_isTried_j55 x1 x2 C else if x1 = 2 then f6_isTried_j55 x1 x2 C else if x1 = 3 then if (f6_isNoJoint C x2) = 0 then if (f6_has (((C.2.2.2.2.2.1).1).1 5) x2) = 0 then some (0, C) else (f2_turnLid (C.1 1) x2).bind fun M17 => bd (cM C 1 M17) (fun (C18 : Cs) => some (1, C18)) else some (0, C) else if x1 = 4 then if (f6_isNoWalker C x2) = 0 then if (f6_has ((C.1 1).1 5) x2) = 0 then (f2_callBack (C.1 1) x2).bind fun M22 => bd (cM C 1 M22) (fun (C23 : Cs) => some (1, C23)) else some (0, C) else some (0, C) else some (0, C)
abbrev rmX6_isTried : Room := { frames := 5, cells := 0, slots := 0, locals := 118 }
set_option maxHeartbeats 4000000 in
set_option maxRecDepth 100000 in
theorem c6_isTried (l : Launch) (g : zG) (q : Nat → Nat) (C : Cs) (x1 : Int32) (x2 : Int32) (ro : Int32) (C_o : Cs) (hF : f6_isTried C x1 x2 = some (ro, C_o)) : zRW l g yX6_isTried wsX6_isTried rmX6_isTried [.ref (q 0), .int x1, .int x2] (CW g q C) (some (.int ro)) (CW g q C_o) := by
  refine zRW_of (cc := cX6_isTried) (maxL := 3) (ret := (some .boolean)) (by decide) rfl (Nat.le_of_ble_eq_true rfl) ?_
  intro p e s m args below meth c A H locs ls hx hb hr hml hts hown hlk hK hA hP hD hS hl
  have hown : s.vm.findClass RX6 = some m.cls := hown
  have hl : lv_has ls 3 [(0, .ref (q 0)), (1, .int x1), (2, .int x2)] := hl
  have inX2 : ∀ w ∈ wsX20, w ∈ wsX6_isTried := fun _ h => List.mem_cons_of_mem _ (List.mem_append_left _ (List.mem_append_right _ h))
  have inX3 : ∀ w ∈ wsX30, w ∈ wsX6_isTried := fun _ h => List.mem_cons_of_mem _ (List.mem_append_right _ h)
  have inX6 : ∀ w ∈ wsX60, w ∈ wsX6_isTried := fun _ h => List.mem_cons_of_mem _ (List.mem_append_left _ (List.mem_append_left _ (List.mem_append_right _ h)))
  unfold f6_isTried at hF
  refine lv_iload_n hx hb dX6_isTried_0 rfl (lv_at hl 1 rfl) ?_
  have L55 : ∀ (C1 : Cs) (H : Heap) (locs : List Loc) (ls : Array Slot), f6_isTried_j55 x1 x2 C1 = some (ro, C_o) → va_P (zD g) vwCl (CW g q C1) H → va_D A (CW g q C1) → va_S A s.heap H locs → lv_has ls 3 [(0, .ref (q 0)), (1, .int x1), (2, .int x2)] → W p l e (headSpec wsX6_isTried rmX6_isTried).room s m args below meth c H locs 0 0 (MQ below (zWQ g A (CW g q C_o) (some (.int ro))) args s 0 0 A) (F0 m 55 ls []) := by
    intro C1 H locs ls hF hP hD hS hl
    unfold f6_isTried_j55 at hF
    refine lv_aload_n hx hb dX6_isTried_55 rfl (lv_at hl 0 rfl) ?_
    refine lv_iload_n hx hb dX6_isTried_56 rfl (lv_at hl 2 rfl) ?_
    refine z_rgo (va_runV (As := [.int x2]) (rest := []) ⟨hx, hb, hml, hown, hts⟩ (c6_isNoPipe l g q C1 x2) (cwV 1 hts gX6_isTried_X6_isNoPipe rfl rfl rfl (by decide +kernel) ⟨Nat.le_of_ble_eq_true rfl, Nat.le_of_ble_eq_true rfl⟩) (z_rpreV (ci := 6) (q := (RX6, TX6, 13)) (q0 := 0) hP hK rfl rfl) rfl rfl hl.1 rfl (lv_room (Nat.le_of_ble_eq_true rfl)) dX6_isTried_57 ⟨Nat.zero_le _, Nat.zero_le _⟩) ?_
    refine lv_if_ne (tgt := 87) hx hb dX6_isTried_60 (by decide) (fun c2 => ?_) (fun c2 => ?_)
    · have hF := zif c2 hF
      refine lv_iconst (v := 0) hx hb dX6_isTried_87 (by decide) ?_
      obtain ⟨e9a, e9b⟩ := Prod.mk.inj (zin hF)
      exact z_wz hx hb hr hlk rfl hP hD hS (congrArg (fun z => some (Value.int z)) e9a) (by rw [e9b]) dX6_isTried_88
    · have hF := zit c2 hF
      refine lv_aload_n hx hb dX6_isTried_63 rfl (lv_at hl 0 rfl) ?_
      refine z_get (ci := 6) (v := .ref (q 28)) (C := RX6) (T := TX6) (N := 13) hx hb hts inX6 hown hK hP 0 (cwp_0 g q C1) rfl 5 (by decide) (List.mem_of_getElem? (i := 1) rfl) rfl rfl dX6_isTried_64 ?_
      refine z_get (ci := 2) (v := .int ((C1.1 1).1 6)) (C := RX2) (T := TX2) (N := 9) hx hb hts inX2 hown hK hP 28 (cwp_28 g q C1) rfl 6 (by decide) (List.mem_of_getElem? (i := 3) rfl) rfl rfl dX6_isTried_67 ?_
      refine lv_iload_n hx hb dX6_isTried_70 rfl (lv_at hl 2 rfl) ?_
      refine z_rgo (va_runS (As := [.int ((C1.1 1).1 6), .int x2]) (rest := []) ⟨hx, hb, hml, hown, hts⟩ (c6_has l g   ((C1.1 1).1 6) x2) (va_cwS 2 hts gX6_isTried_X6_has rfl rfl rfl (by decide +kernel) ⟨Nat.le_of_ble_eq_true rfl, Nat.le_of_ble_eq_true rfl⟩) (z_rpre z_nil hK) rfl rfl hl.1 rfl (lv_room (Nat.le_of_ble_eq_true rfl)) dX6_isTried_71 ⟨Nat.zero_le _, Nat.zero_le _⟩) ?_
      refine lv_iload_n hx hb dX6_isTried_74 rfl (lv_at hl 1 rfl) ?_
      refine lv_iconst (v := 1) hx hb dX6_isTried_75 (by decide) ?_
      obtain ⟨v3, hVv3⟩ : ∃ y : Int32, (if x1 = 1 then 1 else 0 : Int32) = y := ⟨_, rfl⟩
      have hF := bd_eq hVv3.symm hF
      have Jv3 : W p l e (headSpec wsX6_isTried rmX6_isTried).room s m args below meth c H locs 0 0 (MQ below (zWQ g A (CW g q C_o) (some (.int ro))) args s 0 0 A) (F0 m 84 ls [.int v3, .int (f6_has ((C1.1 1).1 6) x2)]) := by
        refine lv_icmp_eq (tgt := 89) hx hb dX6_isTried_84 (by decide) (fun c5 => ?_) (fun c5 => ?_)
        · have hF := zit c5 hF
          refine lv_aload_n hx hb dX6_isTried_89 rfl (lv_at hl 0 rfl) ?_
          refine z_get (ci := 6) (v := .ref (q 28)) (C := RX6) (T := TX6) (N := 13) hx hb hts inX6 hown hK hP 0 (cwp_0 g q C1) rfl 5 (by decide) (List.mem_of_getElem? (i := 1) rfl) rfl rfl dX6_isTried_90 ?_
          refine lv_iload_n hx hb dX6_isTried_93 rfl (lv_at hl 2 rfl) ?_
          obtain ⟨M6, hM6, hF⟩ := zob hF
          refine z_wgo (wn := CW g q (cM C1 1 M6)) (va_runV (As := [.int x2]) (rest := []) ⟨hx, hb, hml, hown, hts⟩ ((c2_turnPipe l g q 28 (C1.1 1) x2  M6 hM6) H.size) (cwV 1 hts gX6_isTried_X2_turnPipe rfl rfl rfl (by decide +kernel) ⟨Nat.le_of_ble_eq_true rfl, Nat.le_of_ble_eq_true rfl⟩) (z_wpreV (ci := 2) (q := (RX2, TX2, 9)) (q0 := 0) (z_Psub hP _ (cwm_28_5_32 g q C1)) hK (z_any (hD.sub _ (by decide) (cwm_28_5_32 g q C1))) rfl rfl) rfl rfl hl.1 rfl (lv_room (Nat.le_of_ble_eq_true rfl)) dX6_isTried_94 ⟨Nat.zero_le _, Nat.zero_le _⟩) hP hD hS hA _ (cwm_28_5_32 g q C1) (by decide) rfl (cww_28_5_32 g q C1 M6) (fun H locs hP hD hS => ?_)
          show W p l e (headSpec wsX6_isTried rmX6_isTried).room s m args below meth c H locs 0 0 (MQ below (zWQ g A (CW g q C_o) (some (.int ro))) args s 0 0 A) (F0 m 97 ls [])
          obtain ⟨C7, eC7⟩ : ∃ y : Cs, y = (cM C1 1 M6) := ⟨_, rfl⟩
          rw [← eC7] at hP hD
          have hF := bd_eq eC7 hF
          refine lv_iconst (v := 1) hx hb dX6_isTried_97 (by decide) ?_
          obtain ⟨e9a, e9b⟩ := Prod.mk.inj (zin hF)
          exact z_wz hx hb hr hlk rfl hP hD hS (congrArg (fun z => some (Value.int z)) e9a) (by rw [e9b]) dX6_isTried_98
        · have hF := zif c5 hF
          refine lv_iconst (v := 0) hx hb dX6_isTried_87 (by decide) ?_
          obtain ⟨e9a, e9b⟩ := Prod.mk.inj (zin hF)
          exact z_wz hx hb hr hlk rfl hP hD hS (congrArg (fun z => some (Value.int z)) e9a) (by rw [e9b]) dX6_isTried_88
      refine lv_icmp_ne (tgt := 83) hx hb dX6_isTried_76 (by decide) (fun c4 => ?_) (fun c4 => ?_)
      · have hVv3 := zif c4 hVv3
        refine lv_iconst (v := 0) hx hb dX6_isTried_83 (by decide) ?_
        subst hVv3
        exact Jv3
      · have hVv3 := zit c4 hVv3
        refine lv_iconst (v := 1) hx hb dX6_isTried_79 (by decide) ?_
        refine lv_goto (tgt := 84) hx hb dX6_isTried_80 (by decide) ?_
        subst hVv3
        exact Jv3
  by_cases c8 : x1 = 0
  · have hF := zit c8 hF
    refine z_tin (k := 0) (tgt := 36) hx hb dX6_isTried_1 c8 ⟨by decide, by decide, rfl, by decide⟩ ?_
    refine lv_iload_n hx hb dX6_isTried_36 rfl (lv_at hl 2 rfl) ?_
    refine lv_if_eq (tgt := 42) hx hb dX6_isTried_37 (by decide) (fun c9 => ?_) (fun c9 => ?_)
    · have hF := zit c9 hF
      refine lv_aload_n hx hb dX6_isTried_42 rfl (lv_at hl 0 rfl) ?_
      refine z_get (ci := 6) (v := .ref (q 28)) (C := RX6) (T := TX6) (N := 13) hx hb hts inX6 hown hK hP 0 (cwp_0 g q C) rfl 5 (by decide) (List.mem_of_getElem? (i := 1) rfl) rfl rfl dX6_isTried_43 ?_
      refine lv_aload_n hx hb dX6_isTried_46 rfl (lv_at hl 0 rfl) ?_
      refine z_get (ci := 6) (v := .ref (q (13 + 2))) (C := RX6) (T := TX6) (N := 13) hx hb hts inX6 hown hK hP 0 (cwp_0 g q C) rfl 3 (by decide) (List.mem_of_getElem? (i := 2) rfl) rfl rfl dX6_isTried_47 ?_
      obtain ⟨M10, hM10, hF⟩ := zob hF
      refine z_wgo (wn := CW g q (cM C 1 M10)) (va_runV (As := [.ref (q (13 + 2))]) (rest := []) ⟨hx, hb, hml, hown, hts⟩ ((c2_advance l g q 28 q (13 + 2) (C.1 1) ((C.2.2.2.2.2.1).1)   M10 hM10) H.size) (cwV 1 hts gX6_isTried_X2_advance rfl rfl rfl (by decide +kernel) ⟨Nat.le_of_ble_eq_true rfl, Nat.le_of_ble_eq_true rfl⟩) (z_wpreV (ci := 2) (q := (RX2, TX2, 9)) (q0 := 0) (z_Psub hP _ (cwm_28_13_22 g q C)) hK (z_any (hD.sub _ (by decide) (cwm_28_13_22 g q C))) rfl rfl) rfl rfl hl.1 rfl (lv_room (Nat.le_of_ble_eq_true rfl)) dX6_isTried_50 ⟨Nat.zero_le _, Nat.zero_le _⟩) hP hD hS hA _ (cwm_28_13_22 g q C) (by decide) rfl (cww_28_13_22 g q C M10) (fun H locs hP hD hS => ?_)
      show W p l e (headSpec wsX6_isTried rmX6_isTried).room s m args below meth c H locs 0 0 (MQ below (zWQ g A (CW g q C_o) (some (.int ro))) args s 0 0 A) (F0 m 53 ls [])
      obtain ⟨C11, eC11⟩ : ∃ y : Cs, y = (cM C 1 M10) := ⟨_, rfl⟩
      rw [← eC11] at hP hD
      have hF := bd_eq eC11 hF
      refine lv_iconst (v := 1) hx hb dX6_isTried_53 (by decide) ?_
      obtain ⟨e9a, e9b⟩ := Prod.mk.inj (zin hF)
      exact z_wz hx hb hr hlk rfl hP hD hS (congrArg (fun z => some (Value.int z)) e9a) (by rw [e9b]) dX6_isTried_54
    · have hF := zif c9 hF
      refine lv_iconst (v := 0) hx hb dX6_isTried_40 (by decide) ?_
      obtain ⟨e9a, e9b⟩ := Prod.mk.inj (zin hF)
      exact z_wz hx hb hr hlk rfl hP hD hS (congrArg (fun z => some (Value.int z)) e9a) (by rw [e9b]) dX6_isTried_41
  · have hF := zif c8 hF
    by_cases c12 : x1 = 1
    · have hF := zit c12 hF
      refine z_tin (k := 1) (tgt := 55) hx hb dX6_isTried_1 c12 ⟨by decide, by decide, rfl, by decide⟩ ?_
      exact L55 C H locs ls hF hP hD hS (lv_sub hl [0, 1, 2] rfl)
    · have hF := zif c12 hF
      by_cases c13 : x1 = 2
      · have hF := zit c13 hF
        refine z_tin (k := 2) (tgt := 55) hx hb dX6_isTried_1 c13 ⟨by decide, by decide, rfl, by decide⟩ ?_
        exact L55 C H locs ls hF hP hD hS (lv_sub hl [0, 1, 2] rfl)
      · have hF := zif c13 hF
        by_cases c14 : x1 = 3
        · have hF := zit c14 hF
          refine z_tin (k := 3) (tgt := 99) hx hb dX6_isTried_1 c14 ⟨by decide, by decide, rfl, by decide⟩ ?_
          refine lv_aload_n hx hb dX6_isTried_99 rfl (lv_at hl 0 rfl) ?_
          refine lv_iload_n hx hb dX6_isTried_100 rfl (lv_at hl 2 rfl) ?_
          refine z_rgo (va_runV (As := [.int x2]) (rest := []) ⟨hx, hb, hml, hown, hts⟩ (c6_isNoJoint l g q C x2) (cwV 1 hts gX6_isTried_X6_isNoJoint rfl rfl rfl (by decide +kernel) ⟨Nat.le_of_ble_eq_true rfl, Nat.le_of_ble_eq_true rfl⟩) (z_rpreV (ci := 6) (q := (RX6, TX6, 13)) (q0 := 0) hP hK rfl rfl) rfl rfl hl.1 rfl (lv_room (Nat.le_of_ble_eq_true rfl)) dX6_isTried_101 ⟨Nat.zero_le _, Nat.zero_le _⟩) ?_
          refine lv_if_ne (tgt := 121) hx hb dX6_isTried_104 (by decide) (fun c15 => ?_) (fun c15 => ?_)
          · have hF := zif c15 hF
            refine lv_iconst (v := 0) hx hb dX6_isTried_121 (by decide) ?_
            obtain ⟨e9a, e9b⟩ := Prod.mk.inj (zin hF)
            exact z_wz hx hb hr hlk rfl hP hD hS (congrArg (fun z => some (Value.int z)) e9a) (by rw [e9b]) dX6_isTried_122
          · have hF := zit c15 hF
            refine lv_aload_n hx hb dX6_isTried_107 rfl (lv_at hl 0 rfl) ?_
            refine z_get (ci := 6) (v := .ref (q (13 + 2))) (C := RX6) (T := TX6) (N := 13) hx hb hts inX6 hown hK hP 0 (cwp_0 g q C) rfl 3 (by decide) (List.mem_of_getElem? (i := 2) rfl) rfl rfl dX6_isTried_108 ?_
            refine z_get (ci := 3) (v := .int (((C.2.2.2.2.2.1).1).1 5)) (C := RX3) (T := TX3) (N := 13) hx hb hts inX3 hown hK hP 15 (cwp_15 g q C) rfl 5 (by decide) (List.mem_of_getElem? (i := 4) rfl) rfl rfl dX6_isTried_111 ?_
            refine lv_iload_n hx hb dX6_isTried_114 rfl (lv_at hl 2 rfl) ?_
            refine z_rgo (va_runS (As := [.int (((C.2.2.2.2.2.1).1).1 5), .int x2]) (rest := []) ⟨hx, hb, hml, hown, hts⟩ (c6_has l g   (((C.2.2.2.2.2.1).1).1 5) x2) (va_cwS 2 hts gX6_isTried_X6_has rfl rfl rfl (by decide +kernel) ⟨Nat.le_of_ble_eq_true rfl, Nat.le_of_ble_eq_true rfl⟩) (z_rpre z_nil hK) rfl rfl hl.1 rfl (lv_room (Nat.le_of_ble_eq_true rfl)) dX6_isTried_115 ⟨Nat.zero_le _, Nat.zero_le _⟩) ?_
            refine lv_if_ne (tgt := 123) hx hb dX6_isTried_118 (by decide) (fun c16 => ?_) (fun c16 => ?_)
            · have hF := zif c16 hF
              refine lv_aload_n hx hb dX6_isTried_123 rfl (lv_at hl 0 rfl) ?_
              refine z_get (ci := 6) (v := .ref (q 28)) (C := RX6) (T := TX6) (N := 13) hx hb hts inX6 hown hK hP 0 (cwp_0 g q C) rfl 5 (by decide) (List.mem_of_getElem? (i := 1) rfl) rfl rfl dX6_isTried_124 ?_
              refine lv_iload_n hx hb dX6_isTried_127 rfl (lv_at hl 2 rfl) ?_
              obtain ⟨M17, hM17, hF⟩ := zob hF
              refine z_wgo (wn := CW g q (cM C 1 M17)) (va_runV (As := [.int x2]) (rest := []) ⟨hx, hb, hml, hown, hts⟩ ((c2_turnLid l g q 28 (C.1 1) x2  M17 hM17) H.size) (cwV 1 hts gX6_isTried_X2_turnLid rfl rfl rfl (by decide +kernel) ⟨Nat.le_of_ble_eq_true rfl, Nat.le_of_ble_eq_true rfl⟩) (z_wpreV (ci := 2) (q := (RX2, TX2, 9)) (q0 := 0) (z_Psub hP _ (cwm_28_5_32 g q C)) hK (z_any (hD.sub _ (by decide) (cwm_28_5_32 g q C))) rfl rfl) rfl rfl hl.1 rfl (lv_room (Nat.le_of_ble_eq_true rfl)) dX6_isTried_128 ⟨Nat.zero_le _, Nat.zero_le _⟩) hP hD hS hA _ (cwm_28_5_32 g q C) (by decide) rfl (cww_28_5_32 g q C M17) (fun H locs hP hD hS => ?_)
              show W p l e (headSpec wsX6_isTried rmX6_isTried).room s m args below meth c H locs 0 0 (MQ below (zWQ g A (CW g q C_o) (some (.int ro))) args s 0 0 A) (F0 m 131 ls [])
              obtain ⟨C18, eC18⟩ : ∃ y : Cs, y = (cM C 1 M17) := ⟨_, rfl⟩
              rw [← eC18] at hP hD
              have hF := bd_eq eC18 hF
              refine lv_iconst (v := 1) hx hb dX6_isTried_131 (by decide) ?_
              obtain ⟨e9a, e9b⟩ := Prod.mk.inj (zin hF)
              exact z_wz hx hb hr hlk rfl hP hD hS (congrArg (fun z => some (Value.int z)) e9a) (by rw [e9b]) dX6_isTried_132
            · have hF := zit c16 hF
              refine lv_iconst (v := 0) hx hb dX6_isTried_121 (by decide) ?_
              obtain ⟨e9a, e9b⟩ := Prod.mk.inj (zin hF)
              exact z_wz hx hb hr hlk rfl hP hD hS (congrArg (fun z => some (Value.int z)) e9a) (by rw [e9b]) dX6_isTried_122
        · have hF := zif c14 hF
          by_cases c19 : x1 = 4
          · have hF := zit c19 hF
            refine z_tin (k := 4) (tgt := 133) hx hb dX6_isTried_1 c19 ⟨by decide, by decide, rfl, by decide⟩ ?_
            refine lv_aload_n hx hb dX6_isTried_133 rfl (lv_at hl 0 rfl) ?_
            refine lv_iload_n hx hb dX6_isTried_134 rfl (lv_at hl 2 rfl) ?_
            refine z_rgo (va_runV (As := [.int x2]) (rest := []) ⟨hx, hb, hml, hown, hts⟩ (c6_isNoWalker l g q C x2) (cwV 1 hts gX6_isTried_X6_isNoWalker rfl rfl rfl (by decide +kernel) ⟨Nat.le_of_ble_eq_true rfl, Nat.le_of_ble_eq_true rfl⟩) (z_rpreV (ci := 6) (q := (RX6, TX6, 13)) (q0 := 0) hP hK rfl rfl) rfl rfl hl.1 rfl (lv_room (Nat.le_of_ble_eq_true rfl)) dX6_isTried_135 ⟨Nat.zero_le _, Nat.zero_le _⟩) ?_
            refine lv_if_ne (tgt := 155) hx hb dX6_isTried_138 (by decide) (fun c20 => ?_) (fun c20 => ?_)
            · have hF := zif c20 hF
              refine lv_iconst (v := 0) hx hb dX6_isTried_155 (by decide) ?_
              obtain ⟨e9a, e9b⟩ := Prod.mk.inj (zin hF)
              exact z_wz hx hb hr hlk rfl hP hD hS (congrArg (fun z => some (Value.int z)) e9a) (by rw [e9b]) dX6_isTried_156
            · have hF := zit c20 hF
              refine lv_aload_n hx hb dX6_isTried_141 rfl (lv_at hl 0 rfl) ?_
              refine z_get (ci := 6) (v := .ref (q 28)) (C := RX6) (T := TX6) (N := 13) hx hb hts inX6 hown hK hP 0 (cwp_0 g q C) rfl 5 (by decide) (List.mem_of_getElem? (i := 1) rfl) rfl rfl dX6_isTried_142 ?_
              refine z_get (ci := 2) (v := .int ((C.1 1).1 5)) (C := RX2) (T := TX2) (N := 9) hx hb hts inX2 hown hK hP 28 (cwp_28 g q C) rfl 5 (by decide) (List.mem_of_getElem? (i := 5) rfl) rfl rfl dX6_isTried_145 ?_
              refine lv_iload_n hx hb dX6_isTried_148 rfl (lv_at hl 2 rfl) ?_
              refine z_rgo (va_runS (As := [.int ((C.1 1).1 5), .int x2]) (rest := []) ⟨hx, hb, hml, hown, hts⟩ (c6_has l g   ((C.1 1).1 5) x2) (va_cwS 2 hts gX6_isTried_X6_has rfl rfl rfl (by decide +kernel) ⟨Nat.le_of_ble_eq_true rfl, Nat.le_of_ble_eq_true rfl⟩) (z_rpre z_nil hK) rfl rfl hl.1 rfl (lv_room (Nat.le_of_ble_eq_true rfl)) dX6_isTried_149 ⟨Nat.zero_le _, Nat.zero_le _⟩) ?_
              refine lv_if_eq (tgt := 157) hx hb dX6_isTried_152 (by decide) (fun c21 => ?_) (fun c21 => ?_)
              · have hF := zit c21 hF
                refine lv_aload_n hx hb dX6_isTried_157 rfl (lv_at hl 0 rfl) ?_
                refine z_get (ci := 6) (v := .ref (q 28)) (C := RX6) (T := TX6) (N := 13) hx hb hts inX6 hown hK hP 0 (cwp_0 g q C) rfl 5 (by decide) (List.mem_of_getElem? (i := 1) rfl) rfl rfl dX6_isTried_158 ?_
                refine lv_iload_n hx hb dX6_isTried_161 rfl (lv_at hl 2 rfl) ?_
                obtain ⟨M22, hM22, hF⟩ := zob hF
                refine z_wgo (wn := CW g q (cM C 1 M22)) (va_runV (As := [.int x2]) (rest := []) ⟨hx, hb, hml, hown, hts⟩ ((c2_callBack l g q 28 (C.1 1) x2  M22 hM22) H.size) (cwV 1 hts gX6_isTried_X2_callBack rfl rfl rfl (by decide +kernel) ⟨Nat.le_of_ble_eq_true rfl, Nat.le_of_ble_eq_true rfl⟩) (z_wpreV (ci := 2) (q := (RX2, TX2, 9)) (q0 := 0) (z_Psub hP _ (cwm_28_5_32 g q C)) hK (z_any (hD.sub _ (by decide) (cwm_28_5_32 g q C))) rfl rfl) rfl rfl hl.1 rfl (lv_room (Nat.le_of_ble_eq_true rfl)) dX6_isTried_162 ⟨Nat.zero_le _, Nat.zero_le _⟩) hP hD hS hA _ (cwm_28_5_32 g q C) (by decide) rfl (cww_28_5_32 g q C M22) (fun H locs hP hD hS => ?_)
                show W p l e (headSpec wsX6_isTried rmX6_isTried).room s m args below meth c H locs 0 0 (MQ below (zWQ g A (CW g q C_o) (some (.int ro))) args s 0 0 A) (F0 m 165 ls [])
                obtain ⟨C23, eC23⟩ : ∃ y : Cs, y = (cM C 1 M22) := ⟨_, rfl⟩
                rw [← eC23] at hP hD
                have hF := bd_eq eC23 hF
                refine lv_iconst (v := 1) hx hb dX6_isTried_165 (by decide) ?_
                obtain ⟨e9a, e9b⟩ := Prod.mk.inj (zin hF)
                exact z_wz hx hb hr hlk rfl hP hD hS (congrArg (fun z => some (Value.int z)) e9a) (by rw [e9b]) dX6_isTried_166
              · have hF := zif c21 hF
                refine lv_iconst (v := 0) hx hb dX6_isTried_155 (by decide) ?_
                obtain ⟨e9a, e9b⟩ := Prod.mk.inj (zin hF)
                exact z_wz hx hb hr hlk rfl hP hD hS (congrArg (fun z => some (Value.int z)) e9a) (by rw [e9b]) dX6_isTried_156
          · have hF := zif c19 hF
            refine z_tout hx hb dX6_isTried_1 [0, 1, 2, 3, 4] (fun k hk => ?_) rfl (tgt := 167) (by decide) ?_
            · simp only [List.mem_cons, List.not_mem_nil, or_false] at hk
              rcases hk with rfl | rfl | rfl | rfl | rfl <;> assumption
            · refine lv_iconst (v := 0) hx hb dX6_isTried_167 (by decide) ?_
              obtain ⟨e9a, e9b⟩ := Prod.mk.inj (zin hF)
              exact z_wz hx hb hr hlk rfl hP hD hS (congrArg (fun z => some (Value.int z)) e9a) (by rw [e9b]) dX6_isTried_168
def f6_joint (C : Cs) (x1 : Int32) (x2 : Int32) : Option (Int32) := if (f6_isNoJoint C x1) = 0 then if x2 = 0 then some (f6_cell 6 (((C.2.2.2.2.2.1).1).2 6) x1) else if x2 = 1 then some (f6_flag (f6_has (((C.2.2.2.2.2.1).1).1 5) x1)) else if x2 = 2 then some (f6_flag (f6_has ((C.1 0).1 7) x1)) else if x2 = 3 then (f3_under ((C.2.2.2.2.2.1).1) (f3_tide ((C.2.2.2.2.2.1).1) ((C.1 0).1 8))).bind fun v6 => some (f6_flag (f6_has v6 x1)) else if x2 = 4 then (f3_beside ((C.2.2.2.2.2.1).1) x1 ((C.1 0).1 6)).bind fun v8 => some v8 else some (-2) else some (-1)
abbrev rmX6_joint : Room := { frames := 2, cells := 0, slots := 0, locals := 47 }
set_option maxHeartbeats 4000000 in
set_option maxRecDepth 100000 in
theorem c6_joint (l : Launch) (g : zG) (q : Nat → Nat) (C : Cs) (x1 : Int32) (x2 : Int32) (ro : Int32) (hF : f6_joint C x1 x2 = some ro) : zRO l g yX6_joint wsX6_joint rmX6_joint [.ref (q 0), .int x1, .int x2] (CW g q C) (some (.int ro)) := by
  refine zRO_of (cc := cX6_joint) (maxL := 3) (ret := (some .int)) (by decide) rfl (Nat.le_of_ble_eq_true rfl) ?_
  intro p e s m args below meth c ls hx hb hr hml hts hown hlk hK hP hl
  have hown : s.vm.findClass RX6 = some m.cls := hown
  have hl : lv_has ls 3 [(0, .ref (q 0)), (1, .int x1), (2, .int x2)] := hl
  have inX2 : ∀ w ∈ wsX20, w ∈ wsX6_joint := fun _ h => List.mem_cons_of_mem _ (List.mem_append_right _ h)
  have inX3 : ∀ w ∈ wsX30, w ∈ wsX6_joint := fun _ h => List.mem_cons_of_mem _ (List.mem_append_left _ (List.mem_append_right _ h))
  have inX6 : ∀ w ∈ wsX60, w ∈ wsX6_joint := fun _ h => List.mem_cons_of_mem _ (List.mem_append_left _ (List.mem_append_left _ (List.mem_append_right _ h)))
  unfold f6_joint at hF
  refine lv_aload_n hx hb dX6_joint_0 rfl (lv_at hl 0 rfl) ?_
  refine lv_iload_n hx hb dX6_joint_1 rfl (lv_at hl 1 rfl) ?_
  refine z_rgo (va_runV (As := [.int x1]) (rest := []) ⟨hx, hb, hml, hown, hts⟩ (c6_isNoJoint l g q C x1) (cwV 1 hts gX6_joint_X6_isNoJoint rfl rfl rfl (by decide +kernel) ⟨Nat.le_of_ble_eq_true rfl, Nat.le_of_ble_eq_true rfl⟩) (z_rpreV (ci := 6) (q := (RX6, TX6, 13)) (q0 := 0) hP hK rfl rfl) rfl rfl hl.1 rfl (lv_room (Nat.le_of_ble_eq_true rfl)) dX6_joint_2 ⟨Nat.zero_le _, Nat.zero_le _⟩) ?_
  refine lv_if_eq (tgt := 10) hx hb dX6_joint_5 (by decide) (fun c1 => ?_) (fun c1 => ?_)
  · have hF := zit c1 hF
    refine lv_iload_n hx hb dX6_joint_10 rfl (lv_at hl 2 rfl) ?_
    by_cases c2 : x2 = 0
    · have hF := zit c2 hF
      refine z_tin (k := 0) (tgt := 44) hx hb dX6_joint_11 c2 ⟨by decide, by decide, rfl, by decide⟩ ?_
      refine lv_aload_n hx hb dX6_joint_44 rfl (lv_at hl 0 rfl) ?_
      refine z_get (ci := 6) (v := .ref (q (13 + 2))) (C := RX6) (T := TX6) (N := 13) hx hb hts inX6 hown hK hP 0 (cwp_0 g q C) rfl 3 (by decide) (List.mem_of_getElem? (i := 1) rfl) rfl rfl dX6_joint_45 ?_
      refine z_get (ci := 3) (v := .ref (q ((13 + 2) + 1))) (C := RX3) (T := TX3) (N := 13) hx hb hts inX3 hown hK hP 15 (cwp_15 g q C) rfl 6 (by decide) (List.mem_of_getElem? (i := 2) rfl) rfl rfl dX6_joint_48 ?_
      refine lv_iload_n hx hb dX6_joint_51 rfl (lv_at hl 1 rfl) ?_
      refine z_rgo (va_runS (As := [.ref (q ((13 + 2) + 1)), .int x1]) (rest := []) ⟨hx, hb, hml, hown, hts⟩ (c6_cell l g (q ((13 + 2) + 1)) 6 (by decide) (((C.2.2.2.2.2.1).1).2 6) x1) (va_cwS 2 hts gX6_joint_X6_cell rfl rfl rfl (by decide +kernel) ⟨Nat.le_of_ble_eq_true rfl, Nat.le_of_ble_eq_true rfl⟩) (z_rpre (z_Psub hP _ (cwm_16_1_16 g q C)) hK) rfl rfl hl.1 rfl (lv_room (Nat.le_of_ble_eq_true rfl)) dX6_joint_52 ⟨Nat.zero_le _, Nat.zero_le _⟩) ?_
      have e9a := zin hF
      exact z_ri hx hb hr hlk (congrArg (fun z => some (Value.int z)) e9a) dX6_joint_55
    · have hF := zif c2 hF
      by_cases c3 : x2 = 1
      · have hF := zit c3 hF
        refine z_tin (k := 1) (tgt := 56) hx hb dX6_joint_11 c3 ⟨by decide, by decide, rfl, by decide⟩ ?_
        refine lv_aload_n hx hb dX6_joint_56 rfl (lv_at hl 0 rfl) ?_
        refine z_get (ci := 6) (v := .ref (q (13 + 2))) (C := RX6) (T := TX6) (N := 13) hx hb hts inX6 hown hK hP 0 (cwp_0 g q C) rfl 3 (by decide) (List.mem_of_getElem? (i := 1) rfl) rfl rfl dX6_joint_57 ?_
        refine z_get (ci := 3) (v := .int (((C.2.2.2.2.2.1).1).1 5)) (C := RX3) (T := TX3) (N := 13) hx hb hts inX3 hown hK hP 15 (cwp_15 g q C) rfl 5 (by decide) (List.mem_of_getElem? (i := 3) rfl) rfl rfl dX6_joint_60 ?_
        refine lv_iload_n hx hb dX6_joint_63 rfl (lv_at hl 1 rfl) ?_
        refine z_rgo (va_runS (As := [.int (((C.2.2.2.2.2.1).1).1 5), .int x1]) (rest := []) ⟨hx, hb, hml, hown, hts⟩ (c6_has l g   (((C.2.2.2.2.2.1).1).1 5) x1) (va_cwS 2 hts gX6_joint_X6_has rfl rfl rfl (by decide +kernel) ⟨Nat.le_of_ble_eq_true rfl, Nat.le_of_ble_eq_true rfl⟩) (z_rpre z_nil hK) rfl rfl hl.1 rfl (lv_room (Nat.le_of_ble_eq_true rfl)) dX6_joint_64 ⟨Nat.zero_le _, Nat.zero_le _⟩) ?_
        refine z_rgo (va_runS (As := [.int (f6_has (((C.2.2.2.2.2.1).1).1 5) x1)]) (rest := []) ⟨hx, hb, hml, hown, hts⟩ (c6_flag l g   (f6_has (((C.2.2.2.2.2.1).1).1 5) x1)) (va_cwS 1 hts gX6_joint_X6_flag rfl rfl rfl (by decide +kernel) ⟨Nat.le_of_ble_eq_true rfl, Nat.le_of_ble_eq_true rfl⟩) (z_rpre z_nil hK) rfl rfl hl.1 rfl (lv_room (Nat.le_of_ble_eq_true rfl)) dX6_joint_67 ⟨Nat.zero_le _, Nat.zero_le _⟩) ?_
        have e9a := zin hF
        exact z_ri hx hb hr hlk (congrArg (fun z => some (Value.int z)) e9a) dX6_joint_70
      · have hF := zif c3 hF
        by_cases c4 : x2 = 2
        · have hF := zit c4 hF
          refine z_tin (k := 2) (tgt := 71) hx hb dX6_joint_11 c4 ⟨by decide, by decide, rfl, by decide⟩ ?_
          refine lv_aload_n hx hb dX6_joint_71 rfl (lv_at hl 0 rfl) ?_
          refine z_get (ci := 6) (v := .ref (q 23)) (C := RX6) (T := TX6) (N := 13) hx hb hts inX6 hown hK hP 0 (cwp_0 g q C) rfl 4 (by decide) (List.mem_of_getElem? (i := 4) rfl) rfl rfl dX6_joint_72 ?_
          refine z_get (ci := 2) (v := .int ((C.1 0).1 7)) (C := RX2) (T := TX2) (N := 9) hx hb hts inX2 hown hK hP 23 (cwp_23 g q C) rfl 7 (by decide) (List.mem_of_getElem? (i := 5) rfl) rfl rfl dX6_joint_75 ?_
          refine lv_iload_n hx hb dX6_joint_78 rfl (lv_at hl 1 rfl) ?_
          refine z_rgo (va_runS (As := [.int ((C.1 0).1 7), .int x1]) (rest := []) ⟨hx, hb, hml, hown, hts⟩ (c6_has l g   ((C.1 0).1 7) x1) (va_cwS 2 hts gX6_joint_X6_has rfl rfl rfl (by decide +kernel) ⟨Nat.le_of_ble_eq_true rfl, Nat.le_of_ble_eq_true rfl⟩) (z_rpre z_nil hK) rfl rfl hl.1 rfl (lv_room (Nat.le_of_ble_eq_true rfl)) dX6_joint_79 ⟨Nat.zero_le _, Nat.zero_le _⟩) ?_
          refine z_rgo (va_runS (As := [.int (f6_has ((C.1 0).1 7) x1)]) (rest := []) ⟨hx, hb, hml, hown, hts⟩ (c6_flag l g   (f6_has ((C.1 0).1 7) x1)) (va_cwS 1 hts gX6_joint_X6_flag rfl rfl rfl (by decide +kernel) ⟨Nat.le_of_ble_eq_true rfl, Nat.le_of_ble_eq_true rfl⟩) (z_rpre z_nil hK) rfl rfl hl.1 rfl (lv_room (Nat.le_of_ble_eq_true rfl)) dX6_joint_82 ⟨Nat.zero_le _, Nat.zero_le _⟩) ?_
          have e9a := zin hF
          exact z_ri hx hb hr hlk (congrArg (fun z => some (Value.int z)) e9a) dX6_joint_85
        · have hF := zif c4 hF
          by_cases c5 : x2 = 3
          · have hF := zit c5 hF
            refine z_tin (k := 3) (tgt := 86) hx hb dX6_joint_11 c5 ⟨by decide, by decide, rfl, by decide⟩ ?_
            refine lv_aload_n hx hb dX6_joint_86 rfl (lv_at hl 0 rfl) ?_
            refine z_get (ci := 6) (v := .ref (q (13 + 2))) (C := RX6) (T := TX6) (N := 13) hx hb hts inX6 hown hK hP 0 (cwp_0 g q C) rfl 3 (by decide) (List.mem_of_getElem? (i := 1) rfl) rfl rfl dX6_joint_87 ?_
            refine lv_aload_n hx hb dX6_joint_90 rfl (lv_at hl 0 rfl) ?_
            refine z_get (ci := 6) (v := .ref (q (13 + 2))) (C := RX6) (T := TX6) (N := 13) hx hb hts inX6 hown hK hP 0 (cwp_0 g q C) rfl 3 (by decide) (List.mem_of_getElem? (i := 1) rfl) rfl rfl dX6_joint_91 ?_
            refine lv_aload_n hx hb dX6_joint_94 rfl (lv_at hl 0 rfl) ?_
            refine z_get (ci := 6) (v := .ref (q 23)) (C := RX6) (T := TX6) (N := 13) hx hb hts inX6 hown hK hP 0 (cwp_0 g q C) rfl 4 (by decide) (List.mem_of_getElem? (i := 4) rfl) rfl rfl dX6_joint_95 ?_
            refine z_get (ci := 2) (v := .int ((C.1 0).1 8)) (C := RX2) (T := TX2) (N := 9) hx hb hts inX2 hown hK hP 23 (cwp_23 g q C) rfl 8 (by decide) (List.mem_of_getElem? (i := 6) rfl) rfl rfl dX6_joint_98 ?_
            refine z_rgo (va_runV (As := [.int ((C.1 0).1 8)]) (rest := [.ref (q (13 + 2))]) ⟨hx, hb, hml, hown, hts⟩ (c3_tide l g q (13 + 2) ((C.2.2.2.2.2.1).1) ((C.1 0).1 8)) (cwV 1 hts gX6_joint_X3_tide rfl rfl rfl (by decide +kernel) ⟨Nat.le_of_ble_eq_true rfl, Nat.le_of_ble_eq_true rfl⟩) (z_rpreV (ci := 3) (q := (RX3, TX3, 13)) (q0 := 0) (z_Psub hP _ (cwm_15_8_22 g q C)) hK rfl rfl) rfl rfl hl.1 rfl (lv_room (Nat.le_of_ble_eq_true rfl)) dX6_joint_101 ⟨Nat.zero_le _, Nat.zero_le _⟩) ?_
            obtain ⟨v6, hv6, hF⟩ := zob hF
            refine z_rgo (va_runV (As := [.int (f3_tide ((C.2.2.2.2.2.1).1) ((C.1 0).1 8))]) (rest := []) ⟨hx, hb, hml, hown, hts⟩ (c3_under l g q (13 + 2) ((C.2.2.2.2.2.1).1) (f3_tide ((C.2.2.2.2.2.1).1) ((C.1 0).1 8)) v6 hv6) (cwV 1 hts gX6_joint_X3_under rfl rfl rfl (by decide +kernel) ⟨Nat.le_of_ble_eq_true rfl, Nat.le_of_ble_eq_true rfl⟩) (z_rpreV (ci := 3) (q := (RX3, TX3, 13)) (q0 := 0) (z_Psub hP _ (cwm_15_8_22 g q C)) hK rfl rfl) rfl rfl hl.1 rfl (lv_room (Nat.le_of_ble_eq_true rfl)) dX6_joint_104 ⟨Nat.zero_le _, Nat.zero_le _⟩) ?_
            refine lv_iload_n hx hb dX6_joint_107 rfl (lv_at hl 1 rfl) ?_
            refine z_rgo (va_runS (As := [.int v6, .int x1]) (rest := []) ⟨hx, hb, hml, hown, hts⟩ (c6_has l g   v6 x1) (va_cwS 2 hts gX6_joint_X6_has rfl rfl rfl (by decide +kernel) ⟨Nat.le_of_ble_eq_true rfl, Nat.le_of_ble_eq_true rfl⟩) (z_rpre z_nil hK) rfl rfl hl.1 rfl (lv_room (Nat.le_of_ble_eq_true rfl)) dX6_joint_108 ⟨Nat.zero_le _, Nat.zero_le _⟩) ?_
            refine z_rgo (va_runS (As := [.int (f6_has v6 x1)]) (rest := []) ⟨hx, hb, hml, hown, hts⟩ (c6_flag l g   (f6_has v6 x1)) (va_cwS 1 hts gX6_joint_X6_flag rfl rfl rfl (by decide +kernel) ⟨Nat.le_of_ble_eq_true rfl, Nat.le_of_ble_eq_true rfl⟩) (z_rpre z_nil hK) rfl rfl hl.1 rfl (lv_room (Nat.le_of_ble_eq_true rfl)) dX6_joint_111 ⟨Nat.zero_le _, Nat.zero_le _⟩) ?_
            have e9a := zin hF
            exact z_ri hx hb hr hlk (congrArg (fun z => some (Value.int z)) e9a) dX6_joint_114
          · have hF := zif c5 hF
            by_cases c7 : x2 = 4
            · have hF := zit c7 hF
              refine z_tin (k := 4) (tgt := 115) hx hb dX6_joint_11 c7 ⟨by decide, by decide, rfl, by decide⟩ ?_
              refine lv_aload_n hx hb dX6_joint_115 rfl (lv_at hl 0 rfl) ?_
              refine z_get (ci := 6) (v := .ref (q (13 + 2))) (C := RX6) (T := TX6) (N := 13) hx hb hts inX6 hown hK hP 0 (cwp_0 g q C) rfl 3 (by decide) (List.mem_of_getElem? (i := 1) rfl) rfl rfl dX6_joint_116 ?_
              refine lv_iload_n hx hb dX6_joint_119 rfl (lv_at hl 1 rfl) ?_
              refine lv_aload_n hx hb dX6_joint_120 rfl (lv_at hl 0 rfl) ?_
              refine z_get (ci := 6) (v := .ref (q 23)) (C := RX6) (T := TX6) (N := 13) hx hb hts inX6 hown hK hP 0 (cwp_0 g q C) rfl 4 (by decide) (List.mem_of_getElem? (i := 4) rfl) rfl rfl dX6_joint_121 ?_
              refine z_get (ci := 2) (v := .int ((C.1 0).1 6)) (C := RX2) (T := TX2) (N := 9) hx hb hts inX2 hown hK hP 23 (cwp_23 g q C) rfl 6 (by decide) (List.mem_of_getElem? (i := 7) rfl) rfl rfl dX6_joint_124 ?_
              obtain ⟨v8, hv8, hF⟩ := zob hF
              refine z_rgo (va_runV (As := [.int x1, .int ((C.1 0).1 6)]) (rest := []) ⟨hx, hb, hml, hown, hts⟩ (c3_beside l g q (13 + 2) ((C.2.2.2.2.2.1).1) x1 ((C.1 0).1 6) v8 hv8) (cwV 2 hts gX6_joint_X3_beside rfl rfl rfl (by decide +kernel) ⟨Nat.le_of_ble_eq_true rfl, Nat.le_of_ble_eq_true rfl⟩) (z_rpreV (ci := 3) (q := (RX3, TX3, 13)) (q0 := 0) (z_Psub hP _ (cwm_15_8_22 g q C)) hK rfl rfl) rfl rfl hl.1 rfl (lv_room (Nat.le_of_ble_eq_true rfl)) dX6_joint_127 ⟨Nat.zero_le _, Nat.zero_le _⟩) ?_
              have e9a := zin hF
              exact z_ri hx hb hr hlk (congrArg (fun z => some (Value.int z)) e9a) dX6_joint_130
            · have hF := zif c7 hF
              refine z_tout hx hb dX6_joint_11 [0, 1, 2, 3, 4] (fun k hk => ?_) rfl (tgt := 131) (by decide) ?_
              · simp only [List.mem_cons, List.not_mem_nil, or_false] at hk
                rcases hk with rfl | rfl | rfl | rfl | rfl <;> assumption
              · refine lv_bipush (v := (-2)) hx hb dX6_joint_131 (by decide) ?_
                have e9a := zin hF
                exact z_ri hx hb hr hlk (congrArg (fun z => some (Value.int z)) e9a) dX6_joint_133
  · have hF := zif c1 hF
    refine lv_iconst (v := (-1)) hx hb dX6_joint_8 (by decide) ?_
    have e9a := zin hF
    exact z_ri hx hb hr hlk (congrArg (fun z => some (Value.int z)) e9a) dX6_joint_9
def f6_judge_l39 (x1 : Int32) (x2 : Int32) : Nat → Int32 → Cs → Option (Int32 × Cs)
  | 0, _, _ => none
  | n39 + 1, y8, C9 => if x1 ≤ y8 then some ((-9), C9) else (f6_doingOf x2 x1 y8).bind fun v11 => (f6_isTried C9 (v11 / 10) (v11 - v11 / 10 * 10)).bind fun (v13, C12) => if v13 = 0 then some (y8, C12) else f6_judge_l39 x1 x2 n39 (y8 + 1) C12
def f6_judge (C : Cs) (x1 : Int32) (x2 : Int32) : Option (Int32 × Cs) := if x1 < 1 then some ((-2), C) else if 4 < x1 then some ((-2), C) else if x2 < 0 then some ((-2), C) else (f6_doingOf x2 x1 (-1)).bind fun v4 => if v4 ≤ 0 then (f2_copy (C.1 1) (C.1 0)).bind fun M6 => bd (cM C 1 M6) (fun (C7 : Cs) => f6_judge_l39 x1 x2 FU 0 C7) else some ((-2), C)
abbrev rmX6_judge : Room := { frames := 6, cells := 0, slots := 0, locals := 140 }
set_option maxHeartbeats 4000000 in
set_option maxRecDepth 100000 in
theorem c6_judge (l : Launch) (g : zG) (q : Nat → Nat) (C : Cs) (x1 : Int32) (x2 : Int32) (ro : Int32) (C_o : Cs) (hF : f6_judge C x1 x2 = some (ro, C_o)) : zRW l g yX6_judge wsX6_judge rmX6_judge [.ref (q 0), .int x1, .int x2] (CW g q C) (some (.int ro)) (CW g q C_o) := by
  refine zRW_of (cc := cX6_judge) (maxL := 5) (ret := (some .int)) (by decide) rfl (Nat.le_of_ble_eq_true rfl) ?_
  intro p e s m args below meth c A H locs ls hx hb hr hml hts hown hlk hK hA hP hD hS hl
  have hown : s.vm.findClass RX6 = some m.cls := hown
  have hl : lv_has ls 5 [(0, .ref (q 0)), (1, .int x1), (2, .int x2)] := hl
  have inX6 : ∀ w ∈ wsX60, w ∈ wsX6_judge := fun _ h => List.mem_cons_of_mem _ (List.mem_append_left _ (List.mem_append_left _ (List.mem_append_right _ h)))
  unfold f6_judge at hF
  refine lv_iload_n hx hb dX6_judge_0 rfl (lv_at hl 1 rfl) ?_
  refine lv_iconst (v := 1) hx hb dX6_judge_1 (by decide) ?_
  refine lv_icmp_lt (tgt := 23) hx hb dX6_judge_2 (by decide) (fun c1 => ?_) (fun c1 => ?_)
  · have hF := zit c1 hF
    refine lv_bipush (v := (-2)) hx hb dX6_judge_23 (by decide) ?_
    obtain ⟨e9a, e9b⟩ := Prod.mk.inj (zin hF)
    exact z_wi hx hb hr hlk hP hD hS (congrArg (fun z => some (Value.int z)) e9a) (by rw [e9b]) dX6_judge_25
  · have hF := zif c1 hF
    refine lv_iload_n hx hb dX6_judge_5 rfl (lv_at hl 1 rfl) ?_
    refine lv_iconst (v := 4) hx hb dX6_judge_6 (by decide) ?_
    refine lv_icmp_gt (tgt := 23) hx hb dX6_judge_7 (by decide) (fun c2 => ?_) (fun c2 => ?_)
    · have hF := zit c2 hF
      refine lv_bipush (v := (-2)) hx hb dX6_judge_23 (by decide) ?_
      obtain ⟨e9a, e9b⟩ := Prod.mk.inj (zin hF)
      exact z_wi hx hb hr hlk hP hD hS (congrArg (fun z => some (Value.int z)) e9a) (by rw [e9b]) dX6_judge_25
    · have hF := zif c2 hF
      refine lv_iload_n hx hb dX6_judge_10 rfl (lv_at hl 2 rfl) ?_
      refine lv_if_lt (tgt := 23) hx hb dX6_judge_11 (by decide) (fun c3 => ?_) (fun c3 => ?_)
      · have hF := zit c3 hF
        refine lv_bipush (v := (-2)) hx hb dX6_judge_23 (by decide) ?_
        obtain ⟨e9a, e9b⟩ := Prod.mk.inj (zin hF)
        exact z_wi hx hb hr hlk hP hD hS (congrArg (fun z => some (Value.int z)) e9a) (by rw [e9b]) dX6_judge_25
      · have hF := zif c3 hF
        refine lv_iload_n hx hb dX6_judge_14 rfl (lv_at hl 2 rfl) ?_
        refine lv_iload_n hx hb dX6_judge_15 rfl (lv_at hl 1 rfl) ?_
        refine lv_iconst (v := (-1)) hx hb dX6_judge_16 (by decide) ?_
        obtain ⟨v4, hv4, hF⟩ := zob hF
        refine z_rgo (va_runS (As := [.int x2, .int x1, .int (-1)]) (rest := []) ⟨hx, hb, hml, hown, hts⟩ (c6_doingOf l g   x2 x1 (-1) v4 hv4) (va_cwS 3 hts gX6_judge_X6_doingOf rfl rfl rfl (by decide +kernel) ⟨Nat.le_of_ble_eq_true rfl, Nat.le_of_ble_eq_true rfl⟩) (z_rpre z_nil hK) rfl rfl hl.1 rfl (lv_room (Nat.le_of_ble_eq_true rfl)) dX6_judge_17 ⟨Nat.zero_le _, Nat.zero_le _⟩) ?_
        refine lv_if_le (tgt := 26) hx hb dX6_judge_20 (by decide) (fun c5 => ?_) (fun c5 => ?_)
        · have hF := zit c5 hF
          refine lv_aload_n hx hb dX6_judge_26 rfl (lv_at hl 0 rfl) ?_
          refine z_get (ci := 6) (v := .ref (q 28)) (C := RX6) (T := TX6) (N := 13) hx hb hts inX6 hown hK hP 0 (cwp_0 g q C) rfl 5 (by decide) (List.mem_of_getElem? (i := 1) rfl) rfl rfl dX6_judge_27 ?_
          refine lv_aload_n hx hb dX6_judge_30 rfl (lv_at hl 0 rfl) ?_
          refine z_get (ci := 6) (v := .ref (q 23)) (C := RX6) (T := TX6) (N := 13) hx hb hts inX6 hown hK hP 0 (cwp_0 g q C) rfl 4 (by decide) (List.mem_of_getElem? (i := 2) rfl) rfl rfl dX6_judge_31 ?_
          obtain ⟨M6, hM6, hF⟩ := zob hF
          refine z_wgo (wn := CW g q (cM C 1 M6)) (va_runV (As := [.ref (q 23)]) (rest := []) ⟨hx, hb, hml, hown, hts⟩ ((c2_copy l g q 28 q 23 (C.1 1) (C.1 0)   M6 hM6) H.size) (cwV 1 hts gX6_judge_X2_copy rfl rfl rfl (by decide +kernel) ⟨Nat.le_of_ble_eq_true rfl, Nat.le_of_ble_eq_true rfl⟩) (z_wpreV (ci := 2) (q := (RX2, TX2, 9)) (q0 := 0) (z_Psub hP _ (cwm_28_10_27 g q C)) hK (z_any (hD.sub _ (by decide) (cwm_28_10_27 g q C))) rfl rfl) rfl rfl hl.1 rfl (lv_room (Nat.le_of_ble_eq_true rfl)) dX6_judge_34 ⟨Nat.zero_le _, Nat.zero_le _⟩) hP hD hS hA _ (cwm_28_10_27 g q C) (by decide) rfl (cww_28_10_27 g q C M6) (fun H locs hP hD hS => ?_)
          show W p l e (headSpec wsX6_judge rmX6_judge).room s m args below meth c H locs 0 0 (MQ below (zWQ g A (CW g q C_o) (some (.int ro))) args s 0 0 A) (F0 m 37 ls [])
          obtain ⟨C7, eC7⟩ : ∃ y : Cs, y = (cM C 1 M6) := ⟨_, rfl⟩
          rw [← eC7] at hP hD
          have hF := bd_eq eC7 hF
          refine lv_iconst (v := 0) hx hb dX6_judge_37 (by decide) ?_
          refine lv_istore_n (lv' := [(3, .int 0), (0, .ref (q 0)), (1, .int x1), (2, .int x2)]) hx hb dX6_judge_38 rfl hl (by decide) rfl (fun ls hl => ?_)
          have L39 : ∀ (n39 : Nat) (y8 : Int32) (C9 : Cs) (H : Heap) (locs : List Loc) (ls : Array Slot), f6_judge_l39 x1 x2 n39 y8 C9 = some (ro, C_o) → va_P (zD g) vwCl (CW g q C9) H → va_D A (CW g q C9) → va_S A s.heap H locs → lv_has ls 5 [(0, .ref (q 0)), (1, .int x1), (2, .int x2), (3, .int y8)] → W p l e (headSpec wsX6_judge rmX6_judge).room s m args below meth c H locs 0 0 (MQ below (zWQ g A (CW g q C_o) (some (.int ro))) args s 0 0 A) (F0 m 39 ls []) := by
            intro n39
            induction n39 with
            | zero =>
              intro y8 C9 H locs ls hF hP hD hS hl
              exact absurd (show (none : Option (Int32 × Cs)) = some _ from hF) (fun h9 => by cases h9)
            | succ n39 ih39 =>
              intro y8 C9 H locs ls hF hP hD hS hl
              rw [f6_judge_l39] at hF
              refine lv_iload_n hx hb dX6_judge_39 rfl (lv_at hl 3 rfl) ?_
              refine lv_iload_n hx hb dX6_judge_40 rfl (lv_at hl 1 rfl) ?_
              refine lv_icmp_ge (tgt := 77) hx hb dX6_judge_41 (by decide) (fun c10 => ?_) (fun c10 => ?_)
              · have hF := zit c10 hF
                refine lv_bipush (v := (-9)) hx hb dX6_judge_77 (by decide) ?_
                obtain ⟨e9a, e9b⟩ := Prod.mk.inj (zin hF)
                exact z_wi hx hb hr hlk hP hD hS (congrArg (fun z => some (Value.int z)) e9a) (by rw [e9b]) dX6_judge_79
              · have hF := zif c10 hF
                refine lv_iload_n hx hb dX6_judge_44 rfl (lv_at hl 2 rfl) ?_
                refine lv_iload_n hx hb dX6_judge_45 rfl (lv_at hl 1 rfl) ?_
                refine lv_iload_n hx hb dX6_judge_46 rfl (lv_at hl 3 rfl) ?_
                obtain ⟨v11, hv11, hF⟩ := zob hF
                refine z_rgo (va_runS (As := [.int x2, .int x1, .int y8]) (rest := []) ⟨hx, hb, hml, hown, hts⟩ (c6_doingOf l g   x2 x1 y8 v11 hv11) (va_cwS 3 hts gX6_judge_X6_doingOf rfl rfl rfl (by decide +kernel) ⟨Nat.le_of_ble_eq_true rfl, Nat.le_of_ble_eq_true rfl⟩) (z_rpre z_nil hK) rfl rfl hl.1 rfl (lv_room (Nat.le_of_ble_eq_true rfl)) dX6_judge_47 ⟨Nat.zero_le _, Nat.zero_le _⟩) ?_
                refine lv_istore (lv' := [(4, .int v11), (0, .ref (q 0)), (1, .int x1), (2, .int x2), (3, .int y8)]) hx hb dX6_judge_50 hl (by decide) rfl (fun ls hl => ?_)
                refine lv_aload_n hx hb dX6_judge_52 rfl (lv_at hl 1 rfl) ?_
                refine lv_iload hx hb dX6_judge_53 (lv_at hl 0 rfl) ?_
                refine lv_bipush (v := 10) hx hb dX6_judge_55 (by decide) ?_
                refine lv_idiv hx hb dX6_judge_57 (by decide) ?_
                refine lv_iload hx hb dX6_judge_58 (lv_at hl 0 rfl) ?_
                refine lv_bipush (v := 10) hx hb dX6_judge_60 (by decide) ?_
                refine lv_irem hx hb dX6_judge_62 (by decide) ?_
                obtain ⟨⟨v13, C12⟩, hC12, hF⟩ := zob hF
                refine z_wgoW (va_runV (As := [.int (v11 / 10), .int (v11 - v11 / 10 * 10)]) (rest := []) ⟨hx, hb, hml, hown, hts⟩ ((c6_isTried l g q C9 (v11 / 10) (v11 - v11 / 10 * 10) v13  C12 hC12) H.size) (cwV 2 hts gX6_judge_X6_isTried rfl rfl rfl (by decide +kernel) ⟨Nat.le_of_ble_eq_true rfl, Nat.le_of_ble_eq_true rfl⟩) (z_wpreV (ci := 6) (q := (RX6, TX6, 13)) (q0 := 0) hP hK (z_any hD) rfl rfl) rfl rfl hl.1 rfl (lv_room (Nat.le_of_ble_eq_true rfl)) dX6_judge_63 ⟨Nat.zero_le _, Nat.zero_le _⟩) hP hD hS hA (fun H locs hP hD hS => ?_)
                show W p l e (headSpec wsX6_judge rmX6_judge).room s m args below meth c H locs 0 0 (MQ below (zWQ g A (CW g q C_o) (some (.int ro))) args s 0 0 A) (F0 m 66 ls [.int v13])
                refine lv_if_ne (tgt := 71) hx hb dX6_judge_66 (by decide) (fun c14 => ?_) (fun c14 => ?_)
                · have hF := zif c14 hF
                  refine lv_iinc (v := (y8 + 1)) (lv' := [(3, .int (y8 + 1)), (4, .int v11), (0, .ref (q 0)), (1, .int x1), (2, .int x2)]) hx hb dX6_judge_71 hl (k := 4) rfl rfl (by decide) rfl (fun ls hl => ?_)
                  refine lv_goto (tgt := 39) hx hb dX6_judge_74 (by decide) ?_
                  exact ih39 (y8 + 1) C12 H locs ls hF hP hD hS (lv_sub hl [2, 3, 4, 0] rfl)
                · have hF := zit c14 hF
                  refine lv_iload_n hx hb dX6_judge_69 rfl (lv_at hl 4 rfl) ?_
                  obtain ⟨e9a, e9b⟩ := Prod.mk.inj (zin hF)
                  exact z_wi hx hb hr hlk hP hD hS (congrArg (fun z => some (Value.int z)) e9a) (by rw [e9b]) dX6_judge_70
          exact L39 FU 0 C7 H locs ls hF hP hD hS (lv_sub hl [1, 2, 3, 0] rfl)
        · have hF := zif c5 hF
          refine lv_bipush (v := (-2)) hx hb dX6_judge_23 (by decide) ?_
          obtain ⟨e9a, e9b⟩ := Prod.mk.inj (zin hF)
          exact z_wi hx hb hr hlk hP hD hS (congrArg (fun z => some (Value.int z)) e9a) (by rw [e9b]) dX6_judge_25
def f6_keep (C : Cs) (x1 : Int32) : Option (Int32 × Cs) := if (f6_isNoChoice x1) = 0 then if x1 = 0 then (f2_copy (C.1 2) (C.1 0)).bind fun M3 => bd (cM C 2 M3) (fun (C4 : Cs) => bd (cKp C4 ((C4.2.2.2.2.2.2.2.2.1) ||| (f6_bit x1))) (fun (C5 : Cs) => some (((C5.1 0).1 8), C5))) else (f2_copy (C.1 3) (C.1 0)).bind fun M6 => bd (cM C 3 M6) (fun (C7 : Cs) => bd (cKp C7 ((C7.2.2.2.2.2.2.2.2.1) ||| (f6_bit x1))) (fun (C8 : Cs) => some (((C8.1 0).1 8), C8))) else some ((-1), C)
abbrev rmX6_keep : Room := { frames := 2, cells := 0, slots := 0, locals := 44 }
set_option maxHeartbeats 4000000 in
set_option maxRecDepth 100000 in
theorem c6_keep (l : Launch) (g : zG) (q : Nat → Nat) (C : Cs) (x1 : Int32) (ro : Int32) (C_o : Cs) (hF : f6_keep C x1 = some (ro, C_o)) : zRW l g yX6_keep wsX6_keep rmX6_keep [.ref (q 0), .int x1] (CW g q C) (some (.int ro)) (CW g q C_o) := by
  refine zRW_of (cc := cX6_keep) (maxL := 2) (ret := (some .int)) (by decide) rfl (Nat.le_of_ble_eq_true rfl) ?_
  intro p e s m args below meth c A H locs ls hx hb hr hml hts hown hlk hK hA hP hD hS hl
  have hown : s.vm.findClass RX6 = some m.cls := hown
  have hl : lv_has ls 2 [(0, .ref (q 0)), (1, .int x1)] := hl
  have inX2 : ∀ w ∈ wsX20, w ∈ wsX6_keep := fun _ h => List.mem_cons_of_mem _ (List.mem_append_right _ h)
  have inX6 : ∀ w ∈ wsX60, w ∈ wsX6_keep := fun _ h => List.mem_cons_of_mem _ (List.mem_append_left _ (List.mem_append_right _ h))
  unfold f6_keep at hF
  refine lv_iload_n hx hb dX6_keep_0 rfl (lv_at hl 1 rfl) ?_
  refine z_rgo (va_runS (As := [.int x1]) (rest := []) ⟨hx, hb, hml, hown, hts⟩ (c6_isNoChoice l g   x1) (va_cwS 1 hts gX6_keep_X6_isNoChoice rfl rfl rfl (by decide +kernel) ⟨Nat.le_of_ble_eq_true rfl, Nat.le_of_ble_eq_true rfl⟩) (z_rpre z_nil hK) rfl rfl hl.1 rfl (lv_room (Nat.le_of_ble_eq_true rfl)) dX6_keep_1 ⟨Nat.zero_le _, Nat.zero_le _⟩) ?_
  refine lv_if_eq (tgt := 9) hx hb dX6_keep_4 (by decide) (fun c1 => ?_) (fun c1 => ?_)
  · have hF := zit c1 hF
    refine lv_aload_n hx hb dX6_keep_9 rfl (lv_at hl 0 rfl) ?_
    refine lv_iload_n hx hb dX6_keep_10 rfl (lv_at hl 1 rfl) ?_
    by_cases c2 : x1 = 0
    · have hF := zit c2 hF
      refine z_rgo (va_runV (As := [.int x1]) (rest := []) ⟨hx, hb, hml, hown, hts⟩ (c6_slot0 l g q C x1 c2) (cwV 1 hts gX6_keep_X6_slotOf rfl rfl rfl (by decide +kernel) ⟨Nat.le_of_ble_eq_true rfl, Nat.le_of_ble_eq_true rfl⟩) (z_rpreV (ci := 6) (q := (RX6, TX6, 13)) (q0 := 0) hP hK rfl rfl) rfl rfl hl.1 rfl (lv_room (Nat.le_of_ble_eq_true rfl)) dX6_keep_11 ⟨Nat.zero_le _, Nat.zero_le _⟩) ?_
      refine lv_aload_n hx hb dX6_keep_14 rfl (lv_at hl 0 rfl) ?_
      refine z_get (ci := 6) (v := .ref (q 23)) (C := RX6) (T := TX6) (N := 13) hx hb hts inX6 hown hK hP 0 (cwp_0 g q C) rfl 4 (by decide) (List.mem_of_getElem? (i := 1) rfl) rfl rfl dX6_keep_15 ?_
      obtain ⟨M3, hM3, hF⟩ := zob hF
      refine z_wgo (wn := CW g q (cM C 2 M3)) (va_runV (As := [.ref (q 23)]) (rest := []) ⟨hx, hb, hml, hown, hts⟩ ((c2_copy l g q 36 q 23 (C.1 2) (C.1 0)   M3 hM3) H.size) (cwV 1 hts gX6_keep_X2_copy rfl rfl rfl (by decide +kernel) ⟨Nat.le_of_ble_eq_true rfl, Nat.le_of_ble_eq_true rfl⟩) (z_wpreV (ci := 2) (q := (RX2, TX2, 9)) (q0 := 0) (z_Psub hP _ (cwm_36_10_27 g q C)) hK (z_any (hD.sub _ (by decide) (cwm_36_10_27 g q C))) rfl rfl) rfl rfl hl.1 rfl (lv_room (Nat.le_of_ble_eq_true rfl)) dX6_keep_18 ⟨Nat.zero_le _, Nat.zero_le _⟩) hP hD hS hA _ (cwm_36_10_27 g q C) (by decide) rfl (cww_36_10_27 g q C M3) (fun H locs hP hD hS => ?_)
      show W p l e (headSpec wsX6_keep rmX6_keep).room s m args below meth c H locs 0 0 (MQ below (zWQ g A (CW g q C_o) (some (.int ro))) args s 0 0 A) (F0 m 21 ls [])
      obtain ⟨C4, eC4⟩ : ∃ y : Cs, y = (cM C 2 M3) := ⟨_, rfl⟩
      rw [← eC4] at hP hD
      have hF := bd_eq eC4 hF
      refine lv_aload_n hx hb dX6_keep_21 rfl (lv_at hl 0 rfl) ?_
      refine lv_dup hx hb dX6_keep_22 rfl ?_
      refine z_get (ci := 6) (v := .int (C4.2.2.2.2.2.2.2.2.1)) (C := RX6) (T := TX6) (N := 13) hx hb hts inX6 hown hK hP 0 (cwp_0 g q C4) rfl 11 (by decide) (List.mem_of_getElem? (i := 2) rfl) rfl rfl dX6_keep_23 ?_
      refine lv_iload_n hx hb dX6_keep_26 rfl (lv_at hl 1 rfl) ?_
      refine z_rgo (va_runS (As := [.int x1]) (rest := [.int (C4.2.2.2.2.2.2.2.2.1), .ref (q 0)]) ⟨hx, hb, hml, hown, hts⟩ (c6_bit l g   x1) (va_cwS 1 hts gX6_keep_X6_bit rfl rfl rfl (by decide +kernel) ⟨Nat.le_of_ble_eq_true rfl, Nat.le_of_ble_eq_true rfl⟩) (z_rpre z_nil hK) rfl rfl hl.1 rfl (lv_room (Nat.le_of_ble_eq_true rfl)) dX6_keep_27 ⟨Nat.zero_le _, Nat.zero_le _⟩) ?_
      refine lv_ior hx hb dX6_keep_30 ?_
      refine z_put (ci := 6) (v := .int ((C4.2.2.2.2.2.2.2.2.1) ||| (f6_bit x1))) (C := RX6) (T := TX6) (N := 13) (ws' := CW g q (cKp C4 ((C4.2.2.2.2.2.2.2.2.1) ||| (f6_bit x1)))) hx hb hts inX6 tyX6 tyX6_ok nmX6 hown hK hP hD hS 0 (cwp_0 g q C4) rfl 11 (by decide) (List.mem_of_getElem? (i := 2) rfl) rfl rfl rfl rfl (Nat.le_of_ble_eq_true rfl) (cwst_0_11 g q C4 ((C4.2.2.2.2.2.2.2.2.1) ||| (f6_bit x1))) dX6_keep_31 (fun H locs hP hD hS => ?_)
      obtain ⟨C5, eC5⟩ : ∃ y : Cs, y = (cKp C4 ((C4.2.2.2.2.2.2.2.2.1) ||| (f6_bit x1))) := ⟨_, rfl⟩
      rw [← eC5] at hP hD
      have hF := bd_eq eC5 hF
      refine lv_aload_n hx hb dX6_keep_34 rfl (lv_at hl 0 rfl) ?_
      refine z_get (ci := 6) (v := .ref (q 23)) (C := RX6) (T := TX6) (N := 13) hx hb hts inX6 hown hK hP 0 (cwp_0 g q C5) rfl 4 (by decide) (List.mem_of_getElem? (i := 1) rfl) rfl rfl dX6_keep_35 ?_
      refine z_get (ci := 2) (v := .int ((C5.1 0).1 8)) (C := RX2) (T := TX2) (N := 9) hx hb hts inX2 hown hK hP 23 (cwp_23 g q C5) rfl 8 (by decide) (List.mem_of_getElem? (i := 3) rfl) rfl rfl dX6_keep_38 ?_
      obtain ⟨e9a, e9b⟩ := Prod.mk.inj (zin hF)
      exact z_wi hx hb hr hlk hP hD hS (congrArg (fun z => some (Value.int z)) e9a) (by rw [e9b]) dX6_keep_41
    · have hF := zif c2 hF
      refine z_rgo (va_runV (As := [.int x1]) (rest := []) ⟨hx, hb, hml, hown, hts⟩ (c6_slot1 l g q C x1 c2) (cwV 1 hts gX6_keep_X6_slotOf rfl rfl rfl (by decide +kernel) ⟨Nat.le_of_ble_eq_true rfl, Nat.le_of_ble_eq_true rfl⟩) (z_rpreV (ci := 6) (q := (RX6, TX6, 13)) (q0 := 0) hP hK rfl rfl) rfl rfl hl.1 rfl (lv_room (Nat.le_of_ble_eq_true rfl)) dX6_keep_11 ⟨Nat.zero_le _, Nat.zero_le _⟩) ?_
      refine lv_aload_n hx hb dX6_keep_14 rfl (lv_at hl 0 rfl) ?_
      refine z_get (ci := 6) (v := .ref (q 23)) (C := RX6) (T := TX6) (N := 13) hx hb hts inX6 hown hK hP 0 (cwp_0 g q C) rfl 4 (by decide) (List.mem_of_getElem? (i := 1) rfl) rfl rfl dX6_keep_15 ?_
      obtain ⟨M6, hM6, hF⟩ := zob hF
      refine z_wgo (wn := CW g q (cM C 3 M6)) (va_runV (As := [.ref (q 23)]) (rest := []) ⟨hx, hb, hml, hown, hts⟩ ((c2_copy l g q 41 q 23 (C.1 3) (C.1 0)   M6 hM6) H.size) (cwV 1 hts gX6_keep_X2_copy rfl rfl rfl (by decide +kernel) ⟨Nat.le_of_ble_eq_true rfl, Nat.le_of_ble_eq_true rfl⟩) (z_wpreV (ci := 2) (q := (RX2, TX2, 9)) (q0 := 0) (z_Psub hP _ (cwm_41_10_27 g q C)) hK (z_any (hD.sub _ (by decide) (cwm_41_10_27 g q C))) rfl rfl) rfl rfl hl.1 rfl (lv_room (Nat.le_of_ble_eq_true rfl)) dX6_keep_18 ⟨Nat.zero_le _, Nat.zero_le _⟩) hP hD hS hA _ (cwm_41_10_27 g q C) (by decide) rfl (cww_41_10_27 g q C M6) (fun H locs hP hD hS => ?_)
      show W p l e (headSpec wsX6_keep rmX6_keep).room s m args below meth c H locs 0 0 (MQ below (zWQ g A (CW g q C_o) (some (.int ro))) args s 0 0 A) (F0 m 21 ls [])
      obtain ⟨C7, eC7⟩ : ∃ y : Cs, y = (cM C 3 M6) := ⟨_, rfl⟩
      rw [← eC7] at hP hD
      have hF := bd_eq eC7 hF
      refine lv_aload_n hx hb dX6_keep_21 rfl (lv_at hl 0 rfl) ?_
      refine lv_dup hx hb dX6_keep_22 rfl ?_
      refine z_get (ci := 6) (v := .int (C7.2.2.2.2.2.2.2.2.1)) (C := RX6) (T := TX6) (N := 13) hx hb hts inX6 hown hK hP 0 (cwp_0 g q C7) rfl 11 (by decide) (List.mem_of_getElem? (i := 2) rfl) rfl rfl dX6_keep_23 ?_
      refine lv_iload_n hx hb dX6_keep_26 rfl (lv_at hl 1 rfl) ?_
      refine z_rgo (va_runS (As := [.int x1]) (rest := [.int (C7.2.2.2.2.2.2.2.2.1), .ref (q 0)]) ⟨hx, hb, hml, hown, hts⟩ (c6_bit l g   x1) (va_cwS 1 hts gX6_keep_X6_bit rfl rfl rfl (by decide +kernel) ⟨Nat.le_of_ble_eq_true rfl, Nat.le_of_ble_eq_true rfl⟩) (z_rpre z_nil hK) rfl rfl hl.1 rfl (lv_room (Nat.le_of_ble_eq_true rfl)) dX6_keep_27 ⟨Nat.zero_le _, Nat.zero_le _⟩) ?_
      refine lv_ior hx hb dX6_keep_30 ?_
      refine z_put (ci := 6) (v := .int ((C7.2.2.2.2.2.2.2.2.1) ||| (f6_bit x1))) (C := RX6) (T := TX6) (N := 13) (ws' := CW g q (cKp C7 ((C7.2.2.2.2.2.2.2.2.1) ||| (f6_bit x1)))) hx hb hts inX6 tyX6 tyX6_ok nmX6 hown hK hP hD hS 0 (cwp_0 g q C7) rfl 11 (by decide) (List.mem_of_getElem? (i := 2) rfl) rfl rfl rfl rfl (Nat.le_of_ble_eq_true rfl) (cwst_0_11 g q C7 ((C7.2.2.2.2.2.2.2.2.1) ||| (f6_bit x1))) dX6_keep_31 (fun H locs hP hD hS => ?_)
      obtain ⟨C8, eC8⟩ : ∃ y : Cs, y = (cKp C7 ((C7.2.2.2.2.2.2.2.2.1) ||| (f6_bit x1))) := ⟨_, rfl⟩
      rw [← eC8] at hP hD
      have hF := bd_eq eC8 hF
      refine lv_aload_n hx hb dX6_keep_34 rfl (lv_at hl 0 rfl) ?_
      refine z_get (ci := 6) (v := .ref (q 23)) (C := RX6) (T := TX6) (N := 13) hx hb hts inX6 hown hK hP 0 (cwp_0 g q C8) rfl 4 (by decide) (List.mem_of_getElem? (i := 1) rfl) rfl rfl dX6_keep_35 ?_
      refine z_get (ci := 2) (v := .int ((C8.1 0).1 8)) (C := RX2) (T := TX2) (N := 9) hx hb hts inX2 hown hK hP 23 (cwp_23 g q C8) rfl 8 (by decide) (List.mem_of_getElem? (i := 3) rfl) rfl rfl dX6_keep_38 ?_
      obtain ⟨e9a, e9b⟩ := Prod.mk.inj (zin hF)
      exact z_wi hx hb hr hlk hP hD hS (congrArg (fun z => some (Value.int z)) e9a) (by rw [e9b]) dX6_keep_41
  · have hF := zif c1 hF
    refine lv_iconst (v := (-1)) hx hb dX6_keep_7 (by decide) ?_
    obtain ⟨e9a, e9b⟩ := Prod.mk.inj (zin hF)
    exact z_wi hx hb hr hlk hP hD hS (congrArg (fun z => some (Value.int z)) e9a) (by rw [e9b]) dX6_keep_8
def f6_meetsAll_l2 (x1 : Int32) (C : Cs) : Nat → Int32 → Option (Int32)
  | 0, _ => none
  | n2 + 1, y1 => if (((C.2.2.2.2.2.1).1).1 4) ≤ y1 then some 1 else if (f6_has ((C.1 0).1 5) y1) = 0 then if ((f6_cell 4 (C.2.2.2.2.2.2.1) y1) &&& x1) = 0 then some 0 else f6_meetsAll_l2 x1 C n2 (y1 + 1) else f6_meetsAll_l2 x1 C n2 (y1 + 1)
def f6_meetsAll (C : Cs) (x1 : Int32) : Option (Int32) := f6_meetsAll_l2 x1 C FU 0
abbrev rmX6_meetsAll : Room := { frames := 1, cells := 0, slots := 0, locals := 21 }
set_option maxHeartbeats 4000000 in
set_option maxRecDepth 100000 in
theorem c6_meetsAll (l : Launch) (g : zG) (q : Nat → Nat) (C : Cs) (x1 : Int32) (ro : Int32) (hF : f6_meetsAll C x1 = some ro) : zRO l g yX6_meetsAll wsX6_meetsAll rmX6_meetsAll [.ref (q 0), .int x1] (CW g q C) (some (.int ro)) := by
  refine zRO_of (cc := cX6_meetsAll) (maxL := 3) (ret := (some .boolean)) (by decide) rfl (Nat.le_of_ble_eq_true rfl) ?_
  intro p e s m args below meth c ls hx hb hr hml hts hown hlk hK hP hl
  have hown : s.vm.findClass RX6 = some m.cls := hown
  have hl : lv_has ls 3 [(0, .ref (q 0)), (1, .int x1)] := hl
  have inX2 : ∀ w ∈ wsX20, w ∈ wsX6_meetsAll := fun _ h => List.mem_cons_of_mem _ (List.mem_append_right _ h)
  have inX3 : ∀ w ∈ wsX30, w ∈ wsX6_meetsAll := fun _ h => List.mem_cons_of_mem _ (List.mem_append_left _ (List.mem_append_right _ h))
  have inX6 : ∀ w ∈ wsX60, w ∈ wsX6_meetsAll := fun _ h => List.mem_cons_of_mem _ (List.mem_append_left _ (List.mem_append_left _ (List.mem_append_right _ h)))
  unfold f6_meetsAll at hF
  refine lv_iconst (v := 0) hx hb dX6_meetsAll_0 (by decide) ?_
  refine lv_istore_n (lv' := [(2, .int 0), (0, .ref (q 0)), (1, .int x1)]) hx hb dX6_meetsAll_1 rfl hl (by decide) rfl (fun ls hl => ?_)
  have L2 : ∀ (n2 : Nat) (y1 : Int32) (ls : Array Slot), f6_meetsAll_l2 x1 C n2 y1 = some ro → lv_has ls 3 [(0, .ref (q 0)), (1, .int x1), (2, .int y1)] → W p l e (headSpec wsX6_meetsAll rmX6_meetsAll).room s m args below meth c s.heap [] 0 0 (MQ below (zRQ (some (.int ro))) args s 0 0 (fun _ => False)) (F0 m 2 ls []) := by
    intro n2
    induction n2 with
    | zero =>
      intro y1 ls hF hl
      exact absurd (show (none : Option (Int32)) = some _ from hF) (fun h9 => by cases h9)
    | succ n2 ih2 =>
      intro y1 ls hF hl
      rw [f6_meetsAll_l2] at hF
      refine lv_iload_n hx hb dX6_meetsAll_2 rfl (lv_at hl 2 rfl) ?_
      refine lv_aload_n hx hb dX6_meetsAll_3 rfl (lv_at hl 0 rfl) ?_
      refine z_get (ci := 6) (v := .ref (q (13 + 2))) (C := RX6) (T := TX6) (N := 13) hx hb hts inX6 hown hK hP 0 (cwp_0 g q C) rfl 3 (by decide) (List.mem_of_getElem? (i := 1) rfl) rfl rfl dX6_meetsAll_4 ?_
      refine z_get (ci := 3) (v := .int (((C.2.2.2.2.2.1).1).1 4)) (C := RX3) (T := TX3) (N := 13) hx hb hts inX3 hown hK hP 15 (cwp_15 g q C) rfl 4 (by decide) (List.mem_of_getElem? (i := 2) rfl) rfl rfl dX6_meetsAll_7 ?_
      refine lv_icmp_ge (tgt := 48) hx hb dX6_meetsAll_10 (by decide) (fun c2 => ?_) (fun c2 => ?_)
      · have hF := zit c2 hF
        refine lv_iconst (v := 1) hx hb dX6_meetsAll_48 (by decide) ?_
        have e9a := zin hF
        exact z_rz hx hb hr hlk rfl (congrArg (fun z => some (Value.int z)) e9a) dX6_meetsAll_49
      · have hF := zif c2 hF
        refine lv_aload_n hx hb dX6_meetsAll_13 rfl (lv_at hl 0 rfl) ?_
        refine z_get (ci := 6) (v := .ref (q 23)) (C := RX6) (T := TX6) (N := 13) hx hb hts inX6 hown hK hP 0 (cwp_0 g q C) rfl 4 (by decide) (List.mem_of_getElem? (i := 3) rfl) rfl rfl dX6_meetsAll_14 ?_
        refine z_get (ci := 2) (v := .int ((C.1 0).1 5)) (C := RX2) (T := TX2) (N := 9) hx hb hts inX2 hown hK hP 23 (cwp_23 g q C) rfl 5 (by decide) (List.mem_of_getElem? (i := 4) rfl) rfl rfl dX6_meetsAll_17 ?_
        refine lv_iload_n hx hb dX6_meetsAll_20 rfl (lv_at hl 2 rfl) ?_
        refine z_rgo (va_runS (As := [.int ((C.1 0).1 5), .int y1]) (rest := []) ⟨hx, hb, hml, hown, hts⟩ (c6_has l g   ((C.1 0).1 5) y1) (va_cwS 2 hts gX6_meetsAll_X6_has rfl rfl rfl (by decide +kernel) ⟨Nat.le_of_ble_eq_true rfl, Nat.le_of_ble_eq_true rfl⟩) (z_rpre z_nil hK) rfl rfl hl.1 rfl (lv_room (Nat.le_of_ble_eq_true rfl)) dX6_meetsAll_21 ⟨Nat.zero_le _, Nat.zero_le _⟩) ?_
        refine lv_if_ne (tgt := 42) hx hb dX6_meetsAll_24 (by decide) (fun c3 => ?_) (fun c3 => ?_)
        · have hF := zif c3 hF
          refine lv_iinc (v := (y1 + 1)) (lv' := [(2, .int (y1 + 1)), (0, .ref (q 0)), (1, .int x1)]) hx hb dX6_meetsAll_42 hl (k := 2) rfl rfl (by decide) rfl (fun ls hl => ?_)
          refine lv_goto (tgt := 2) hx hb dX6_meetsAll_45 (by decide) ?_
          exact ih2 (y1 + 1) ls hF (lv_sub hl [1, 2, 0] rfl)
        · have hF := zit c3 hF
          refine lv_aload_n hx hb dX6_meetsAll_27 rfl (lv_at hl 0 rfl) ?_
          refine z_get (ci := 6) (v := .ref (q 33)) (C := RX6) (T := TX6) (N := 13) hx hb hts inX6 hown hK hP 0 (cwp_0 g q C) rfl 6 (by decide) (List.mem_of_getElem? (i := 5) rfl) rfl rfl dX6_meetsAll_28 ?_
          refine lv_iload_n hx hb dX6_meetsAll_31 rfl (lv_at hl 2 rfl) ?_
          refine z_rgo (va_runS (As := [.ref (q 33), .int y1]) (rest := []) ⟨hx, hb, hml, hown, hts⟩ (c6_cell l g (q 33) 4 (by decide) (C.2.2.2.2.2.2.1) y1) (va_cwS 2 hts gX6_meetsAll_X6_cell rfl rfl rfl (by decide +kernel) ⟨Nat.le_of_ble_eq_true rfl, Nat.le_of_ble_eq_true rfl⟩) (z_rpre (z_Psub hP _ (cwm_33_1_33 g q C)) hK) rfl rfl hl.1 rfl (lv_room (Nat.le_of_ble_eq_true rfl)) dX6_meetsAll_32 ⟨Nat.zero_le _, Nat.zero_le _⟩) ?_
          refine lv_iload_n hx hb dX6_meetsAll_35 rfl (lv_at hl 1 rfl) ?_
          refine lv_iand hx hb dX6_meetsAll_36 ?_
          refine lv_if_ne (tgt := 42) hx hb dX6_meetsAll_37 (by decide) (fun c4 => ?_) (fun c4 => ?_)
          · have hF := zif c4 hF
            refine lv_iinc (v := (y1 + 1)) (lv' := [(2, .int (y1 + 1)), (0, .ref (q 0)), (1, .int x1)]) hx hb dX6_meetsAll_42 hl (k := 2) rfl rfl (by decide) rfl (fun ls hl => ?_)
            refine lv_goto (tgt := 2) hx hb dX6_meetsAll_45 (by decide) ?_
            exact ih2 (y1 + 1) ls hF (lv_sub hl [1, 2, 0] rfl)
          · have hF := zit c4 hF
            refine lv_iconst (v := 0) hx hb dX6_meetsAll_40 (by decide) ?_
            have e9a := zin hF
            exact z_rz hx hb hr hlk rfl (congrArg (fun z => some (Value.int z)) e9a) dX6_meetsAll_41
  exact L2 FU 0 ls hF (lv_sub hl [1, 2, 0] rfl)
def f6_mend_l29 (x1 : Int32) : Nat → Int32 → Cs → Option (Int32 × Cs)
  | 0, _, _ => none
  | n29 + 1, y3, C4 => if (((C4.2.2.2.2.2.1).1).1 3) ≤ y3 then some ((-9), C4) else (f2_copy (C4.1 1) (C4.1 0)).bind fun M6 => bd (cM C4 1 M6) (fun (C7 : Cs) => (f2_turnPipe (C7.1 1) y3).bind fun M8 => bd (cM C7 1 M8) (fun (C9 : Cs) => (f2_goUntilOut (C9.1 1) ((C9.2.2.2.2.2.1).1) x1).bind fun (v11, M10) => bd (cM C9 1 M10) (fun (C12 : Cs) => if (f2_isRight (C12.1 1) ((C12.2.2.2.2.2.1).1) x1) = 0 then f6_mend_l29 x1 n29 (y3 + 1) C12 else some (y3, C12))))
def f6_mend (C : Cs) (x1 : Int32) : Option (Int32 × Cs) := if (f6_isNoWalker C x1) = 0 then if (f6_has ((C.1 0).1 5) x1) = 0 then f6_mend_l29 x1 FU 0 C else some ((-3), C) else some ((-1), C)
abbrev rmX6_mend : Room := { frames := 5, cells := 0, slots := 0, locals := 120 }
set_option maxHeartbeats 4000000 in
set_option maxRecDepth 100000 in
theorem c6_mend (l : Launch) (g : zG) (q : Nat → Nat) (C : Cs) (x1 : Int32) (ro : Int32) (C_o : Cs) (hF : f6_mend C x1 = some (ro, C_o)) : zRW l g yX6_mend wsX6_mend rmX6_mend [.ref (q 0), .int x1] (CW g q C) (some (.int ro)) (CW g q C_o) := by
  refine zRW_of (cc := cX6_mend) (maxL := 3) (ret := (some .int)) (by decide) rfl (Nat.le_of_ble_eq_true rfl) ?_
  intro p e s m args below meth c A H locs ls hx hb hr hml hts hown hlk hK hA hP hD hS hl
  have hown : s.vm.findClass RX6 = some m.cls := hown
  have hl : lv_has ls 3 [(0, .ref (q 0)), (1, .int x1)] := hl
  have inX2 : ∀ w ∈ wsX20, w ∈ wsX6_mend := fun _ h => List.mem_cons_of_mem _ (List.mem_append_left _ (List.mem_append_right _ h))
  have inX3 : ∀ w ∈ wsX30, w ∈ wsX6_mend := fun _ h => List.mem_cons_of_mem _ (List.mem_append_right _ h)
  have inX6 : ∀ w ∈ wsX60, w ∈ wsX6_mend := fun _ h => List.mem_cons_of_mem _ (List.mem_append_left _ (List.mem_append_left _ (List.mem_append_right _ h)))
  unfold f6_mend at hF
  refine lv_aload_n hx hb dX6_mend_0 rfl (lv_at hl 0 rfl) ?_
  refine lv_iload_n hx hb dX6_mend_1 rfl (lv_at hl 1 rfl) ?_
  refine z_rgo (va_runV (As := [.int x1]) (rest := []) ⟨hx, hb, hml, hown, hts⟩ (c6_isNoWalker l g q C x1) (cwV 1 hts gX6_mend_X6_isNoWalker rfl rfl rfl (by decide +kernel) ⟨Nat.le_of_ble_eq_true rfl, Nat.le_of_ble_eq_true rfl⟩) (z_rpreV (ci := 6) (q := (RX6, TX6, 13)) (q0 := 0) hP hK rfl rfl) rfl rfl hl.1 rfl (lv_room (Nat.le_of_ble_eq_true rfl)) dX6_mend_2 ⟨Nat.zero_le _, Nat.zero_le _⟩) ?_
  refine lv_if_eq (tgt := 10) hx hb dX6_mend_5 (by decide) (fun c1 => ?_) (fun c1 => ?_)
  · have hF := zit c1 hF
    refine lv_aload_n hx hb dX6_mend_10 rfl (lv_at hl 0 rfl) ?_
    refine z_get (ci := 6) (v := .ref (q 23)) (C := RX6) (T := TX6) (N := 13) hx hb hts inX6 hown hK hP 0 (cwp_0 g q C) rfl 4 (by decide) (List.mem_of_getElem? (i := 1) rfl) rfl rfl dX6_mend_11 ?_
    refine z_get (ci := 2) (v := .int ((C.1 0).1 5)) (C := RX2) (T := TX2) (N := 9) hx hb hts inX2 hown hK hP 23 (cwp_23 g q C) rfl 5 (by decide) (List.mem_of_getElem? (i := 2) rfl) rfl rfl dX6_mend_14 ?_
    refine lv_iload_n hx hb dX6_mend_17 rfl (lv_at hl 1 rfl) ?_
    refine z_rgo (va_runS (As := [.int ((C.1 0).1 5), .int x1]) (rest := []) ⟨hx, hb, hml, hown, hts⟩ (c6_has l g   ((C.1 0).1 5) x1) (va_cwS 2 hts gX6_mend_X6_has rfl rfl rfl (by decide +kernel) ⟨Nat.le_of_ble_eq_true rfl, Nat.le_of_ble_eq_true rfl⟩) (z_rpre z_nil hK) rfl rfl hl.1 rfl (lv_room (Nat.le_of_ble_eq_true rfl)) dX6_mend_18 ⟨Nat.zero_le _, Nat.zero_le _⟩) ?_
    refine lv_if_eq (tgt := 27) hx hb dX6_mend_21 (by decide) (fun c2 => ?_) (fun c2 => ?_)
    · have hF := zit c2 hF
      refine lv_iconst (v := 0) hx hb dX6_mend_27 (by decide) ?_
      refine lv_istore_n (lv' := [(2, .int 0), (0, .ref (q 0)), (1, .int x1)]) hx hb dX6_mend_28 rfl hl (by decide) rfl (fun ls hl => ?_)
      have L29 : ∀ (n29 : Nat) (y3 : Int32) (C4 : Cs) (H : Heap) (locs : List Loc) (ls : Array Slot), f6_mend_l29 x1 n29 y3 C4 = some (ro, C_o) → va_P (zD g) vwCl (CW g q C4) H → va_D A (CW g q C4) → va_S A s.heap H locs → lv_has ls 3 [(0, .ref (q 0)), (1, .int x1), (2, .int y3)] → W p l e (headSpec wsX6_mend rmX6_mend).room s m args below meth c H locs 0 0 (MQ below (zWQ g A (CW g q C_o) (some (.int ro))) args s 0 0 A) (F0 m 29 ls []) := by
        intro n29
        induction n29 with
        | zero =>
          intro y3 C4 H locs ls hF hP hD hS hl
          exact absurd (show (none : Option (Int32 × Cs)) = some _ from hF) (fun h9 => by cases h9)
        | succ n29 ih29 =>
          intro y3 C4 H locs ls hF hP hD hS hl
          rw [f6_mend_l29] at hF
          refine lv_iload_n hx hb dX6_mend_29 rfl (lv_at hl 2 rfl) ?_
          refine lv_aload_n hx hb dX6_mend_30 rfl (lv_at hl 0 rfl) ?_
          refine z_get (ci := 6) (v := .ref (q (13 + 2))) (C := RX6) (T := TX6) (N := 13) hx hb hts inX6 hown hK hP 0 (cwp_0 g q C4) rfl 3 (by decide) (List.mem_of_getElem? (i := 3) rfl) rfl rfl dX6_mend_31 ?_
          refine z_get (ci := 3) (v := .int (((C4.2.2.2.2.2.1).1).1 3)) (C := RX3) (T := TX3) (N := 13) hx hb hts inX3 hown hK hP 15 (cwp_15 g q C4) rfl 3 (by decide) (List.mem_of_getElem? (i := 4) rfl) rfl rfl dX6_mend_34 ?_
          refine lv_icmp_ge (tgt := 95) hx hb dX6_mend_37 (by decide) (fun c5 => ?_) (fun c5 => ?_)
          · have hF := zit c5 hF
            refine lv_bipush (v := (-9)) hx hb dX6_mend_95 (by decide) ?_
            obtain ⟨e9a, e9b⟩ := Prod.mk.inj (zin hF)
            exact z_wi hx hb hr hlk hP hD hS (congrArg (fun z => some (Value.int z)) e9a) (by rw [e9b]) dX6_mend_97
          · have hF := zif c5 hF
            refine lv_aload_n hx hb dX6_mend_40 rfl (lv_at hl 0 rfl) ?_
            refine z_get (ci := 6) (v := .ref (q 28)) (C := RX6) (T := TX6) (N := 13) hx hb hts inX6 hown hK hP 0 (cwp_0 g q C4) rfl 5 (by decide) (List.mem_of_getElem? (i := 5) rfl) rfl rfl dX6_mend_41 ?_
            refine lv_aload_n hx hb dX6_mend_44 rfl (lv_at hl 0 rfl) ?_
            refine z_get (ci := 6) (v := .ref (q 23)) (C := RX6) (T := TX6) (N := 13) hx hb hts inX6 hown hK hP 0 (cwp_0 g q C4) rfl 4 (by decide) (List.mem_of_getElem? (i := 1) rfl) rfl rfl dX6_mend_45 ?_
            obtain ⟨M6, hM6, hF⟩ := zob hF
            refine z_wgo (wn := CW g q (cM C4 1 M6)) (va_runV (As := [.ref (q 23)]) (rest := []) ⟨hx, hb, hml, hown, hts⟩ ((c2_copy l g q 28 q 23 (C4.1 1) (C4.1 0)   M6 hM6) H.size) (cwV 1 hts gX6_mend_X2_copy rfl rfl rfl (by decide +kernel) ⟨Nat.le_of_ble_eq_true rfl, Nat.le_of_ble_eq_true rfl⟩) (z_wpreV (ci := 2) (q := (RX2, TX2, 9)) (q0 := 0) (z_Psub hP _ (cwm_28_10_27 g q C4)) hK (z_any (hD.sub _ (by decide) (cwm_28_10_27 g q C4))) rfl rfl) rfl rfl hl.1 rfl (lv_room (Nat.le_of_ble_eq_true rfl)) dX6_mend_48 ⟨Nat.zero_le _, Nat.zero_le _⟩) hP hD hS hA _ (cwm_28_10_27 g q C4) (by decide) rfl (cww_28_10_27 g q C4 M6) (fun H locs hP hD hS => ?_)
            show W p l e (headSpec wsX6_mend rmX6_mend).room s m args below meth c H locs 0 0 (MQ below (zWQ g A (CW g q C_o) (some (.int ro))) args s 0 0 A) (F0 m 51 ls [])
            obtain ⟨C7, eC7⟩ : ∃ y : Cs, y = (cM C4 1 M6) := ⟨_, rfl⟩
            rw [← eC7] at hP hD
            have hF := bd_eq eC7 hF
            refine lv_aload_n hx hb dX6_mend_51 rfl (lv_at hl 0 rfl) ?_
            refine z_get (ci := 6) (v := .ref (q 28)) (C := RX6) (T := TX6) (N := 13) hx hb hts inX6 hown hK hP 0 (cwp_0 g q C7) rfl 5 (by decide) (List.mem_of_getElem? (i := 5) rfl) rfl rfl dX6_mend_52 ?_
            refine lv_iload_n hx hb dX6_mend_55 rfl (lv_at hl 2 rfl) ?_
            obtain ⟨M8, hM8, hF⟩ := zob hF
            refine z_wgo (wn := CW g q (cM C7 1 M8)) (va_runV (As := [.int y3]) (rest := []) ⟨hx, hb, hml, hown, hts⟩ ((c2_turnPipe l g q 28 (C7.1 1) y3  M8 hM8) H.size) (cwV 1 hts gX6_mend_X2_turnPipe rfl rfl rfl (by decide +kernel) ⟨Nat.le_of_ble_eq_true rfl, Nat.le_of_ble_eq_true rfl⟩) (z_wpreV (ci := 2) (q := (RX2, TX2, 9)) (q0 := 0) (z_Psub hP _ (cwm_28_5_32 g q C7)) hK (z_any (hD.sub _ (by decide) (cwm_28_5_32 g q C7))) rfl rfl) rfl rfl hl.1 rfl (lv_room (Nat.le_of_ble_eq_true rfl)) dX6_mend_56 ⟨Nat.zero_le _, Nat.zero_le _⟩) hP hD hS hA _ (cwm_28_5_32 g q C7) (by decide) rfl (cww_28_5_32 g q C7 M8) (fun H locs hP hD hS => ?_)
            show W p l e (headSpec wsX6_mend rmX6_mend).room s m args below meth c H locs 0 0 (MQ below (zWQ g A (CW g q C_o) (some (.int ro))) args s 0 0 A) (F0 m 59 ls [])
            obtain ⟨C9, eC9⟩ : ∃ y : Cs, y = (cM C7 1 M8) := ⟨_, rfl⟩
            rw [← eC9] at hP hD
            have hF := bd_eq eC9 hF
            refine lv_aload_n hx hb dX6_mend_59 rfl (lv_at hl 0 rfl) ?_
            refine z_get (ci := 6) (v := .ref (q 28)) (C := RX6) (T := TX6) (N := 13) hx hb hts inX6 hown hK hP 0 (cwp_0 g q C9) rfl 5 (by decide) (List.mem_of_getElem? (i := 5) rfl) rfl rfl dX6_mend_60 ?_
            refine lv_iload_n hx hb dX6_mend_63 rfl (lv_at hl 1 rfl) ?_
            refine lv_aload_n hx hb dX6_mend_64 rfl (lv_at hl 0 rfl) ?_
            refine z_get (ci := 6) (v := .ref (q (13 + 2))) (C := RX6) (T := TX6) (N := 13) hx hb hts inX6 hown hK hP 0 (cwp_0 g q C9) rfl 3 (by decide) (List.mem_of_getElem? (i := 3) rfl) rfl rfl dX6_mend_65 ?_
            obtain ⟨⟨v11, M10⟩, hM10, hF⟩ := zob hF
            refine z_wgo (wn := CW g q (cM C9 1 M10)) (va_runV (As := [.int x1, .ref (q (13 + 2))]) (rest := []) ⟨hx, hb, hml, hown, hts⟩ ((c2_goUntilOut l g q 28 q (13 + 2) (C9.1 1) ((C9.2.2.2.2.2.1).1) x1 v11  M10 hM10) H.size) (cwV 2 hts gX6_mend_X2_goUntilOut rfl rfl rfl (by decide +kernel) ⟨Nat.le_of_ble_eq_true rfl, Nat.le_of_ble_eq_true rfl⟩) (z_wpreV (ci := 2) (q := (RX2, TX2, 9)) (q0 := 0) (z_Psub hP _ (cwm_28_13_22 g q C9)) hK (z_any (hD.sub _ (by decide) (cwm_28_13_22 g q C9))) rfl rfl) rfl rfl hl.1 rfl (lv_room (Nat.le_of_ble_eq_true rfl)) dX6_mend_68 ⟨Nat.zero_le _, Nat.zero_le _⟩) hP hD hS hA _ (cwm_28_13_22 g q C9) (by decide) rfl (cww_28_13_22 g q C9 M10) (fun H locs hP hD hS => ?_)
            show W p l e (headSpec wsX6_mend rmX6_mend).room s m args below meth c H locs 0 0 (MQ below (zWQ g A (CW g q C_o) (some (.int ro))) args s 0 0 A) (F0 m 71 ls [.int v11])
            obtain ⟨C12, eC12⟩ : ∃ y : Cs, y = (cM C9 1 M10) := ⟨_, rfl⟩
            rw [← eC12] at hP hD
            have hF := bd_eq eC12 hF
            refine lv_pop hx hb dX6_mend_71 rfl ?_
            refine lv_aload_n hx hb dX6_mend_72 rfl (lv_at hl 0 rfl) ?_
            refine z_get (ci := 6) (v := .ref (q 28)) (C := RX6) (T := TX6) (N := 13) hx hb hts inX6 hown hK hP 0 (cwp_0 g q C12) rfl 5 (by decide) (List.mem_of_getElem? (i := 5) rfl) rfl rfl dX6_mend_73 ?_
            refine lv_iload_n hx hb dX6_mend_76 rfl (lv_at hl 1 rfl) ?_
            refine lv_aload_n hx hb dX6_mend_77 rfl (lv_at hl 0 rfl) ?_
            refine z_get (ci := 6) (v := .ref (q (13 + 2))) (C := RX6) (T := TX6) (N := 13) hx hb hts inX6 hown hK hP 0 (cwp_0 g q C12) rfl 3 (by decide) (List.mem_of_getElem? (i := 3) rfl) rfl rfl dX6_mend_78 ?_
            refine z_rgo (va_runV (As := [.int x1, .ref (q (13 + 2))]) (rest := []) ⟨hx, hb, hml, hown, hts⟩ (c2_isRight l g q 28 q (13 + 2) (C12.1 1) ((C12.2.2.2.2.2.1).1) x1) (cwV 2 hts gX6_mend_X2_isRight rfl rfl rfl (by decide +kernel) ⟨Nat.le_of_ble_eq_true rfl, Nat.le_of_ble_eq_true rfl⟩) (z_rpreV (ci := 2) (q := (RX2, TX2, 9)) (q0 := 0) (z_Psub hP _ (cwm_28_13_22 g q C12)) hK rfl rfl) rfl rfl hl.1 rfl (lv_room (Nat.le_of_ble_eq_true rfl)) dX6_mend_81 ⟨Nat.zero_le _, Nat.zero_le _⟩) ?_
            refine lv_if_eq (tgt := 89) hx hb dX6_mend_84 (by decide) (fun c13 => ?_) (fun c13 => ?_)
            · have hF := zit c13 hF
              refine lv_iinc (v := (y3 + 1)) (lv' := [(2, .int (y3 + 1)), (0, .ref (q 0)), (1, .int x1)]) hx hb dX6_mend_89 hl (k := 2) rfl rfl (by decide) rfl (fun ls hl => ?_)
              refine lv_goto (tgt := 29) hx hb dX6_mend_92 (by decide) ?_
              exact ih29 (y3 + 1) C12 H locs ls hF hP hD hS (lv_sub hl [1, 2, 0] rfl)
            · have hF := zif c13 hF
              refine lv_iload_n hx hb dX6_mend_87 rfl (lv_at hl 2 rfl) ?_
              obtain ⟨e9a, e9b⟩ := Prod.mk.inj (zin hF)
              exact z_wi hx hb hr hlk hP hD hS (congrArg (fun z => some (Value.int z)) e9a) (by rw [e9b]) dX6_mend_88
      exact L29 FU 0 C H locs ls hF hP hD hS (lv_sub hl [1, 2, 0] rfl)
    · have hF := zif c2 hF
      refine lv_bipush (v := (-3)) hx hb dX6_mend_24 (by decide) ?_
      obtain ⟨e9a, e9b⟩ := Prod.mk.inj (zin hF)
      exact z_wi hx hb hr hlk hP hD hS (congrArg (fun z => some (Value.int z)) e9a) (by rw [e9b]) dX6_mend_26
  · have hF := zif c1 hF
    refine lv_iconst (v := (-1)) hx hb dX6_mend_8 (by decide) ?_
    obtain ⟨e9a, e9b⟩ := Prod.mk.inj (zin hF)
    exact z_wi hx hb hr hlk hP hD hS (congrArg (fun z => some (Value.int z)) e9a) (by rw [e9b]) dX6_mend_9
def f6_net (C : Cs) : Option (Int32 × Cs) := (f4_read (C.2.2.2.2.1) (C.2.2.2.1)).bind fun (v2, R1) => bd (cCk C R1) (fun (C3 : Cs) => if v2 = (-9) then (f4_read (C3.2.2.2.2.2.1) (C3.2.2.2.1)).bind fun (v6, R5) => bd (cMk C3 R5) (fun (C7 : Cs) => (f2_begin (C7.1 0) ((C7.2.2.2.2.2.1).1)).bind fun M8 => bd (cM C7 0 M8) (fun (C9 : Cs) => bd (cRn C9 0) (fun (C10 : Cs) => bd (cKp C10 0) (fun (C11 : Cs) => some ((((100 * (((C11.2.2.2.2.2.1).1).1 2)) + (10 * (((C11.2.2.2.2.2.1).1).1 3))) + (((C11.2.2.2.2.2.1).1).1 4)), C11))))) else some ((-3), C3))
abbrev rmX6_net : Room := { frames := 6, cells := 0, slots := 0, locals := 133 }
set_option maxHeartbeats 4000000 in
set_option maxRecDepth 100000 in
theorem c6_net (l : Launch) (g : zG) (q : Nat → Nat) (C : Cs) (ro : Int32) (C_o : Cs) (hF : f6_net C = some (ro, C_o)) : zRW l g yX6_net wsX6_net rmX6_net [.ref (q 0)] (CW g q C) (some (.int ro)) (CW g q C_o) := by
  refine zRW_of (cc := cX6_net) (maxL := 1) (ret := (some .int)) (by decide) rfl (Nat.le_of_ble_eq_true rfl) ?_
  intro p e s m args below meth c A H locs ls hx hb hr hml hts hown hlk hK hA hP hD hS hl
  have hown : s.vm.findClass RX6 = some m.cls := hown
  have hl : lv_has ls 1 [(0, .ref (q 0))] := hl
  have inX3 : ∀ w ∈ wsX30, w ∈ wsX6_net := fun _ h => List.mem_cons_of_mem _ (List.mem_append_left _ (List.mem_append_left _ (List.mem_append_left _ (List.mem_append_right _ h))))
  have inX5 : ∀ w ∈ wsX50, w ∈ wsX6_net := fun _ h => List.mem_cons_of_mem _ (List.mem_append_left _ (List.mem_append_left _ (List.mem_append_left _ (List.mem_append_left _ (List.mem_append_right _ h)))))
  have inX6 : ∀ w ∈ wsX60, w ∈ wsX6_net := fun _ h => List.mem_cons_of_mem _ (List.mem_append_left _ (List.mem_append_left _ (List.mem_append_left _ (List.mem_append_left _ (List.mem_append_left _ (List.mem_append_right _ h))))))
  unfold f6_net at hF
  refine lv_aload_n hx hb dX6_net_0 rfl (lv_at hl 0 rfl) ?_
  refine z_get (ci := 6) (v := .ref (q 3)) (C := RX6) (T := TX6) (N := 13) hx hb hts inX6 hown hK hP 0 (cwp_0 g q C) rfl 1 (by decide) (List.mem_of_getElem? (i := 1) rfl) rfl rfl dX6_net_1 ?_
  refine lv_aload_n hx hb dX6_net_4 rfl (lv_at hl 0 rfl) ?_
  refine z_get (ci := 6) (v := .ref (q 1)) (C := RX6) (T := TX6) (N := 13) hx hb hts inX6 hown hK hP 0 (cwp_0 g q C) rfl 0 (by decide) (List.mem_of_getElem? (i := 2) rfl) rfl rfl dX6_net_5 ?_
  obtain ⟨⟨v2, R1⟩, hR1, hF⟩ := zob hF
  refine z_wgo (wn := CW g q (cCk C R1)) (va_runV (As := [.ref (q 1)]) (rest := []) ⟨hx, hb, hml, hown, hts⟩ ((c4_read l g q 3 q 1 (C.2.2.2.2.1) (C.2.2.2.1)  v2  R1 hR1) H.size) (cwV 1 hts gX6_net_X4_read rfl rfl rfl (by decide +kernel) ⟨Nat.le_of_ble_eq_true rfl, Nat.le_of_ble_eq_true rfl⟩) (z_wpreV (ci := 4) (q := (RX4, TX4, 4)) (q0 := 0) (z_Psub hP _ (cwm_3_12_2 g q C)) hK (z_any (hD.sub _ (by decide) (cwm_3_12_2 g q C))) rfl rfl) rfl rfl hl.1 rfl (lv_room (Nat.le_of_ble_eq_true rfl)) dX6_net_8 ⟨Nat.zero_le _, Nat.zero_le _⟩) hP hD hS hA _ (cwm_3_12_2 g q C) (by decide) rfl (cww_3_12_2 g q C R1) (fun H locs hP hD hS => ?_)
  show W p l e (headSpec wsX6_net rmX6_net).room s m args below meth c H locs 0 0 (MQ below (zWQ g A (CW g q C_o) (some (.int ro))) args s 0 0 A) (F0 m 11 ls [.int v2])
  obtain ⟨C3, eC3⟩ : ∃ y : Cs, y = (cCk C R1) := ⟨_, rfl⟩
  rw [← eC3] at hP hD
  have hF := bd_eq eC3 hF
  refine lv_bipush (v := (-9)) hx hb dX6_net_11 (by decide) ?_
  refine lv_icmp_eq (tgt := 19) hx hb dX6_net_13 (by decide) (fun c4 => ?_) (fun c4 => ?_)
  · have hF := zit c4 hF
    refine lv_aload_n hx hb dX6_net_19 rfl (lv_at hl 0 rfl) ?_
    refine z_get (ci := 6) (v := .ref (q 13)) (C := RX6) (T := TX6) (N := 13) hx hb hts inX6 hown hK hP 0 (cwp_0 g q C3) rfl 2 (by decide) (List.mem_of_getElem? (i := 3) rfl) rfl rfl dX6_net_20 ?_
    refine lv_aload_n hx hb dX6_net_23 rfl (lv_at hl 0 rfl) ?_
    refine z_get (ci := 6) (v := .ref (q 1)) (C := RX6) (T := TX6) (N := 13) hx hb hts inX6 hown hK hP 0 (cwp_0 g q C3) rfl 0 (by decide) (List.mem_of_getElem? (i := 2) rfl) rfl rfl dX6_net_24 ?_
    obtain ⟨⟨v6, R5⟩, hR5, hF⟩ := zob hF
    refine z_wgo (wn := CW g q (cMk C3 R5)) (va_runV (As := [.ref (q 1)]) (rest := []) ⟨hx, hb, hml, hown, hts⟩ ((c4_read l g q 13 q 1 (C3.2.2.2.2.2.1) (C3.2.2.2.1)  v6  R5 hR5) H.size) (cwV 1 hts gX6_net_X4_read rfl rfl rfl (by decide +kernel) ⟨Nat.le_of_ble_eq_true rfl, Nat.le_of_ble_eq_true rfl⟩) (z_wpreV (ci := 4) (q := (RX4, TX4, 4)) (q0 := 0) (z_Psub hP _ (cwm_13_12_2 g q C3)) hK (z_any (hD.sub _ (by decide) (cwm_13_12_2 g q C3))) rfl rfl) rfl rfl hl.1 rfl (lv_room (Nat.le_of_ble_eq_true rfl)) dX6_net_27 ⟨Nat.zero_le _, Nat.zero_le _⟩) hP hD hS hA _ (cwm_13_12_2 g q C3) (by decide) rfl (cww_13_12_2 g q C3 R5) (fun H locs hP hD hS => ?_)
    show W p l e (headSpec wsX6_net rmX6_net).room s m args below meth c H locs 0 0 (MQ below (zWQ g A (CW g q C_o) (some (.int ro))) args s 0 0 A) (F0 m 30 ls [.int v6])
    obtain ⟨C7, eC7⟩ : ∃ y : Cs, y = (cMk C3 R5) := ⟨_, rfl⟩
    rw [← eC7] at hP hD
    have hF := bd_eq eC7 hF
    refine lv_pop hx hb dX6_net_30 rfl ?_
    refine lv_aload_n hx hb dX6_net_31 rfl (lv_at hl 0 rfl) ?_
    refine z_get (ci := 6) (v := .ref (q 23)) (C := RX6) (T := TX6) (N := 13) hx hb hts inX6 hown hK hP 0 (cwp_0 g q C7) rfl 4 (by decide) (List.mem_of_getElem? (i := 4) rfl) rfl rfl dX6_net_32 ?_
    refine lv_aload_n hx hb dX6_net_35 rfl (lv_at hl 0 rfl) ?_
    refine z_get (ci := 6) (v := .ref (q (13 + 2))) (C := RX6) (T := TX6) (N := 13) hx hb hts inX6 hown hK hP 0 (cwp_0 g q C7) rfl 3 (by decide) (List.mem_of_getElem? (i := 5) rfl) rfl rfl dX6_net_36 ?_
    obtain ⟨M8, hM8, hF⟩ := zob hF
    refine z_wgo (wn := CW g q (cM C7 0 M8)) (va_runV (As := [.ref (q (13 + 2))]) (rest := []) ⟨hx, hb, hml, hown, hts⟩ ((c2_begin l g q 23 q (13 + 2) (C7.1 0) ((C7.2.2.2.2.2.1).1)   M8 hM8) H.size) (cwV 1 hts gX6_net_X2_begin rfl rfl rfl (by decide +kernel) ⟨Nat.le_of_ble_eq_true rfl, Nat.le_of_ble_eq_true rfl⟩) (z_wpreV (ci := 2) (q := (RX2, TX2, 9)) (q0 := 0) (z_Psub hP _ (cwm_23_13_22 g q C7)) hK (z_any (hD.sub _ (by decide) (cwm_23_13_22 g q C7))) rfl rfl) rfl rfl hl.1 rfl (lv_room (Nat.le_of_ble_eq_true rfl)) dX6_net_39 ⟨Nat.zero_le _, Nat.zero_le _⟩) hP hD hS hA _ (cwm_23_13_22 g q C7) (by decide) rfl (cww_23_13_22 g q C7 M8) (fun H locs hP hD hS => ?_)
    show W p l e (headSpec wsX6_net rmX6_net).room s m args below meth c H locs 0 0 (MQ below (zWQ g A (CW g q C_o) (some (.int ro))) args s 0 0 A) (F0 m 42 ls [])
    obtain ⟨C9, eC9⟩ : ∃ y : Cs, y = (cM C7 0 M8) := ⟨_, rfl⟩
    rw [← eC9] at hP hD
    have hF := bd_eq eC9 hF
    refine lv_aload_n hx hb dX6_net_42 rfl (lv_at hl 0 rfl) ?_
    refine z_get (ci := 6) (v := .ref (q 34)) (C := RX6) (T := TX6) (N := 13) hx hb hts inX6 hown hK hP 0 (cwp_0 g q C9) rfl 7 (by decide) (List.mem_of_getElem? (i := 6) rfl) rfl rfl dX6_net_43 ?_
    refine lv_iconst (v := 0) hx hb dX6_net_46 (by decide) ?_
    refine z_put (ci := 5) (v := .int 0) (C := RX5) (T := TX5) (N := 2) (ws' := CW g q (cRn C9 0)) hx hb hts inX5 tyX5 tyX5_ok nmX5 hown hK hP hD hS 34 (cwp_34 g q C9) rfl 1 (by decide) (List.mem_of_getElem? (i := 7) rfl) rfl rfl rfl rfl (Nat.le_of_ble_eq_true rfl) (cwst_34_1 g q C9 0) dX6_net_47 (fun H locs hP hD hS => ?_)
    obtain ⟨C10, eC10⟩ : ∃ y : Cs, y = (cRn C9 0) := ⟨_, rfl⟩
    rw [← eC10] at hP hD
    have hF := bd_eq eC10 hF
    refine lv_aload_n hx hb dX6_net_50 rfl (lv_at hl 0 rfl) ?_
    refine lv_iconst (v := 0) hx hb dX6_net_51 (by decide) ?_
    refine z_put (ci := 6) (v := .int 0) (C := RX6) (T := TX6) (N := 13) (ws' := CW g q (cKp C10 0)) hx hb hts inX6 tyX6 tyX6_ok nmX6 hown hK hP hD hS 0 (cwp_0 g q C10) rfl 11 (by decide) (List.mem_of_getElem? (i := 8) rfl) rfl rfl rfl rfl (Nat.le_of_ble_eq_true rfl) (cwst_0_11 g q C10 0) dX6_net_52 (fun H locs hP hD hS => ?_)
    obtain ⟨C11, eC11⟩ : ∃ y : Cs, y = (cKp C10 0) := ⟨_, rfl⟩
    rw [← eC11] at hP hD
    have hF := bd_eq eC11 hF
    refine lv_bipush (v := 100) hx hb dX6_net_55 (by decide) ?_
    refine lv_aload_n hx hb dX6_net_57 rfl (lv_at hl 0 rfl) ?_
    refine z_get (ci := 6) (v := .ref (q (13 + 2))) (C := RX6) (T := TX6) (N := 13) hx hb hts inX6 hown hK hP 0 (cwp_0 g q C11) rfl 3 (by decide) (List.mem_of_getElem? (i := 5) rfl) rfl rfl dX6_net_58 ?_
    refine z_get (ci := 3) (v := .int (((C11.2.2.2.2.2.1).1).1 2)) (C := RX3) (T := TX3) (N := 13) hx hb hts inX3 hown hK hP 15 (cwp_15 g q C11) rfl 2 (by decide) (List.mem_of_getElem? (i := 9) rfl) rfl rfl dX6_net_61 ?_
    refine lv_imul hx hb dX6_net_64 ?_
    refine lv_bipush (v := 10) hx hb dX6_net_65 (by decide) ?_
    refine lv_aload_n hx hb dX6_net_67 rfl (lv_at hl 0 rfl) ?_
    refine z_get (ci := 6) (v := .ref (q (13 + 2))) (C := RX6) (T := TX6) (N := 13) hx hb hts inX6 hown hK hP 0 (cwp_0 g q C11) rfl 3 (by decide) (List.mem_of_getElem? (i := 5) rfl) rfl rfl dX6_net_68 ?_
    refine z_get (ci := 3) (v := .int (((C11.2.2.2.2.2.1).1).1 3)) (C := RX3) (T := TX3) (N := 13) hx hb hts inX3 hown hK hP 15 (cwp_15 g q C11) rfl 3 (by decide) (List.mem_of_getElem? (i := 10) rfl) rfl rfl dX6_net_71 ?_
    refine lv_imul hx hb dX6_net_74 ?_
    refine lv_iadd hx hb dX6_net_75 ?_
    refine lv_aload_n hx hb dX6_net_76 rfl (lv_at hl 0 rfl) ?_
    refine z_get (ci := 6) (v := .ref (q (13 + 2))) (C := RX6) (T := TX6) (N := 13) hx hb hts inX6 hown hK hP 0 (cwp_0 g q C11) rfl 3 (by decide) (List.mem_of_getElem? (i := 5) rfl) rfl rfl dX6_net_77 ?_
    refine z_get (ci := 3) (v := .int (((C11.2.2.2.2.2.1).1).1 4)) (C := RX3) (T := TX3) (N := 13) hx hb hts inX3 hown hK hP 15 (cwp_15 g q C11) rfl 4 (by decide) (List.mem_of_getElem? (i := 11) rfl) rfl rfl dX6_net_80 ?_
    refine lv_iadd hx hb dX6_net_83 ?_
    obtain ⟨e9a, e9b⟩ := Prod.mk.inj (zin hF)
    exact z_wi hx hb hr hlk hP hD hS (congrArg (fun z => some (Value.int z)) e9a) (by rw [e9b]) dX6_net_84
  · have hF := zif c4 hF
    refine lv_bipush (v := (-3)) hx hb dX6_net_16 (by decide) ?_
    obtain ⟨e9a, e9b⟩ := Prod.mk.inj (zin hF)
    exact z_wi hx hb hr hlk hP hD hS (congrArg (fun z => some (Value.int z)) e9a) (by rw [e9b]) dX6_net_18
def f6_ordersWith (C : Cs) (x1 : Int32) : Int32 := ((f6_cell 5 zFact x1) * (f6_cell 5 zFact (((((C.2.2.2.2.2.1).1).1 4) - x1) - 1)))
abbrev rmX6_ordersWith : Room := { frames := 1, cells := 0, slots := 0, locals := 21 }
set_option maxHeartbeats 4000000 in
set_option maxRecDepth 100000 in
theorem c6_ordersWith (l : Launch) (g : zG) (t : Nat) (q : Nat → Nat) (C : Cs) (x1 : Int32) : zROF l g t yX6_ordersWith wsX6_ordersWith rmX6_ordersWith [.ref (q 0), .int x1] (CW g q C) (some (.int (f6_ordersWith C x1))) := by
  obtain ⟨ro, hF⟩ : ∃ y : Int32, f6_ordersWith C x1 = y := ⟨_, rfl⟩
  rw [hF]
  refine zROF_of (cc := cX6_ordersWith) (maxL := 2) (ret := (some .int)) (by decide) rfl (Nat.le_of_ble_eq_true rfl) ?_
  intro p e s m args below meth c ls hx hb hr hml hts hown hlk hK hP hZ hS hl
  have hown : s.vm.findClass RX6 = some m.cls := hown
  have hl : lv_has ls 2 [(0, .ref (q 0)), (1, .int x1)] := hl
  have inX3 : ∀ w ∈ wsX30, w ∈ wsX6_ordersWith := fun _ h => List.mem_cons_of_mem _ (List.mem_append_right _ h)
  have inX6 : ∀ w ∈ wsX60, w ∈ wsX6_ordersWith := fun _ h => List.mem_cons_of_mem _ (List.mem_append_left _ (List.mem_append_right _ h))
  unfold f6_ordersWith at hF
  refine va_gets hx hb hZ.1 hS hown (hts (.fieldLink RX6 275 "ManholeBirths" "FACTORIALS" "[I") (List.mem_of_getElem? (i := 1) rfl)) (fun _ h9 => h9) dX6_ordersWith_0 ?_
  refine lv_iload_n hx hb dX6_ordersWith_3 rfl (lv_at hl 1 rfl) ?_
  refine z_rgo (va_runS (As := [.ref t, .int x1]) (rest := []) ⟨hx, hb, hml, hown, hts⟩ (c6_cellT l t x1) (va_cwS 2 hts gX6_ordersWith_X6_cell rfl rfl rfl (by decide +kernel) ⟨Nat.le_of_ble_eq_true rfl, Nat.le_of_ble_eq_true rfl⟩) (z_tpre (hZ.at hS)) rfl rfl hl.1 rfl (lv_room (Nat.le_of_ble_eq_true rfl)) dX6_ordersWith_4 ⟨Nat.zero_le _, Nat.zero_le _⟩) ?_
  refine va_gets hx hb hZ.1 hS hown (hts (.fieldLink RX6 275 "ManholeBirths" "FACTORIALS" "[I") (List.mem_of_getElem? (i := 1) rfl)) (fun _ h9 => h9) dX6_ordersWith_7 ?_
  refine lv_aload_n hx hb dX6_ordersWith_10 rfl (lv_at hl 0 rfl) ?_
  refine z_get (ci := 6) (v := .ref (q (13 + 2))) (C := RX6) (T := TX6) (N := 13) hx hb hts inX6 hown hK hP 0 (cwp_0 g q C) rfl 3 (by decide) (List.mem_of_getElem? (i := 2) rfl) rfl rfl dX6_ordersWith_11 ?_
  refine z_get (ci := 3) (v := .int (((C.2.2.2.2.2.1).1).1 4)) (C := RX3) (T := TX3) (N := 13) hx hb hts inX3 hown hK hP 15 (cwp_15 g q C) rfl 4 (by decide) (List.mem_of_getElem? (i := 3) rfl) rfl rfl dX6_ordersWith_14 ?_
  refine lv_iload_n hx hb dX6_ordersWith_17 rfl (lv_at hl 1 rfl) ?_
  refine lv_isub hx hb dX6_ordersWith_18 ?_
  refine lv_iconst (v := 1) hx hb dX6_ordersWith_19 (by decide) ?_
  refine lv_isub hx hb dX6_ordersWith_20 ?_
  refine z_rgo (va_runS (As := [.ref t, .int (((((C.2.2.2.2.2.1).1).1 4) - x1) - 1)]) (rest := [.int (f6_cell 5 zFact x1)]) ⟨hx, hb, hml, hown, hts⟩ (c6_cellT l t (((((C.2.2.2.2.2.1).1).1 4) - x1) - 1)) (va_cwS 2 hts gX6_ordersWith_X6_cell rfl rfl rfl (by decide +kernel) ⟨Nat.le_of_ble_eq_true rfl, Nat.le_of_ble_eq_true rfl⟩) (z_tpre (hZ.at hS)) rfl rfl hl.1 rfl (lv_room (Nat.le_of_ble_eq_true rfl)) dX6_ordersWith_21 ⟨Nat.zero_le _, Nat.zero_le _⟩) ?_
  refine lv_imul hx hb dX6_ordersWith_24 ?_
  exact z_ri hx hb hr hlk (congrArg (fun z => some (Value.int z)) hF) dX6_ordersWith_25
def f6_pipe (C : Cs) (x1 : Int32) (x2 : Int32) : Int32 := if (f6_isNoPipe C x1) = 0 then if x2 = 0 then (f6_cell 8 (((C.2.2.2.2.2.1).1).2 7) x1) else if x2 = 1 then (f6_cell 8 (((C.2.2.2.2.2.1).1).2 8) x1) else if x2 = 2 then (f6_flag (f6_has ((C.1 0).1 6) x1)) else (-2) else (-1)
abbrev rmX6_pipe : Room := { frames := 1, cells := 0, slots := 0, locals := 21 }
set_option maxHeartbeats 4000000 in
set_option maxRecDepth 100000 in
theorem c6_pipe (l : Launch) (g : zG) (q : Nat → Nat) (C : Cs) (x1 : Int32) (x2 : Int32) : zRO l g yX6_pipe wsX6_pipe rmX6_pipe [.ref (q 0), .int x1, .int x2] (CW g q C) (some (.int (f6_pipe C x1 x2))) := by
  obtain ⟨ro, hF⟩ : ∃ y : Int32, f6_pipe C x1 x2 = y := ⟨_, rfl⟩
  rw [hF]
  refine zRO_of (cc := cX6_pipe) (maxL := 3) (ret := (some .int)) (by decide) rfl (Nat.le_of_ble_eq_true rfl) ?_
  intro p e s m args below meth c ls hx hb hr hml hts hown hlk hK hP hl
  have hown : s.vm.findClass RX6 = some m.cls := hown
  have hl : lv_has ls 3 [(0, .ref (q 0)), (1, .int x1), (2, .int x2)] := hl
  have inX2 : ∀ w ∈ wsX20, w ∈ wsX6_pipe := fun _ h => List.mem_cons_of_mem _ (List.mem_append_right _ h)
  have inX3 : ∀ w ∈ wsX30, w ∈ wsX6_pipe := fun _ h => List.mem_cons_of_mem _ (List.mem_append_left _ (List.mem_append_right _ h))
  have inX6 : ∀ w ∈ wsX60, w ∈ wsX6_pipe := fun _ h => List.mem_cons_of_mem _ (List.mem_append_left _ (List.mem_append_left _ (List.mem_append_right _ h)))
  unfold f6_pipe at hF
  refine lv_aload_n hx hb dX6_pipe_0 rfl (lv_at hl 0 rfl) ?_
  refine lv_iload_n hx hb dX6_pipe_1 rfl (lv_at hl 1 rfl) ?_
  refine z_rgo (va_runV (As := [.int x1]) (rest := []) ⟨hx, hb, hml, hown, hts⟩ (c6_isNoPipe l g q C x1) (cwV 1 hts gX6_pipe_X6_isNoPipe rfl rfl rfl (by decide +kernel) ⟨Nat.le_of_ble_eq_true rfl, Nat.le_of_ble_eq_true rfl⟩) (z_rpreV (ci := 6) (q := (RX6, TX6, 13)) (q0 := 0) hP hK rfl rfl) rfl rfl hl.1 rfl (lv_room (Nat.le_of_ble_eq_true rfl)) dX6_pipe_2 ⟨Nat.zero_le _, Nat.zero_le _⟩) ?_
  refine lv_if_eq (tgt := 10) hx hb dX6_pipe_5 (by decide) (fun c1 => ?_) (fun c1 => ?_)
  · have hF := zit c1 hF
    refine lv_iload_n hx hb dX6_pipe_10 rfl (lv_at hl 2 rfl) ?_
    by_cases c2 : x2 = 0
    · have hF := zit c2 hF
      refine z_tin (k := 0) (tgt := 36) hx hb dX6_pipe_11 c2 ⟨by decide, by decide, rfl, by decide⟩ ?_
      refine lv_aload_n hx hb dX6_pipe_36 rfl (lv_at hl 0 rfl) ?_
      refine z_get (ci := 6) (v := .ref (q (13 + 2))) (C := RX6) (T := TX6) (N := 13) hx hb hts inX6 hown hK hP 0 (cwp_0 g q C) rfl 3 (by decide) (List.mem_of_getElem? (i := 1) rfl) rfl rfl dX6_pipe_37 ?_
      refine z_get (ci := 3) (v := .ref (q ((13 + 2) + 2))) (C := RX3) (T := TX3) (N := 13) hx hb hts inX3 hown hK hP 15 (cwp_15 g q C) rfl 7 (by decide) (List.mem_of_getElem? (i := 2) rfl) rfl rfl dX6_pipe_40 ?_
      refine lv_iload_n hx hb dX6_pipe_43 rfl (lv_at hl 1 rfl) ?_
      refine z_rgo (va_runS (As := [.ref (q ((13 + 2) + 2)), .int x1]) (rest := []) ⟨hx, hb, hml, hown, hts⟩ (c6_cell l g (q ((13 + 2) + 2)) 8 (by decide) (((C.2.2.2.2.2.1).1).2 7) x1) (va_cwS 2 hts gX6_pipe_X6_cell rfl rfl rfl (by decide +kernel) ⟨Nat.le_of_ble_eq_true rfl, Nat.le_of_ble_eq_true rfl⟩) (z_rpre (z_Psub hP _ (cwm_17_1_17 g q C)) hK) rfl rfl hl.1 rfl (lv_room (Nat.le_of_ble_eq_true rfl)) dX6_pipe_44 ⟨Nat.zero_le _, Nat.zero_le _⟩) ?_
      exact z_ri hx hb hr hlk (congrArg (fun z => some (Value.int z)) hF) dX6_pipe_47
    · have hF := zif c2 hF
      by_cases c3 : x2 = 1
      · have hF := zit c3 hF
        refine z_tin (k := 1) (tgt := 48) hx hb dX6_pipe_11 c3 ⟨by decide, by decide, rfl, by decide⟩ ?_
        refine lv_aload_n hx hb dX6_pipe_48 rfl (lv_at hl 0 rfl) ?_
        refine z_get (ci := 6) (v := .ref (q (13 + 2))) (C := RX6) (T := TX6) (N := 13) hx hb hts inX6 hown hK hP 0 (cwp_0 g q C) rfl 3 (by decide) (List.mem_of_getElem? (i := 1) rfl) rfl rfl dX6_pipe_49 ?_
        refine z_get (ci := 3) (v := .ref (q ((13 + 2) + 3))) (C := RX3) (T := TX3) (N := 13) hx hb hts inX3 hown hK hP 15 (cwp_15 g q C) rfl 8 (by decide) (List.mem_of_getElem? (i := 3) rfl) rfl rfl dX6_pipe_52 ?_
        refine lv_iload_n hx hb dX6_pipe_55 rfl (lv_at hl 1 rfl) ?_
        refine z_rgo (va_runS (As := [.ref (q ((13 + 2) + 3)), .int x1]) (rest := []) ⟨hx, hb, hml, hown, hts⟩ (c6_cell l g (q ((13 + 2) + 3)) 8 (by decide) (((C.2.2.2.2.2.1).1).2 8) x1) (va_cwS 2 hts gX6_pipe_X6_cell rfl rfl rfl (by decide +kernel) ⟨Nat.le_of_ble_eq_true rfl, Nat.le_of_ble_eq_true rfl⟩) (z_rpre (z_Psub hP _ (cwm_18_1_18 g q C)) hK) rfl rfl hl.1 rfl (lv_room (Nat.le_of_ble_eq_true rfl)) dX6_pipe_56 ⟨Nat.zero_le _, Nat.zero_le _⟩) ?_
        exact z_ri hx hb hr hlk (congrArg (fun z => some (Value.int z)) hF) dX6_pipe_59
      · have hF := zif c3 hF
        by_cases c4 : x2 = 2
        · have hF := zit c4 hF
          refine z_tin (k := 2) (tgt := 60) hx hb dX6_pipe_11 c4 ⟨by decide, by decide, rfl, by decide⟩ ?_
          refine lv_aload_n hx hb dX6_pipe_60 rfl (lv_at hl 0 rfl) ?_
          refine z_get (ci := 6) (v := .ref (q 23)) (C := RX6) (T := TX6) (N := 13) hx hb hts inX6 hown hK hP 0 (cwp_0 g q C) rfl 4 (by decide) (List.mem_of_getElem? (i := 4) rfl) rfl rfl dX6_pipe_61 ?_
          refine z_get (ci := 2) (v := .int ((C.1 0).1 6)) (C := RX2) (T := TX2) (N := 9) hx hb hts inX2 hown hK hP 23 (cwp_23 g q C) rfl 6 (by decide) (List.mem_of_getElem? (i := 5) rfl) rfl rfl dX6_pipe_64 ?_
          refine lv_iload_n hx hb dX6_pipe_67 rfl (lv_at hl 1 rfl) ?_
          refine z_rgo (va_runS (As := [.int ((C.1 0).1 6), .int x1]) (rest := []) ⟨hx, hb, hml, hown, hts⟩ (c6_has l g   ((C.1 0).1 6) x1) (va_cwS 2 hts gX6_pipe_X6_has rfl rfl rfl (by decide +kernel) ⟨Nat.le_of_ble_eq_true rfl, Nat.le_of_ble_eq_true rfl⟩) (z_rpre z_nil hK) rfl rfl hl.1 rfl (lv_room (Nat.le_of_ble_eq_true rfl)) dX6_pipe_68 ⟨Nat.zero_le _, Nat.zero_le _⟩) ?_
          refine z_rgo (va_runS (As := [.int (f6_has ((C.1 0).1 6) x1)]) (rest := []) ⟨hx, hb, hml, hown, hts⟩ (c6_flag l g   (f6_has ((C.1 0).1 6) x1)) (va_cwS 1 hts gX6_pipe_X6_flag rfl rfl rfl (by decide +kernel) ⟨Nat.le_of_ble_eq_true rfl, Nat.le_of_ble_eq_true rfl⟩) (z_rpre z_nil hK) rfl rfl hl.1 rfl (lv_room (Nat.le_of_ble_eq_true rfl)) dX6_pipe_71 ⟨Nat.zero_le _, Nat.zero_le _⟩) ?_
          exact z_ri hx hb hr hlk (congrArg (fun z => some (Value.int z)) hF) dX6_pipe_74
        · have hF := zif c4 hF
          refine z_tout hx hb dX6_pipe_11 [0, 1, 2] (fun k hk => ?_) rfl (tgt := 75) (by decide) ?_
          · simp only [List.mem_cons, List.not_mem_nil, or_false] at hk
            rcases hk with rfl | rfl | rfl <;> assumption
          · refine lv_bipush (v := (-2)) hx hb dX6_pipe_75 (by decide) ?_
            exact z_ri hx hb hr hlk (congrArg (fun z => some (Value.int z)) hF) dX6_pipe_77
  · have hF := zif c1 hF
    refine lv_iconst (v := (-1)) hx hb dX6_pipe_8 (by decide) ?_
    exact z_ri hx hb hr hlk (congrArg (fun z => some (Value.int z)) hF) dX6_pipe_9
def f6_rests_l84 (v6 : Int32) (v7 : Int32) (y10 : Int32) (k69 : (Int32 → Int32 → Int32 → Cs → Option (Int32 × Cs))) : Nat → Int32 → Int32 → Int32 → Cs → Option (Int32 × Cs)
  | 0, _, _, _, _ => none
  | n84 + 1, y14, y15, y16, C17 => if (((C17.2.2.2.2.2.1).1).1 2) ≤ y16 then k69 y14 y15 (y10 + 1) C17 else (f6_isAtRest C17 y10 y16 v6 v7).bind fun v19 => if v19 = 0 then f6_rests_l84 v6 v7 y10 k69 n84 y14 y15 (y16 + 1) C17 else if y14 = 0 then bd (α := Int32) ((10 * y10) + y16) (fun (v22 : Int32) => f6_rests_l84 v6 v7 y10 k69 n84 (y14 + 1) v22 (y16 + 1) C17) else f6_rests_l84 v6 v7 y10 k69 n84 (y14 + 1) y15 (y16 + 1) C17
def f6_rests_l69 (x3 : Int32) (v6 : Int32) (v7 : Int32) : Nat → Int32 → Int32 → Int32 → Cs → Option (Int32 × Cs)
  | 0, _, _, _, _ => none
  | n69 + 1, y8, y9, y10, C11 => if (((C11.2.2.2.2.2.1).1).1 2) ≤ y10 then if x3 = 0 then some (y8, C11) else some (y9, C11) else f6_rests_l84 v6 v7 y10 (fun y8 y9 y10 C11 => f6_rests_l69 x3 v6 v7 n69 y8 y9 y10 C11) FU y8 y9 0 C11
def f6_rests (C : Cs) (x1 : Int32) (x2 : Int32) (x3 : Int32) : Option (Int32 × Cs) := if (f6_isNoWalker C x1) = 0 then if (f6_isNoWalker C x2) = 0 then if x1 = x2 then some ((-2), C) else if (f6_isNoChoice x3) = 0 then (f6_tryFromNow C 40).bind fun C5 => bd (α := Int32) (f2_outAt (C5.1 1) x1) (fun (v6 : Int32) => bd (α := Int32) (f2_outAt (C5.1 1) x2) (fun (v7 : Int32) => f6_rests_l69 x3 v6 v7 FU 0 (-9) 0 C5)) else some ((-2), C) else some ((-1), C) else some ((-1), C)
abbrev rmX6_rests : Room := { frames := 6, cells := 0, slots := 0, locals := 141 }
set_option maxHeartbeats 4000000 in
set_option maxRecDepth 100000 in
theorem c6_rests (l : Launch) (g : zG) (q : Nat → Nat) (C : Cs) (x1 : Int32) (x2 : Int32) (x3 : Int32) (ro : Int32) (C_o : Cs) (hF : f6_rests C x1 x2 x3 = some (ro, C_o)) : zRW l g yX6_rests wsX6_rests rmX6_rests [.ref (q 0), .int x1, .int x2, .int x3] (CW g q C) (some (.int ro)) (CW g q C_o) := by
  refine zRW_of (cc := cX6_rests) (maxL := 10) (ret := (some .int)) (by decide) rfl (Nat.le_of_ble_eq_true rfl) ?_
  intro p e s m args below meth c A H locs ls hx hb hr hml hts hown hlk hK hA hP hD hS hl
  have hown : s.vm.findClass RX6 = some m.cls := hown
  have hl : lv_has ls 10 [(0, .ref (q 0)), (1, .int x1), (2, .int x2), (3, .int x3)] := hl
  have inX3 : ∀ w ∈ wsX30, w ∈ wsX6_rests := fun _ h => List.mem_cons_of_mem _ (List.mem_append_left _ (List.mem_append_right _ h))
  have inX6 : ∀ w ∈ wsX60, w ∈ wsX6_rests := fun _ h => List.mem_cons_of_mem _ (List.mem_append_left _ (List.mem_append_left _ (List.mem_append_right _ h)))
  unfold f6_rests at hF
  refine lv_aload_n hx hb dX6_rests_0 rfl (lv_at hl 0 rfl) ?_
  refine lv_iload_n hx hb dX6_rests_1 rfl (lv_at hl 1 rfl) ?_
  refine z_rgo (va_runV (As := [.int x1]) (rest := []) ⟨hx, hb, hml, hown, hts⟩ (c6_isNoWalker l g q C x1) (cwV 1 hts gX6_rests_X6_isNoWalker rfl rfl rfl (by decide +kernel) ⟨Nat.le_of_ble_eq_true rfl, Nat.le_of_ble_eq_true rfl⟩) (z_rpreV (ci := 6) (q := (RX6, TX6, 13)) (q0 := 0) hP hK rfl rfl) rfl rfl hl.1 rfl (lv_room (Nat.le_of_ble_eq_true rfl)) dX6_rests_2 ⟨Nat.zero_le _, Nat.zero_le _⟩) ?_
  refine lv_if_ne (tgt := 16) hx hb dX6_rests_5 (by decide) (fun c1 => ?_) (fun c1 => ?_)
  · have hF := zif c1 hF
    refine lv_iconst (v := (-1)) hx hb dX6_rests_16 (by decide) ?_
    obtain ⟨e9a, e9b⟩ := Prod.mk.inj (zin hF)
    exact z_wi hx hb hr hlk hP hD hS (congrArg (fun z => some (Value.int z)) e9a) (by rw [e9b]) dX6_rests_17
  · have hF := zit c1 hF
    refine lv_aload_n hx hb dX6_rests_8 rfl (lv_at hl 0 rfl) ?_
    refine lv_iload_n hx hb dX6_rests_9 rfl (lv_at hl 2 rfl) ?_
    refine z_rgo (va_runV (As := [.int x2]) (rest := []) ⟨hx, hb, hml, hown, hts⟩ (c6_isNoWalker l g q C x2) (cwV 1 hts gX6_rests_X6_isNoWalker rfl rfl rfl (by decide +kernel) ⟨Nat.le_of_ble_eq_true rfl, Nat.le_of_ble_eq_true rfl⟩) (z_rpreV (ci := 6) (q := (RX6, TX6, 13)) (q0 := 0) hP hK rfl rfl) rfl rfl hl.1 rfl (lv_room (Nat.le_of_ble_eq_true rfl)) dX6_rests_10 ⟨Nat.zero_le _, Nat.zero_le _⟩) ?_
    refine lv_if_eq (tgt := 18) hx hb dX6_rests_13 (by decide) (fun c2 => ?_) (fun c2 => ?_)
    · have hF := zit c2 hF
      refine lv_iload_n hx hb dX6_rests_18 rfl (lv_at hl 1 rfl) ?_
      refine lv_iload_n hx hb dX6_rests_19 rfl (lv_at hl 2 rfl) ?_
      refine lv_icmp_eq (tgt := 30) hx hb dX6_rests_20 (by decide) (fun c3 => ?_) (fun c3 => ?_)
      · have hF := zit c3 hF
        refine lv_bipush (v := (-2)) hx hb dX6_rests_30 (by decide) ?_
        obtain ⟨e9a, e9b⟩ := Prod.mk.inj (zin hF)
        exact z_wi hx hb hr hlk hP hD hS (congrArg (fun z => some (Value.int z)) e9a) (by rw [e9b]) dX6_rests_32
      · have hF := zif c3 hF
        refine lv_iload_n hx hb dX6_rests_23 rfl (lv_at hl 3 rfl) ?_
        refine z_rgo (va_runS (As := [.int x3]) (rest := []) ⟨hx, hb, hml, hown, hts⟩ (c6_isNoChoice l g   x3) (va_cwS 1 hts gX6_rests_X6_isNoChoice rfl rfl rfl (by decide +kernel) ⟨Nat.le_of_ble_eq_true rfl, Nat.le_of_ble_eq_true rfl⟩) (z_rpre z_nil hK) rfl rfl hl.1 rfl (lv_room (Nat.le_of_ble_eq_true rfl)) dX6_rests_24 ⟨Nat.zero_le _, Nat.zero_le _⟩) ?_
        refine lv_if_eq (tgt := 33) hx hb dX6_rests_27 (by decide) (fun c4 => ?_) (fun c4 => ?_)
        · have hF := zit c4 hF
          refine lv_aload_n hx hb dX6_rests_33 rfl (lv_at hl 0 rfl) ?_
          refine lv_bipush (v := 40) hx hb dX6_rests_34 (by decide) ?_
          obtain ⟨C5, hC5, hF⟩ := zob hF
          refine z_wgoW (va_runV (As := [.int 40]) (rest := []) ⟨hx, hb, hml, hown, hts⟩ ((c6_tryFromNow l g q C 40  C5 hC5) H.size) (cwV 1 hts gX6_rests_X6_tryFromNow rfl rfl rfl (by decide +kernel) ⟨Nat.le_of_ble_eq_true rfl, Nat.le_of_ble_eq_true rfl⟩) (z_wpreV (ci := 6) (q := (RX6, TX6, 13)) (q0 := 0) hP hK (z_any hD) rfl rfl) rfl rfl hl.1 rfl (lv_room (Nat.le_of_ble_eq_true rfl)) dX6_rests_36 ⟨Nat.zero_le _, Nat.zero_le _⟩) hP hD hS hA (fun H locs hP hD hS => ?_)
          show W p l e (headSpec wsX6_rests rmX6_rests).room s m args below meth c H locs 0 0 (MQ below (zWQ g A (CW g q C_o) (some (.int ro))) args s 0 0 A) (F0 m 39 ls [])
          refine lv_aload_n hx hb dX6_rests_39 rfl (lv_at hl 0 rfl) ?_
          refine z_get (ci := 6) (v := .ref (q 28)) (C := RX6) (T := TX6) (N := 13) hx hb hts inX6 hown hK hP 0 (cwp_0 g q C5) rfl 5 (by decide) (List.mem_of_getElem? (i := 1) rfl) rfl rfl dX6_rests_40 ?_
          refine lv_iload_n hx hb dX6_rests_43 rfl (lv_at hl 1 rfl) ?_
          refine z_rgo (va_runV (As := [.int x1]) (rest := []) ⟨hx, hb, hml, hown, hts⟩ (c2_outAt l g q 28 (C5.1 1) x1) (cwV 1 hts gX6_rests_X2_outAt rfl rfl rfl (by decide +kernel) ⟨Nat.le_of_ble_eq_true rfl, Nat.le_of_ble_eq_true rfl⟩) (z_rpreV (ci := 2) (q := (RX2, TX2, 9)) (q0 := 0) (z_Psub hP _ (cwm_28_5_32 g q C5)) hK rfl rfl) rfl rfl hl.1 rfl (lv_room (Nat.le_of_ble_eq_true rfl)) dX6_rests_44 ⟨Nat.zero_le _, Nat.zero_le _⟩) ?_
          refine lv_topi (fun v6 ev6 => ?_)
          have hF := bd_eq ev6 hF
          refine lv_istore (lv' := [(4, .int v6), (0, .ref (q 0)), (1, .int x1), (2, .int x2), (3, .int x3)]) hx hb dX6_rests_47 hl (by decide) rfl (fun ls hl => ?_)
          refine lv_aload_n hx hb dX6_rests_49 rfl (lv_at hl 1 rfl) ?_
          refine z_get (ci := 6) (v := .ref (q 28)) (C := RX6) (T := TX6) (N := 13) hx hb hts inX6 hown hK hP 0 (cwp_0 g q C5) rfl 5 (by decide) (List.mem_of_getElem? (i := 1) rfl) rfl rfl dX6_rests_50 ?_
          refine lv_iload_n hx hb dX6_rests_53 rfl (lv_at hl 3 rfl) ?_
          refine z_rgo (va_runV (As := [.int x2]) (rest := []) ⟨hx, hb, hml, hown, hts⟩ (c2_outAt l g q 28 (C5.1 1) x2) (cwV 1 hts gX6_rests_X2_outAt rfl rfl rfl (by decide +kernel) ⟨Nat.le_of_ble_eq_true rfl, Nat.le_of_ble_eq_true rfl⟩) (z_rpreV (ci := 2) (q := (RX2, TX2, 9)) (q0 := 0) (z_Psub hP _ (cwm_28_5_32 g q C5)) hK rfl rfl) rfl rfl hl.1 rfl (lv_room (Nat.le_of_ble_eq_true rfl)) dX6_rests_54 ⟨Nat.zero_le _, Nat.zero_le _⟩) ?_
          refine lv_topi (fun v7 ev7 => ?_)
          have hF := bd_eq ev7 hF
          refine lv_istore (lv' := [(5, .int v7), (4, .int v6), (0, .ref (q 0)), (1, .int x1), (2, .int x2), (3, .int x3)]) hx hb dX6_rests_57 hl (by decide) rfl (fun ls hl => ?_)
          refine lv_iconst (v := 0) hx hb dX6_rests_59 (by decide) ?_
          refine lv_istore (lv' := [(6, .int 0), (5, .int v7), (4, .int v6), (0, .ref (q 0)), (1, .int x1), (2, .int x2), (3, .int x3)]) hx hb dX6_rests_60 hl (by decide) rfl (fun ls hl => ?_)
          refine lv_bipush (v := (-9)) hx hb dX6_rests_62 (by decide) ?_
          refine lv_istore (lv' := [(7, .int (-9)), (6, .int 0), (5, .int v7), (4, .int v6), (0, .ref (q 0)), (1, .int x1), (2, .int x2), (3, .int x3)]) hx hb dX6_rests_64 hl (by decide) rfl (fun ls hl => ?_)
          refine lv_iconst (v := 0) hx hb dX6_rests_66 (by decide) ?_
          refine lv_istore (lv' := [(8, .int 0), (7, .int (-9)), (6, .int 0), (5, .int v7), (4, .int v6), (0, .ref (q 0)), (1, .int x1), (2, .int x2), (3, .int x3)]) hx hb dX6_rests_67 hl (by decide) rfl (fun ls hl => ?_)
          have L69 : ∀ (n69 : Nat) (y8 : Int32) (y9 : Int32) (y10 : Int32) (C11 : Cs) (H : Heap) (locs : List Loc) (ls : Array Slot), f6_rests_l69 x3 v6 v7 n69 y8 y9 y10 C11 = some (ro, C_o) → va_P (zD g) vwCl (CW g q C11) H → va_D A (CW g q C11) → va_S A s.heap H locs → lv_has ls 10 [(0, .ref (q 0)), (3, .int x3), (4, .int v6), (5, .int v7), (6, .int y8), (7, .int y9), (8, .int y10)] → W p l e (headSpec wsX6_rests rmX6_rests).room s m args below meth c H locs 0 0 (MQ below (zWQ g A (CW g q C_o) (some (.int ro))) args s 0 0 A) (F0 m 69 ls []) := by
            intro n69
            induction n69 with
            | zero =>
              intro y8 y9 y10 C11 H locs ls hF hP hD hS hl
              exact absurd (show (none : Option (Int32 × Cs)) = some _ from hF) (fun h9 => by cases h9)
            | succ n69 ih69 =>
              intro y8 y9 y10 C11 H locs ls hF hP hD hS hl
              rw [f6_rests_l69] at hF
              refine lv_iload hx hb dX6_rests_69 (lv_at hl 6 rfl) ?_
              refine lv_aload_n hx hb dX6_rests_71 rfl (lv_at hl 0 rfl) ?_
              refine z_get (ci := 6) (v := .ref (q (13 + 2))) (C := RX6) (T := TX6) (N := 13) hx hb hts inX6 hown hK hP 0 (cwp_0 g q C11) rfl 3 (by decide) (List.mem_of_getElem? (i := 2) rfl) rfl rfl dX6_rests_72 ?_
              refine z_get (ci := 3) (v := .int (((C11.2.2.2.2.2.1).1).1 2)) (C := RX3) (T := TX3) (N := 13) hx hb hts inX3 hown hK hP 15 (cwp_15 g q C11) rfl 2 (by decide) (List.mem_of_getElem? (i := 3) rfl) rfl rfl dX6_rests_75 ?_
              refine lv_icmp_ge (tgt := 144) hx hb dX6_rests_78 (by decide) (fun c12 => ?_) (fun c12 => ?_)
              · have hF := zit c12 hF
                refine lv_iload_n hx hb dX6_rests_144 rfl (lv_at hl 1 rfl) ?_
                refine lv_if_ne (tgt := 153) hx hb dX6_rests_145 (by decide) (fun c13 => ?_) (fun c13 => ?_)
                · have hF := zif c13 hF
                  refine lv_iload hx hb dX6_rests_153 (lv_at hl 5 rfl) ?_
                  obtain ⟨e9a, e9b⟩ := Prod.mk.inj (zin hF)
                  exact z_wi hx hb hr hlk hP hD hS (congrArg (fun z => some (Value.int z)) e9a) (by rw [e9b]) dX6_rests_155
                · have hF := zit c13 hF
                  refine lv_iload hx hb dX6_rests_148 (lv_at hl 4 rfl) ?_
                  refine lv_goto (tgt := 155) hx hb dX6_rests_150 (by decide) ?_
                  obtain ⟨e9a, e9b⟩ := Prod.mk.inj (zin hF)
                  exact z_wi hx hb hr hlk hP hD hS (congrArg (fun z => some (Value.int z)) e9a) (by rw [e9b]) dX6_rests_155
              · have hF := zif c12 hF
                refine lv_iconst (v := 0) hx hb dX6_rests_81 (by decide) ?_
                refine lv_istore (lv' := [(9, .int 0), (0, .ref (q 0)), (3, .int x3), (4, .int v6), (5, .int v7), (6, .int y8), (7, .int y9), (8, .int y10)]) hx hb dX6_rests_82 hl (by decide) rfl (fun ls hl => ?_)
                have L84 : ∀ (n84 : Nat) (y14 : Int32) (y15 : Int32) (y16 : Int32) (C17 : Cs) (H : Heap) (locs : List Loc) (ls : Array Slot), f6_rests_l84 v6 v7 y10 (fun y8 y9 y10 C11 => f6_rests_l69 x3 v6 v7 n69 y8 y9 y10 C11) n84 y14 y15 y16 C17 = some (ro, C_o) → va_P (zD g) vwCl (CW g q C17) H → va_D A (CW g q C17) → va_S A s.heap H locs → lv_has ls 10 [(0, .ref (q 0)), (3, .int x3), (4, .int v6), (5, .int v7), (6, .int y14), (7, .int y15), (8, .int y10), (9, .int y16)] → W p l e (headSpec wsX6_rests rmX6_rests).room s m args below meth c H locs 0 0 (MQ below (zWQ g A (CW g q C_o) (some (.int ro))) args s 0 0 A) (F0 m 84 ls []) := by
                  intro n84
                  induction n84 with
                  | zero =>
                    intro y14 y15 y16 C17 H locs ls hF hP hD hS hl
                    exact absurd (show (none : Option (Int32 × Cs)) = some _ from hF) (fun h9 => by cases h9)
                  | succ n84 ih84 =>
                    intro y14 y15 y16 C17 H locs ls hF hP hD hS hl
                    rw [f6_rests_l84] at hF
                    refine lv_iload hx hb dX6_rests_84 (lv_at hl 7 rfl) ?_
                    refine lv_aload_n hx hb dX6_rests_86 rfl (lv_at hl 0 rfl) ?_
                    refine z_get (ci := 6) (v := .ref (q (13 + 2))) (C := RX6) (T := TX6) (N := 13) hx hb hts inX6 hown hK hP 0 (cwp_0 g q C17) rfl 3 (by decide) (List.mem_of_getElem? (i := 2) rfl) rfl rfl dX6_rests_87 ?_
                    refine z_get (ci := 3) (v := .int (((C17.2.2.2.2.2.1).1).1 2)) (C := RX3) (T := TX3) (N := 13) hx hb hts inX3 hown hK hP 15 (cwp_15 g q C17) rfl 2 (by decide) (List.mem_of_getElem? (i := 3) rfl) rfl rfl dX6_rests_90 ?_
                    refine lv_icmp_ge (tgt := 138) hx hb dX6_rests_93 (by decide) (fun c18 => ?_) (fun c18 => ?_)
                    · have hF := zit c18 hF
                      refine lv_iinc (v := (y10 + 1)) (lv' := [(8, .int (y10 + 1)), (0, .ref (q 0)), (3, .int x3), (4, .int v6), (5, .int v7), (6, .int y14), (7, .int y15), (9, .int y16)]) hx hb dX6_rests_138 hl (k := 6) rfl rfl (by decide) rfl (fun ls hl => ?_)
                      refine lv_goto (tgt := 69) hx hb dX6_rests_141 (by decide) ?_
                      exact ih69 y14 y15 (y10 + 1) C17 H locs ls hF hP hD hS (lv_sub hl [1, 2, 3, 4, 5, 6, 0] rfl)
                    · have hF := zif c18 hF
                      refine lv_aload_n hx hb dX6_rests_96 rfl (lv_at hl 0 rfl) ?_
                      refine lv_iload hx hb dX6_rests_97 (lv_at hl 6 rfl) ?_
                      refine lv_iload hx hb dX6_rests_99 (lv_at hl 7 rfl) ?_
                      refine lv_iload hx hb dX6_rests_101 (lv_at hl 2 rfl) ?_
                      refine lv_iload hx hb dX6_rests_103 (lv_at hl 3 rfl) ?_
                      obtain ⟨v19, hv19, hF⟩ := zob hF
                      refine z_rgo (va_runV (As := [.int y10, .int y16, .int v6, .int v7]) (rest := []) ⟨hx, hb, hml, hown, hts⟩ (c6_isAtRest l g q C17 y10 y16 v6 v7 v19 hv19) (cwV 4 hts gX6_rests_X6_isAtRest rfl rfl rfl (by decide +kernel) ⟨Nat.le_of_ble_eq_true rfl, Nat.le_of_ble_eq_true rfl⟩) (z_rpreV (ci := 6) (q := (RX6, TX6, 13)) (q0 := 0) hP hK rfl rfl) rfl rfl hl.1 rfl (lv_room (Nat.le_of_ble_eq_true rfl)) dX6_rests_105 ⟨Nat.zero_le _, Nat.zero_le _⟩) ?_
                      refine lv_if_ne (tgt := 114) hx hb dX6_rests_108 (by decide) (fun c20 => ?_) (fun c20 => ?_)
                      · have hF := zif c20 hF
                        refine lv_iload hx hb dX6_rests_114 (lv_at hl 4 rfl) ?_
                        refine lv_if_ne (tgt := 129) hx hb dX6_rests_116 (by decide) (fun c21 => ?_) (fun c21 => ?_)
                        · have hF := zif c21 hF
                          refine lv_iinc (v := (y14 + 1)) (lv' := [(6, .int (y14 + 1)), (0, .ref (q 0)), (3, .int x3), (4, .int v6), (5, .int v7), (7, .int y15), (8, .int y10), (9, .int y16)]) hx hb dX6_rests_129 hl (k := 4) rfl rfl (by decide) rfl (fun ls hl => ?_)
                          refine lv_iinc (v := (y16 + 1)) (lv' := [(9, .int (y16 + 1)), (6, .int (y14 + 1)), (0, .ref (q 0)), (3, .int x3), (4, .int v6), (5, .int v7), (7, .int y15), (8, .int y10)]) hx hb dX6_rests_132 hl (k := 7) rfl rfl (by decide) rfl (fun ls hl => ?_)
                          refine lv_goto (tgt := 84) hx hb dX6_rests_135 (by decide) ?_
                          exact ih84 (y14 + 1) y15 (y16 + 1) C17 H locs ls hF hP hD hS (lv_sub hl [2, 3, 4, 5, 1, 6, 7, 0] rfl)
                        · have hF := zit c21 hF
                          refine lv_bipush (v := 10) hx hb dX6_rests_119 (by decide) ?_
                          refine lv_iload hx hb dX6_rests_121 (lv_at hl 6 rfl) ?_
                          refine lv_imul hx hb dX6_rests_123 ?_
                          refine lv_iload hx hb dX6_rests_124 (lv_at hl 7 rfl) ?_
                          refine lv_iadd hx hb dX6_rests_126 ?_
                          refine lv_topi (fun v22 ev22 => ?_)
                          have hF := bd_eq ev22 hF
                          refine lv_istore (lv' := [(7, .int v22), (0, .ref (q 0)), (3, .int x3), (4, .int v6), (5, .int v7), (6, .int y14), (8, .int y10), (9, .int y16)]) hx hb dX6_rests_127 hl (by decide) rfl (fun ls hl => ?_)
                          refine lv_iinc (v := (y14 + 1)) (lv' := [(6, .int (y14 + 1)), (7, .int v22), (0, .ref (q 0)), (3, .int x3), (4, .int v6), (5, .int v7), (8, .int y10), (9, .int y16)]) hx hb dX6_rests_129 hl (k := 5) rfl rfl (by decide) rfl (fun ls hl => ?_)
                          refine lv_iinc (v := (y16 + 1)) (lv' := [(9, .int (y16 + 1)), (6, .int (y14 + 1)), (7, .int v22), (0, .ref (q 0)), (3, .int x3), (4, .int v6), (5, .int v7), (8, .int y10)]) hx hb dX6_rests_132 hl (k := 7) rfl rfl (by decide) rfl (fun ls hl => ?_)
                          refine lv_goto (tgt := 84) hx hb dX6_rests_135 (by decide) ?_
                          exact ih84 (y14 + 1) v22 (y16 + 1) C17 H locs ls hF hP hD hS (lv_sub hl [3, 4, 5, 6, 1, 2, 7, 0] rfl)
                      · have hF := zit c20 hF
                        refine lv_goto (tgt := 132) hx hb dX6_rests_111 (by decide) ?_
                        refine lv_iinc (v := (y16 + 1)) (lv' := [(9, .int (y16 + 1)), (0, .ref (q 0)), (3, .int x3), (4, .int v6), (5, .int v7), (6, .int y14), (7, .int y15), (8, .int y10)]) hx hb dX6_rests_132 hl (k := 7) rfl rfl (by decide) rfl (fun ls hl => ?_)
                        refine lv_goto (tgt := 84) hx hb dX6_rests_135 (by decide) ?_
                        exact ih84 y14 y15 (y16 + 1) C17 H locs ls hF hP hD hS (lv_sub hl [1, 2, 3, 4, 5, 6, 7, 0] rfl)
                exact L84 FU y8 y9 0 C11 H locs ls hF hP hD hS (lv_sub hl [1, 2, 3, 4, 5, 6, 7, 0] rfl)
          exact L69 FU 0 (-9) 0 C5 H locs ls hF hP hD hS (lv_sub hl [5, 8, 4, 3, 2, 1, 0] rfl)
        · have hF := zif c4 hF
          refine lv_bipush (v := (-2)) hx hb dX6_rests_30 (by decide) ?_
          obtain ⟨e9a, e9b⟩ := Prod.mk.inj (zin hF)
          exact z_wi hx hb hr hlk hP hD hS (congrArg (fun z => some (Value.int z)) e9a) (by rw [e9b]) dX6_rests_32
    · have hF := zif c2 hF
      refine lv_iconst (v := (-1)) hx hb dX6_rests_16 (by decide) ?_
      obtain ⟨e9a, e9b⟩ := Prod.mk.inj (zin hF)
      exact z_wi hx hb hr hlk hP hD hS (congrArg (fun z => some (Value.int z)) e9a) (by rw [e9b]) dX6_rests_17

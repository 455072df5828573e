def f6_bitCount_0f7a4 (x0 : Int32) : Int32 := bd (α := Int32) (x0 - ((((x0).toUInt32 >>> ((1 : Int32).toUInt32 &&& Int32.toUInt32 31)).toInt32) &&& 1431655765)) (fun (v1 : Int32) => bd (α := Int32) ((v1 &&& 858993459) + ((((v1).toUInt32 >>> ((2 : Int32).toUInt32 &&& Int32.toUInt32 31)).toInt32) &&& 858993459)) (fun (v2 : Int32) => bd (α := Int32) ((v2 + (((v2).toUInt32 >>> ((4 : Int32).toUInt32 &&& Int32.toUInt32 31)).toInt32)) &&& 252645135) (fun (v3 : Int32) => bd (α := Int32) (v3 + (((v3).toUInt32 >>> ((8 : Int32).toUInt32 &&& Int32.toUInt32 31)).toInt32)) (fun (v4 : Int32) => bd (α := Int32) (v4 + (((v4).toUInt32 >>> ((16 : Int32).toUInt32 &&& Int32.toUInt32 31)).toInt32)) (fun (v5 : Int32) => (v5 &&& 63))))))
abbrev rmJ6_bitCount_0f7a4 : Room := { frames := 0, cells := 0, slots := 0, locals := 0 }
set_option maxHeartbeats 4000000 in
set_option maxRecDepth 100000 in
theorem c6_bitCount_0f7a4 (l : Launch) (g : zG)  (x0 : Int32) : zRO l g yJ6_bitCount_0f7a4 wsJ6_bitCount_0f7a4 rmJ6_bitCount_0f7a4 [.int x0] [] (some (.int (f6_bitCount_0f7a4 x0))) := by
  obtain ⟨ro, hF⟩ : ∃ y : Int32, f6_bitCount_0f7a4 x0 = y := ⟨_, rfl⟩
  rw [hF]
  refine zRO_of (cc := cJ6_bitCount_0f7a4) (maxL := 1) (ret := (some .int)) (by decide) rfl (Nat.le_of_ble_eq_true rfl) ?_
  intro p e s m args below meth c ls hx hb hr hml hts hown hlk hK hP hl
  have hown : s.vm.findClass RJ6 = some m.cls := hown
  have hl : lv_has ls 1 [(0, .int x0)] := hl
  unfold f6_bitCount_0f7a4 at hF
  refine lv_iload_n hx hb dJ6_bitCount_0f7a4_0 rfl (lv_at hl 0 rfl) ?_
  refine lv_iload_n hx hb dJ6_bitCount_0f7a4_1 rfl (lv_at hl 0 rfl) ?_
  refine lv_iconst (v := 1) hx hb dJ6_bitCount_0f7a4_2 (by decide) ?_
  refine lv_iushr (v := ((x0).toUInt32 >>> ((1 : Int32).toUInt32 &&& Int32.toUInt32 31)).toInt32) hx hb dJ6_bitCount_0f7a4_3 rfl ?_
  refine lv_ldcw (own := RJ6) (v := 1431655765) hx hb hown (hts (.constant RJ6 265 1431655765) (List.mem_of_getElem? (i := 1) rfl)) dJ6_bitCount_0f7a4_4 ?_
  refine lv_iand hx hb dJ6_bitCount_0f7a4_7 ?_
  refine lv_isub hx hb dJ6_bitCount_0f7a4_8 ?_
  refine lv_topi (fun v1 ev1 => ?_)
  have hF := bd_eq ev1 hF
  refine lv_istore_n (lv' := [(0, .int v1)]) hx hb dJ6_bitCount_0f7a4_9 rfl hl (by decide) rfl (fun ls hl => ?_)
  refine lv_iload_n hx hb dJ6_bitCount_0f7a4_10 rfl (lv_at hl 0 rfl) ?_
  refine lv_ldcw (own := RJ6) (v := 858993459) hx hb hown (hts (.constant RJ6 266 858993459) (List.mem_of_getElem? (i := 2) rfl)) dJ6_bitCount_0f7a4_11 ?_
  refine lv_iand hx hb dJ6_bitCount_0f7a4_14 ?_
  refine lv_iload_n hx hb dJ6_bitCount_0f7a4_15 rfl (lv_at hl 0 rfl) ?_
  refine lv_iconst (v := 2) hx hb dJ6_bitCount_0f7a4_16 (by decide) ?_
  refine lv_iushr (v := ((v1).toUInt32 >>> ((2 : Int32).toUInt32 &&& Int32.toUInt32 31)).toInt32) hx hb dJ6_bitCount_0f7a4_17 rfl ?_
  refine lv_ldcw (own := RJ6) (v := 858993459) hx hb hown (hts (.constant RJ6 266 858993459) (List.mem_of_getElem? (i := 2) rfl)) dJ6_bitCount_0f7a4_18 ?_
  refine lv_iand hx hb dJ6_bitCount_0f7a4_21 ?_
  refine lv_iadd hx hb dJ6_bitCount_0f7a4_22 ?_
  refine lv_topi (fun v2 ev2 => ?_)
  have hF := bd_eq ev2 hF
  refine lv_istore_n (lv' := [(0, .int v2)]) hx hb dJ6_bitCount_0f7a4_23 rfl hl (by decide) rfl (fun ls hl => ?_)
  refine lv_iload_n hx hb dJ6_bitCount_0f7a4_24 rfl (lv_at hl 0 rfl) ?_
  refine lv_iload_n hx hb dJ6_bitCount_0f7a4_25 rfl (lv_at hl 0 rfl) ?_
  refine lv_iconst (v := 4) hx hb dJ6_bitCount_0f7a4_26 (by decide) ?_
  refine lv_iushr (v := ((v2).toUInt32 >>> ((4 : Int32).toUInt32 &&& Int32.toUInt32 31)).toInt32) hx hb dJ6_bitCount_0f7a4_27 rfl ?_
  refine lv_iadd hx hb dJ6_bitCount_0f7a4_28 ?_
  refine lv_ldcw (own := RJ6) (v := 252645135) hx hb hown (hts (.constant RJ6 267 252645135) (List.mem_of_getElem? (i := 3) rfl)) dJ6_bitCount_0f7a4_29 ?_
  refine lv_iand hx hb dJ6_bitCount_0f7a4_32 ?_
  refine lv_topi (fun v3 ev3 => ?_)
  have hF := bd_eq ev3 hF
  refine lv_istore_n (lv' := [(0, .int v3)]) hx hb dJ6_bitCount_0f7a4_33 rfl hl (by decide) rfl (fun ls hl => ?_)
  refine lv_iload_n hx hb dJ6_bitCount_0f7a4_34 rfl (lv_at hl 0 rfl) ?_
  refine lv_iload_n hx hb dJ6_bitCount_0f7a4_35 rfl (lv_at hl 0 rfl) ?_
  refine lv_bipush (v := 8) hx hb dJ6_bitCount_0f7a4_36 (by decide) ?_
  refine lv_iushr (v := ((v3).toUInt32 >>> ((8 : Int32).toUInt32 &&& Int32.toUInt32 31)).toInt32) hx hb dJ6_bitCount_0f7a4_38 rfl ?_
  refine lv_iadd hx hb dJ6_bitCount_0f7a4_39 ?_
  refine lv_topi (fun v4 ev4 => ?_)
  have hF := bd_eq ev4 hF
  refine lv_istore_n (lv' := [(0, .int v4)]) hx hb dJ6_bitCount_0f7a4_40 rfl hl (by decide) rfl (fun ls hl => ?_)
  refine lv_iload_n hx hb dJ6_bitCount_0f7a4_41 rfl (lv_at hl 0 rfl) ?_
  refine lv_iload_n hx hb dJ6_bitCount_0f7a4_42 rfl (lv_at hl 0 rfl) ?_
  refine lv_bipush (v := 16) hx hb dJ6_bitCount_0f7a4_43 (by decide) ?_
  refine lv_iushr (v := ((v4).toUInt32 >>> ((16 : Int32).toUInt32 &&& Int32.toUInt32 31)).toInt32) hx hb dJ6_bitCount_0f7a4_45 rfl ?_
  refine lv_iadd hx hb dJ6_bitCount_0f7a4_46 ?_
  refine lv_topi (fun v5 ev5 => ?_)
  have hF := bd_eq ev5 hF
  refine lv_istore_n (lv' := [(0, .int v5)]) hx hb dJ6_bitCount_0f7a4_47 rfl hl (by decide) rfl (fun ls hl => ?_)
  refine lv_iload_n hx hb dJ6_bitCount_0f7a4_48 rfl (lv_at hl 0 rfl) ?_
  refine lv_bipush (v := 63) hx hb dJ6_bitCount_0f7a4_49 (by decide) ?_
  refine lv_iand hx hb dJ6_bitCount_0f7a4_51 ?_
  exact z_ri hx hb hr hlk (congrArg (fun z => some (Value.int z)) hF) dJ6_bitCount_0f7a4_52
def f7_in (x0 : Int64) (x2 : Int64) (x4 : Int64) : Int32 := if (lg_cmp x0 x2) < 0 then 0 else if 0 < (lg_cmp x0 x4) then 0 else 1
abbrev rmX7_in : Room := { frames := 0, cells := 0, slots := 0, locals := 0 }
set_option maxHeartbeats 4000000 in
set_option maxRecDepth 100000 in
theorem c7_in (l : Launch) (g : zG)  (x0 : Int64) (x2 : Int64) (x4 : Int64) : zRO l g yX7_in wsX7_in rmX7_in [.long x0, .long x2, .long x4] [] (some (.int (f7_in x0 x2 x4))) := by
  obtain ⟨ro, hF⟩ : ∃ y : Int32, f7_in x0 x2 x4 = y := ⟨_, rfl⟩
  rw [hF]
  refine zRO_of (cc := cX7_in) (maxL := 6) (ret := (some .boolean)) (by decide) rfl (Nat.le_of_ble_eq_true rfl) ?_
  intro p e s m args below meth c ls hx hb hr hml hts hown hlk hK hP hl
  have hown : s.vm.findClass RX7 = some m.cls := hown
  have hl : lv_has ls 6 [(0, .long x0), (2, .long x2), (4, .long x4)] := hl
  unfold f7_in at hF
  refine lv_lload_n hx hb dX7_in_0 rfl (lv_at hl 0 rfl) ?_
  refine lv_lload_n hx hb dX7_in_1 rfl (lv_at hl 1 rfl) ?_
  refine W.lcmp hx hb dX7_in_2 ?_
  refine lv_if_lt (tgt := 17) hx hb dX7_in_3 (by decide) (fun c1 => ?_) (fun c1 => ?_)
  · have hF := zit c1 hF
    refine lv_iconst (v := 0) hx hb dX7_in_17 (by decide) ?_
    exact z_rz hx hb hr hlk rfl (congrArg (fun z => some (Value.int z)) hF) dX7_in_18
  · have hF := zif c1 hF
    refine lv_lload_n hx hb dX7_in_6 rfl (lv_at hl 0 rfl) ?_
    refine lv_lload hx hb dX7_in_7 (lv_at hl 2 rfl) ?_
    refine W.lcmp hx hb dX7_in_9 ?_
    refine lv_if_gt (tgt := 17) hx hb dX7_in_10 (by decide) (fun c2 => ?_) (fun c2 => ?_)
    · have hF := zit c2 hF
      refine lv_iconst (v := 0) hx hb dX7_in_17 (by decide) ?_
      exact z_rz hx hb hr hlk rfl (congrArg (fun z => some (Value.int z)) hF) dX7_in_18
    · have hF := zif c2 hF
      refine lv_iconst (v := 1) hx hb dX7_in_13 (by decide) ?_
      refine lv_goto (tgt := 18) hx hb dX7_in_14 (by decide) ?_
      exact z_rz hx hb hr hlk rfl (congrArg (fun z => some (Value.int z)) hF) dX7_in_18
theorem b7_in (x0 : Int64) (x2 : Int64) (x4 : Int64) : narrow .boolean (.int (f7_in x0 x2 x4)) = .int (f7_in x0 x2 x4) := by
  unfold f7_in
  repeat' split
  all_goals first | rfl | exact rfl
def f7_again_l26 (x1 : Int32) : Nat → Int32 → MS → Option (Int32 × MS)
  | 0, _, _ => none
  | n26 + 1, y4, S5 => if 19 ≤ y4 then bd (sI S5 26 0) (fun (S7 : MS) => (zrd (S7.2.1 11) 38 18).bind fun v8 => some (v8, S7)) else (zrd (S5.2.1 36) 38 ((19 * x1) + y4)).bind fun v9 => (zwr (S5.2.1 11) 38 y4 v9).bind fun f10 => bd (mA S5 11 f10) (fun (S11 : MS) => f7_again_l26 x1 n26 (y4 + 1) S11)
def f7_again (S : MS) (x1 : Int32) : Option (Int32 × MS) := if (f7_in ((x1).toInt64) 0 1) = 0 then some ((-1), S) else (zrd (S.2.1 35) 2 x1).bind fun v2 => if v2 = 0 then some ((-3), S) else f7_again_l26 x1 FU 0 S
abbrev rmX7_again : Room := { frames := 1, cells := 0, slots := 0, locals := 25 }
set_option maxHeartbeats 4000000 in
set_option maxRecDepth 100000 in
theorem c7_again (l : Launch) (g : zG) (q : Nat → Nat) (S : MS) (x1 : Int32) (ro : Int32) (S_o : MS) (hF : f7_again S x1 = some (ro, S_o)) : zRW l g yX7_again wsX7_again rmX7_again [.ref (q 0), .int x1] (MW g q S) (some (.int ro)) (MW g q S_o) := by
  refine zRW_of (cc := cX7_again) (maxL := 3) (ret := (some .int)) (by decide) rfl (Nat.le_of_ble_eq_true rfl) ?_
  intro p e s m args below meth c A H locs ls hx hb hr hml hts hown hlk hK hA hP hD hS hl
  have hown : s.vm.findClass RX7 = some m.cls := hown
  have hl : lv_has ls 3 [(0, .ref (q 0)), (1, .int x1)] := hl
  have inX7 : ∀ w ∈ wsX70, w ∈ wsX7_again := fun _ h => List.mem_cons_of_mem _ (List.mem_append_right _ h)
  unfold f7_again at hF
  refine lv_iload_n hx hb dX7_again_0 rfl (lv_at hl 1 rfl) ?_
  refine lv_i2l (v := (x1).toInt64) hx hb dX7_again_1 rfl ?_
  refine lv_lconst (v := 0) hx hb dX7_again_2 (by decide) ?_
  refine lv_lconst (v := 1) hx hb dX7_again_3 (by decide) ?_
  refine z_rgo (va_runS (As := [.long ((x1).toInt64), .long 0, .long 1]) (rest := []) ⟨hx, hb, hml, hown, hts⟩ (c7_in l g   ((x1).toInt64) 0 1) (va_cwS 3 hts gX7_again_X7_in rfl rfl rfl (by decide +kernel) ⟨Nat.le_of_ble_eq_true rfl, Nat.le_of_ble_eq_true rfl⟩) (z_rpre z_nil hK) rfl rfl hl.1 rfl (lv_room (Nat.le_of_ble_eq_true rfl)) dX7_again_4 ⟨Nat.zero_le _, Nat.zero_le _⟩) ?_
  refine lv_if_ne (tgt := 12) hx hb dX7_again_7 (by decide) (fun c1 => ?_) (fun c1 => ?_)
  · have hF := zif c1 hF
    refine lv_aload_n hx hb dX7_again_12 rfl (lv_at hl 0 rfl) ?_
    refine z_get (ci := 7) (v := .ref (q 18)) (C := RX7) (T := TX7) (N := 37) hx hb hts inX7 hown hK hP 0 rfl rfl 35 (by decide) (List.mem_of_getElem? (i := 1) rfl) rfl rfl dX7_again_13 ?_
    refine lv_iload_n hx hb dX7_again_16 rfl (lv_at hl 1 rfl) ?_
    obtain ⟨v2, hv2, hF⟩ := zob hF
    refine z_zald hx hb hK hP 18 rfl hv2 dX7_again_17 ?_
    refine lv_if_ne (tgt := 24) hx hb dX7_again_18 (by decide) (fun c3 => ?_) (fun c3 => ?_)
    · have hF := zif c3 hF
      refine lv_iconst (v := 0) hx hb dX7_again_24 (by decide) ?_
      refine lv_istore_n (lv' := [(2, .int 0), (0, .ref (q 0)), (1, .int x1)]) hx hb dX7_again_25 rfl hl (by decide) rfl (fun ls hl => ?_)
      have L26 : ∀ (n26 : Nat) (y4 : Int32) (S5 : MS) (H : Heap) (locs : List Loc) (ls : Array Slot), f7_again_l26 x1 n26 y4 S5 = some (ro, S_o) → va_P (zD g) vwCl (MW g q S5) H → va_D A (MW g q S5) → va_S A s.heap H locs → lv_has ls 3 [(0, .ref (q 0)), (1, .int x1), (2, .int y4)] → W p l e (headSpec wsX7_again rmX7_again).room s m args below meth c H locs 0 0 (MQ below (zWQ g A (MW g q S_o) (some (.int ro))) args s 0 0 A) (F0 m 26 ls []) := by
        intro n26
        induction n26 with
        | zero =>
          intro y4 S5 H locs ls hF hP hD hS hl
          exact absurd (show (none : Option (Int32 × MS)) = some _ from hF) (fun h9 => by cases h9)
        | succ n26 ih26 =>
          intro y4 S5 H locs ls hF hP hD hS hl
          rw [f7_again_l26] at hF
          refine lv_iload_n hx hb dX7_again_26 rfl (lv_at hl 2 rfl) ?_
          refine lv_bipush (v := 19) hx hb dX7_again_27 (by decide) ?_
          refine lv_icmp_ge (tgt := 55) hx hb dX7_again_29 (by decide) (fun c6 => ?_) (fun c6 => ?_)
          · have hF := zit c6 hF
            refine lv_aload_n hx hb dX7_again_55 rfl (lv_at hl 0 rfl) ?_
            refine lv_iconst (v := 0) hx hb dX7_again_56 (by decide) ?_
            refine z_put (ci := 7) (v := .int 0) (C := RX7) (T := TX7) (N := 37) (ws' := MW g q (sI S5 26 0)) hx hb hts inX7 tyX7 tyX7_ok nmX7 hown hK hP hD hS 0 rfl rfl 26 (by decide) (List.mem_of_getElem? (i := 4) rfl) rfl rfl rfl rfl (Nat.le_of_ble_eq_true rfl) rfl dX7_again_57 (fun H locs hP hD hS => ?_)
            obtain ⟨S7, eS7⟩ : ∃ y : MS, y = (sI S5 26 0) := ⟨_, rfl⟩
            rw [← eS7] at hP hD
            have hF := bd_eq eS7 hF
            refine lv_aload_n hx hb dX7_again_60 rfl (lv_at hl 0 rfl) ?_
            refine z_get (ci := 7) (v := .ref (q 7)) (C := RX7) (T := TX7) (N := 37) hx hb hts inX7 hown hK hP 0 rfl rfl 11 (by decide) (List.mem_of_getElem? (i := 2) rfl) rfl rfl dX7_again_61 ?_
            refine lv_bipush (v := 18) hx hb dX7_again_64 (by decide) ?_
            obtain ⟨v8, hv8, hF⟩ := zob hF
            refine z_iald hx hb hK hP 7 rfl hv8 dX7_again_66 ?_
            obtain ⟨e9a, e9b⟩ := Prod.mk.inj (zin hF)
            exact z_wi hx hb hr hlk hP hD hS (congrArg (fun z => some (Value.int z)) e9a) (by rw [e9b]) dX7_again_67
          · have hF := zif c6 hF
            refine lv_aload_n hx hb dX7_again_32 rfl (lv_at hl 0 rfl) ?_
            refine z_get (ci := 7) (v := .ref (q 7)) (C := RX7) (T := TX7) (N := 37) hx hb hts inX7 hown hK hP 0 rfl rfl 11 (by decide) (List.mem_of_getElem? (i := 2) rfl) rfl rfl dX7_again_33 ?_
            refine lv_iload_n hx hb dX7_again_36 rfl (lv_at hl 2 rfl) ?_
            refine lv_aload_n hx hb dX7_again_37 rfl (lv_at hl 0 rfl) ?_
            refine z_get (ci := 7) (v := .ref (q 19)) (C := RX7) (T := TX7) (N := 37) hx hb hts inX7 hown hK hP 0 rfl rfl 36 (by decide) (List.mem_of_getElem? (i := 3) rfl) rfl rfl dX7_again_38 ?_
            refine lv_bipush (v := 19) hx hb dX7_again_41 (by decide) ?_
            refine lv_iload_n hx hb dX7_again_43 rfl (lv_at hl 1 rfl) ?_
            refine lv_imul hx hb dX7_again_44 ?_
            refine lv_iload_n hx hb dX7_again_45 rfl (lv_at hl 2 rfl) ?_
            refine lv_iadd hx hb dX7_again_46 ?_
            obtain ⟨v9, hv9, hF⟩ := zob hF
            refine z_iald hx hb hK hP 19 rfl hv9 dX7_again_47 ?_
            obtain ⟨f10, hf10, hF⟩ := zob hF
            refine z_iast (ws' := MW g q (mA S5 11 f10)) hx hb hK hP hD hS 7 rfl hf10 rfl dX7_again_48 (fun H locs hP hD hS => ?_)
            obtain ⟨S11, eS11⟩ : ∃ y : MS, y = (mA S5 11 f10) := ⟨_, rfl⟩
            rw [← eS11] at hP hD
            have hF := bd_eq eS11 hF
            refine lv_iinc (v := (y4 + 1)) (lv' := [(2, .int (y4 + 1)), (0, .ref (q 0)), (1, .int x1)]) hx hb dX7_again_49 hl (k := 2) rfl rfl (by decide) rfl (fun ls hl => ?_)
            refine lv_goto (tgt := 26) hx hb dX7_again_52 (by decide) ?_
            exact ih26 (y4 + 1) S11 H locs ls hF hP hD hS (lv_sub hl [1, 2, 0] rfl)
      exact L26 FU 0 S H locs ls hF hP hD hS (lv_sub hl [1, 2, 0] rfl)
    · have hF := zit c3 hF
      refine lv_bipush (v := (-3)) hx hb dX7_again_21 (by decide) ?_
      obtain ⟨e9a, e9b⟩ := Prod.mk.inj (zin hF)
      exact z_wi hx hb hr hlk hP hD hS (congrArg (fun z => some (Value.int z)) e9a) (by rw [e9b]) dX7_again_23
  · have hF := zit c1 hF
    refine lv_iconst (v := (-1)) hx hb dX7_again_10 (by decide) ?_
    obtain ⟨e9a, e9b⟩ := Prod.mk.inj (zin hF)
    exact z_wi hx hb hr hlk hP hD hS (congrArg (fun z => some (Value.int z)) e9a) (by rw [e9b]) dX7_again_11
def f7_layTrial_l2 : Nat → Int32 → MS → Option (MS)
  | 0, _, _ => none
  | n2 + 1, y1, S2 => if 19 ≤ y1 then some S2 else (zrd (S2.2.1 11) 38 y1).bind fun v4 => (zwr (S2.2.1 11) 38 (19 + y1) v4).bind fun f5 => bd (mA S2 11 f5) (fun (S6 : MS) => f7_layTrial_l2 n2 (y1 + 1) S6)
def f7_layTrial (S : MS) : Option (MS) := f7_layTrial_l2 FU 0 S
abbrev rmX7_layTrial : Room := { frames := 0, cells := 0, slots := 0, locals := 0 }
set_option maxHeartbeats 4000000 in
set_option maxRecDepth 100000 in
theorem c7_layTrial (l : Launch) (g : zG) (q : Nat → Nat) (S : MS) (S_o : MS) (hF : f7_layTrial S = some S_o) : zRW l g yX7_layTrial wsX7_layTrial rmX7_layTrial [.ref (q 0)] (MW g q S) none (MW g q S_o) := by
  refine zRW_of (cc := cX7_layTrial) (maxL := 2) (ret := none) (by decide) rfl (Nat.le_of_ble_eq_true rfl) ?_
  intro p e s m args below meth c A H locs ls hx hb hr hml hts hown hlk hK hA hP hD hS hl
  have hown : s.vm.findClass RX7 = some m.cls := hown
  have hl : lv_has ls 2 [(0, .ref (q 0))] := hl
  have inX7 : ∀ w ∈ wsX70, w ∈ wsX7_layTrial := fun _ h => List.mem_cons_of_mem _ (List.mem_append_right _ h)
  unfold f7_layTrial at hF
  refine lv_iconst (v := 0) hx hb dX7_layTrial_0 (by decide) ?_
  refine lv_istore_n (lv' := [(1, .int 0), (0, .ref (q 0))]) hx hb dX7_layTrial_1 rfl hl (by decide) rfl (fun ls hl => ?_)
  have L2 : ∀ (n2 : Nat) (y1 : Int32) (S2 : MS) (H : Heap) (locs : List Loc) (ls : Array Slot), f7_layTrial_l2 n2 y1 S2 = some S_o → va_P (zD g) vwCl (MW g q S2) H → va_D A (MW g q S2) → va_S A s.heap H locs → lv_has ls 2 [(0, .ref (q 0)), (1, .int y1)] → W p l e (headSpec wsX7_layTrial rmX7_layTrial).room s m args below meth c H locs 0 0 (MQ below (zWQ g A (MW g q S_o) none) args s 0 0 A) (F0 m 2 ls []) := by
    intro n2
    induction n2 with
    | zero =>
      intro y1 S2 H locs ls hF hP hD hS hl
      exact absurd (show (none : Option (MS)) = some _ from hF) (fun h9 => by cases h9)
    | succ n2 ih2 =>
      intro y1 S2 H locs ls hF hP hD hS hl
      rw [f7_layTrial_l2] at hF
      refine lv_iload_n hx hb dX7_layTrial_2 rfl (lv_at hl 1 rfl) ?_
      refine lv_bipush (v := 19) hx hb dX7_layTrial_3 (by decide) ?_
      refine lv_icmp_ge (tgt := 29) hx hb dX7_layTrial_5 (by decide) (fun c3 => ?_) (fun c3 => ?_)
      · have hF := zit c3 hF
        have e9b := zin hF
        exact z_wv hx hb hr hlk hP hD hS (by rw [e9b]) dX7_layTrial_29
      · have hF := zif c3 hF
        refine lv_aload_n hx hb dX7_layTrial_8 rfl (lv_at hl 0 rfl) ?_
        refine z_get (ci := 7) (v := .ref (q 7)) (C := RX7) (T := TX7) (N := 37) hx hb hts inX7 hown hK hP 0 rfl rfl 11 (by decide) (List.mem_of_getElem? (i := 1) rfl) rfl rfl dX7_layTrial_9 ?_
        refine lv_bipush (v := 19) hx hb dX7_layTrial_12 (by decide) ?_
        refine lv_iload_n hx hb dX7_layTrial_14 rfl (lv_at hl 1 rfl) ?_
        refine lv_iadd hx hb dX7_layTrial_15 ?_
        refine lv_aload_n hx hb dX7_layTrial_16 rfl (lv_at hl 0 rfl) ?_
        refine z_get (ci := 7) (v := .ref (q 7)) (C := RX7) (T := TX7) (N := 37) hx hb hts inX7 hown hK hP 0 rfl rfl 11 (by decide) (List.mem_of_getElem? (i := 1) rfl) rfl rfl dX7_layTrial_17 ?_
        refine lv_iload_n hx hb dX7_layTrial_20 rfl (lv_at hl 1 rfl) ?_
        obtain ⟨v4, hv4, hF⟩ := zob hF
        refine z_iald hx hb hK hP 7 rfl hv4 dX7_layTrial_21 ?_
        obtain ⟨f5, hf5, hF⟩ := zob hF
        refine z_iast (ws' := MW g q (mA S2 11 f5)) hx hb hK hP hD hS 7 rfl hf5 rfl dX7_layTrial_22 (fun H locs hP hD hS => ?_)
        obtain ⟨S6, eS6⟩ : ∃ y : MS, y = (mA S2 11 f5) := ⟨_, rfl⟩
        rw [← eS6] at hP hD
        have hF := bd_eq eS6 hF
        refine lv_iinc (v := (y1 + 1)) (lv' := [(1, .int (y1 + 1)), (0, .ref (q 0))]) hx hb dX7_layTrial_23 hl (k := 1) rfl rfl (by decide) rfl (fun ls hl => ?_)
        refine lv_goto (tgt := 2) hx hb dX7_layTrial_26 (by decide) ?_
        exact ih2 (y1 + 1) S6 H locs ls hF hP hD hS (lv_sub hl [1, 0] rfl)
  exact L2 FU 0 S H locs ls hF hP hD hS (lv_sub hl [1, 0] rfl)
def f7_tideOn (S : MS) (x1 : Int32) : Option (Int32) := (zrd (S.2.1 11) 38 ((19 * x1) + 18)).bind fun v1 => if 2 ≤ (v1 - v1 / 4 * 4) then some (S.1 4) else some (S.1 3)
abbrev rmX7_tideOn : Room := { frames := 0, cells := 0, slots := 0, locals := 0 }
set_option maxHeartbeats 4000000 in
set_option maxRecDepth 100000 in
theorem c7_tideOn (l : Launch) (g : zG) (q : Nat → Nat) (S : MS) (x1 : Int32) (ro : Int32) (hF : f7_tideOn S x1 = some ro) : zRO l g yX7_tideOn wsX7_tideOn rmX7_tideOn [.ref (q 0), .int x1] (MW g q S) (some (.int ro)) := by
  refine zRO_of (cc := cX7_tideOn) (maxL := 2) (ret := (some .int)) (by decide) rfl (Nat.le_of_ble_eq_true rfl) ?_
  intro p e s m args below meth c ls hx hb hr hml hts hown hlk hK hP hl
  have hown : s.vm.findClass RX7 = some m.cls := hown
  have hl : lv_has ls 2 [(0, .ref (q 0)), (1, .int x1)] := hl
  have inX7 : ∀ w ∈ wsX70, w ∈ wsX7_tideOn := fun _ h => List.mem_cons_of_mem _ (List.mem_append_right _ h)
  unfold f7_tideOn at hF
  refine lv_aload_n hx hb dX7_tideOn_0 rfl (lv_at hl 0 rfl) ?_
  refine z_get (ci := 7) (v := .ref (q 7)) (C := RX7) (T := TX7) (N := 37) hx hb hts inX7 hown hK hP 0 rfl rfl 11 (by decide) (List.mem_of_getElem? (i := 1) rfl) rfl rfl dX7_tideOn_1 ?_
  refine lv_bipush (v := 19) hx hb dX7_tideOn_4 (by decide) ?_
  refine lv_iload_n hx hb dX7_tideOn_6 rfl (lv_at hl 1 rfl) ?_
  refine lv_imul hx hb dX7_tideOn_7 ?_
  refine lv_bipush (v := 18) hx hb dX7_tideOn_8 (by decide) ?_
  refine lv_iadd hx hb dX7_tideOn_10 ?_
  obtain ⟨v1, hv1, hF⟩ := zob hF
  refine z_iald hx hb hK hP 7 rfl hv1 dX7_tideOn_11 ?_
  refine lv_iconst (v := 4) hx hb dX7_tideOn_12 (by decide) ?_
  refine lv_irem hx hb dX7_tideOn_13 (by decide) ?_
  refine lv_iconst (v := 2) hx hb dX7_tideOn_14 (by decide) ?_
  refine lv_icmp_ge (tgt := 25) hx hb dX7_tideOn_15 (by decide) (fun c2 => ?_) (fun c2 => ?_)
  · have hF := zit c2 hF
    refine lv_aload_n hx hb dX7_tideOn_25 rfl (lv_at hl 0 rfl) ?_
    refine z_get (ci := 7) (v := .int (S.1 4)) (C := RX7) (T := TX7) (N := 37) hx hb hts inX7 hown hK hP 0 rfl rfl 4 (by decide) (List.mem_of_getElem? (i := 3) rfl) rfl rfl dX7_tideOn_26 ?_
    have e9a := zin hF
    exact z_ri hx hb hr hlk (congrArg (fun z => some (Value.int z)) e9a) dX7_tideOn_29
  · have hF := zif c2 hF
    refine lv_aload_n hx hb dX7_tideOn_18 rfl (lv_at hl 0 rfl) ?_
    refine z_get (ci := 7) (v := .int (S.1 3)) (C := RX7) (T := TX7) (N := 37) hx hb hts inX7 hown hK hP 0 rfl rfl 3 (by decide) (List.mem_of_getElem? (i := 2) rfl) rfl rfl dX7_tideOn_19 ?_
    refine lv_goto (tgt := 29) hx hb dX7_tideOn_22 (by decide) ?_
    have e9a := zin hF
    exact z_ri hx hb hr hlk (congrArg (fun z => some (Value.int z)) e9a) dX7_tideOn_29
def f7_isOut (S : MS) (x1 : Int32) (x2 : Int32) : Option (Int32) := (zrd (S.2.1 11) 38 (((19 * x1) + 12) + x2)).bind fun v1 => if v1 = 1 then some 1 else some 0
abbrev rmX7_isOut : Room := { frames := 0, cells := 0, slots := 0, locals := 0 }
set_option maxHeartbeats 4000000 in
set_option maxRecDepth 100000 in
theorem c7_isOut (l : Launch) (g : zG) (q : Nat → Nat) (S : MS) (x1 : Int32) (x2 : Int32) (ro : Int32) (hF : f7_isOut S x1 x2 = some ro) : zRO l g yX7_isOut wsX7_isOut rmX7_isOut [.ref (q 0), .int x1, .int x2] (MW g q S) (some (.int ro)) := by
  refine zRO_of (cc := cX7_isOut) (maxL := 3) (ret := (some .boolean)) (by decide) rfl (Nat.le_of_ble_eq_true rfl) ?_
  intro p e s m args below meth c ls hx hb hr hml hts hown hlk hK hP hl
  have hown : s.vm.findClass RX7 = some m.cls := hown
  have hl : lv_has ls 3 [(0, .ref (q 0)), (1, .int x1), (2, .int x2)] := hl
  have inX7 : ∀ w ∈ wsX70, w ∈ wsX7_isOut := fun _ h => List.mem_cons_of_mem _ (List.mem_append_right _ h)
  unfold f7_isOut at hF
  refine lv_aload_n hx hb dX7_isOut_0 rfl (lv_at hl 0 rfl) ?_
  refine z_get (ci := 7) (v := .ref (q 7)) (C := RX7) (T := TX7) (N := 37) hx hb hts inX7 hown hK hP 0 rfl rfl 11 (by decide) (List.mem_of_getElem? (i := 1) rfl) rfl rfl dX7_isOut_1 ?_
  refine lv_bipush (v := 19) hx hb dX7_isOut_4 (by decide) ?_
  refine lv_iload_n hx hb dX7_isOut_6 rfl (lv_at hl 1 rfl) ?_
  refine lv_imul hx hb dX7_isOut_7 ?_
  refine lv_bipush (v := 12) hx hb dX7_isOut_8 (by decide) ?_
  refine lv_iadd hx hb dX7_isOut_10 ?_
  refine lv_iload_n hx hb dX7_isOut_11 rfl (lv_at hl 2 rfl) ?_
  refine lv_iadd hx hb dX7_isOut_12 ?_
  obtain ⟨v1, hv1, hF⟩ := zob hF
  refine z_iald hx hb hK hP 7 rfl hv1 dX7_isOut_13 ?_
  refine lv_iconst (v := 1) hx hb dX7_isOut_14 (by decide) ?_
  refine lv_icmp_ne (tgt := 22) hx hb dX7_isOut_15 (by decide) (fun c2 => ?_) (fun c2 => ?_)
  · have hF := zif c2 hF
    refine lv_iconst (v := 0) hx hb dX7_isOut_22 (by decide) ?_
    have e9a := zin hF
    exact z_rz hx hb hr hlk rfl (congrArg (fun z => some (Value.int z)) e9a) dX7_isOut_23
  · have hF := zit c2 hF
    refine lv_iconst (v := 1) hx hb dX7_isOut_18 (by decide) ?_
    refine lv_goto (tgt := 23) hx hb dX7_isOut_19 (by decide) ?_
    have e9a := zin hF
    exact z_rz hx hb hr hlk rfl (congrArg (fun z => some (Value.int z)) e9a) dX7_isOut_23
def f7_has (x0 : Int32) (x1 : Int32) : Int32 := if ((x0 >>> (x1 &&& 31)) &&& 1) = 1 then 1 else 0
abbrev rmX7_has : Room := { frames := 0, cells := 0, slots := 0, locals := 0 }
set_option maxHeartbeats 4000000 in
set_option maxRecDepth 100000 in
theorem c7_has (l : Launch) (g : zG)  (x0 : Int32) (x1 : Int32) : zRO l g yX7_has wsX7_has rmX7_has [.int x0, .int x1] [] (some (.int (f7_has x0 x1))) := by
  obtain ⟨ro, hF⟩ : ∃ y : Int32, f7_has x0 x1 = y := ⟨_, rfl⟩
  rw [hF]
  refine zRO_of (cc := cX7_has) (maxL := 2) (ret := (some .boolean)) (by decide) rfl (Nat.le_of_ble_eq_true rfl) ?_
  intro p e s m args below meth c ls hx hb hr hml hts hown hlk hK hP hl
  have hown : s.vm.findClass RX7 = some m.cls := hown
  have hl : lv_has ls 2 [(0, .int x0), (1, .int x1)] := hl
  unfold f7_has at hF
  refine lv_iload_n hx hb dX7_has_0 rfl (lv_at hl 0 rfl) ?_
  refine lv_iload_n hx hb dX7_has_1 rfl (lv_at hl 1 rfl) ?_
  refine lv_ishr hx hb dX7_has_2 ?_
  refine lv_iconst (v := 1) hx hb dX7_has_3 (by decide) ?_
  refine lv_iand hx hb dX7_has_4 ?_
  refine lv_iconst (v := 1) hx hb dX7_has_5 (by decide) ?_
  refine lv_icmp_ne (tgt := 13) hx hb dX7_has_6 (by decide) (fun c1 => ?_) (fun c1 => ?_)
  · have hF := zif c1 hF
    refine lv_iconst (v := 0) hx hb dX7_has_13 (by decide) ?_
    exact z_rz hx hb hr hlk rfl (congrArg (fun z => some (Value.int z)) hF) dX7_has_14
  · have hF := zit c1 hF
    refine lv_iconst (v := 1) hx hb dX7_has_9 (by decide) ?_
    refine lv_goto (tgt := 14) hx hb dX7_has_10 (by decide) ?_
    exact z_rz hx hb hr hlk rfl (congrArg (fun z => some (Value.int z)) hF) dX7_has_14
theorem b7_has (x0 : Int32) (x1 : Int32) : narrow .boolean (.int (f7_has x0 x1)) = .int (f7_has x0 x1) := by
  unfold f7_has
  repeat' split
  all_goals first | rfl | exact rfl
def f7_joinedOn_l5 (x1 : Int32) (x2 : Int32) (S : MS) : Nat → Int32 → Int32 → Option (Int32)
  | 0, _, _ => none
  | n5 + 1, y1, y2 => if (S.1 1) ≤ y2 then some y1 else (zrd (S.2.1 11) 38 ((19 * x1) + 16)).bind fun v4 => if (f7_has v4 y2) = 0 then f7_joinedOn_l5 x1 x2 S n5 y1 (y2 + 1) else (zrd (S.2.1 7) 16 (2 * y2)).bind fun v6 => (if v6 = x2 then (zrd (S.2.1 7) 16 ((2 * y2) + 1)).bind fun v13 => some ((1 : Int32) <<< (v13 &&& 31)) else (zrd (S.2.1 7) 16 ((2 * y2) + 1)).bind fun v10 => if v10 = x2 then (zrd (S.2.1 7) 16 (2 * y2)).bind fun v12 => some ((1 : Int32) <<< (v12 &&& 31)) else some 0 : Option Int32).bind fun v7 => bd (α := Int32) (y1 ||| v7) (fun (v14 : Int32) => f7_joinedOn_l5 x1 x2 S n5 v14 (y2 + 1))
def f7_joinedOn (S : MS) (x1 : Int32) (x2 : Int32) : Option (Int32) := f7_joinedOn_l5 x1 x2 S FU 0 0
abbrev rmX7_joinedOn : Room := { frames := 1, cells := 0, slots := 0, locals := 21 }
set_option maxHeartbeats 4000000 in
set_option maxRecDepth 100000 in
theorem c7_joinedOn (l : Launch) (g : zG) (q : Nat → Nat) (S : MS) (x1 : Int32) (x2 : Int32) (ro : Int32) (hF : f7_joinedOn S x1 x2 = some ro) : zRO l g yX7_joinedOn wsX7_joinedOn rmX7_joinedOn [.ref (q 0), .int x1, .int x2] (MW g q S) (some (.int ro)) := by
  refine zRO_of (cc := cX7_joinedOn) (maxL := 5) (ret := (some .int)) (by decide) rfl (Nat.le_of_ble_eq_true rfl) ?_
  intro p e s m args below meth c ls hx hb hr hml hts hown hlk hK hP hl
  have hown : s.vm.findClass RX7 = some m.cls := hown
  have hl : lv_has ls 5 [(0, .ref (q 0)), (1, .int x1), (2, .int x2)] := hl
  have inX7 : ∀ w ∈ wsX70, w ∈ wsX7_joinedOn := fun _ h => List.mem_cons_of_mem _ (List.mem_append_right _ h)
  unfold f7_joinedOn at hF
  refine lv_iconst (v := 0) hx hb dX7_joinedOn_0 (by decide) ?_
  refine lv_istore_n (lv' := [(3, .int 0), (0, .ref (q 0)), (1, .int x1), (2, .int x2)]) hx hb dX7_joinedOn_1 rfl hl (by decide) rfl (fun ls hl => ?_)
  refine lv_iconst (v := 0) hx hb dX7_joinedOn_2 (by decide) ?_
  refine lv_istore (lv' := [(4, .int 0), (3, .int 0), (0, .ref (q 0)), (1, .int x1), (2, .int x2)]) hx hb dX7_joinedOn_3 hl (by decide) rfl (fun ls hl => ?_)
  have L5 : ∀ (n5 : Nat) (y1 : Int32) (y2 : Int32) (ls : Array Slot), f7_joinedOn_l5 x1 x2 S n5 y1 y2 = some ro → lv_has ls 5 [(0, .ref (q 0)), (1, .int x1), (2, .int x2), (3, .int y1), (4, .int y2)] → W p l e (headSpec wsX7_joinedOn rmX7_joinedOn).room s m args below meth c s.heap [] 0 0 (MQ below (zRQ (some (.int ro))) args s 0 0 (fun _ => False)) (F0 m 5 ls []) := by
    intro n5
    induction n5 with
    | zero =>
      intro y1 y2 ls hF hl
      exact absurd (show (none : Option (Int32)) = some _ from hF) (fun h9 => by cases h9)
    | succ n5 ih5 =>
      intro y1 y2 ls hF hl
      rw [f7_joinedOn_l5] at hF
      refine lv_iload hx hb dX7_joinedOn_5 (lv_at hl 4 rfl) ?_
      refine lv_aload_n hx hb dX7_joinedOn_7 rfl (lv_at hl 0 rfl) ?_
      refine z_get (ci := 7) (v := .int (S.1 1)) (C := RX7) (T := TX7) (N := 37) hx hb hts inX7 hown hK hP 0 rfl rfl 1 (by decide) (List.mem_of_getElem? (i := 1) rfl) rfl rfl dX7_joinedOn_8 ?_
      refine lv_icmp_ge (tgt := 102) hx hb dX7_joinedOn_11 (by decide) (fun c3 => ?_) (fun c3 => ?_)
      · have hF := zit c3 hF
        refine lv_iload_n hx hb dX7_joinedOn_102 rfl (lv_at hl 3 rfl) ?_
        have e9a := zin hF
        exact z_ri hx hb hr hlk (congrArg (fun z => some (Value.int z)) e9a) dX7_joinedOn_103
      · have hF := zif c3 hF
        refine lv_aload_n hx hb dX7_joinedOn_14 rfl (lv_at hl 0 rfl) ?_
        refine z_get (ci := 7) (v := .ref (q 7)) (C := RX7) (T := TX7) (N := 37) hx hb hts inX7 hown hK hP 0 rfl rfl 11 (by decide) (List.mem_of_getElem? (i := 2) rfl) rfl rfl dX7_joinedOn_15 ?_
        refine lv_bipush (v := 19) hx hb dX7_joinedOn_18 (by decide) ?_
        refine lv_iload_n hx hb dX7_joinedOn_20 rfl (lv_at hl 1 rfl) ?_
        refine lv_imul hx hb dX7_joinedOn_21 ?_
        refine lv_bipush (v := 16) hx hb dX7_joinedOn_22 (by decide) ?_
        refine lv_iadd hx hb dX7_joinedOn_24 ?_
        obtain ⟨v4, hv4, hF⟩ := zob hF
        refine z_iald hx hb hK hP 7 rfl hv4 dX7_joinedOn_25 ?_
        refine lv_iload hx hb dX7_joinedOn_26 (lv_at hl 4 rfl) ?_
        refine z_rgo (va_runS (As := [.int v4, .int y2]) (rest := []) ⟨hx, hb, hml, hown, hts⟩ (c7_has l g   v4 y2) (va_cwS 2 hts gX7_joinedOn_X7_has rfl rfl rfl (by decide +kernel) ⟨Nat.le_of_ble_eq_true rfl, Nat.le_of_ble_eq_true rfl⟩) (z_rpre z_nil hK) rfl rfl hl.1 rfl (lv_room (Nat.le_of_ble_eq_true rfl)) dX7_joinedOn_28 ⟨Nat.zero_le _, Nat.zero_le _⟩) ?_
        refine lv_if_eq (tgt := 96) hx hb dX7_joinedOn_31 (by decide) (fun c5 => ?_) (fun c5 => ?_)
        · have hF := zit c5 hF
          refine lv_iinc (v := (y2 + 1)) (lv' := [(4, .int (y2 + 1)), (0, .ref (q 0)), (1, .int x1), (2, .int x2), (3, .int y1)]) hx hb dX7_joinedOn_96 hl (k := 4) rfl rfl (by decide) rfl (fun ls hl => ?_)
          refine lv_goto (tgt := 5) hx hb dX7_joinedOn_99 (by decide) ?_
          exact ih5 y1 (y2 + 1) ls hF (lv_sub hl [1, 2, 3, 4, 0] rfl)
        · have hF := zif c5 hF
          refine lv_iload_n hx hb dX7_joinedOn_34 rfl (lv_at hl 3 rfl) ?_
          refine lv_aload_n hx hb dX7_joinedOn_35 rfl (lv_at hl 0 rfl) ?_
          refine z_get (ci := 7) (v := .ref (q 3)) (C := RX7) (T := TX7) (N := 37) hx hb hts inX7 hown hK hP 0 rfl rfl 7 (by decide) (List.mem_of_getElem? (i := 3) rfl) rfl rfl dX7_joinedOn_36 ?_
          refine lv_iconst (v := 2) hx hb dX7_joinedOn_39 (by decide) ?_
          refine lv_iload hx hb dX7_joinedOn_40 (lv_at hl 4 rfl) ?_
          refine lv_imul hx hb dX7_joinedOn_42 ?_
          obtain ⟨v6, hv6, hF⟩ := zob hF
          refine z_iald hx hb hK hP 3 rfl hv6 dX7_joinedOn_43 ?_
          refine lv_iload_n hx hb dX7_joinedOn_44 rfl (lv_at hl 2 rfl) ?_
          obtain ⟨v7, hVv7, hF⟩ := zob hF
          have Jv7 : W p l e (headSpec wsX7_joinedOn rmX7_joinedOn).room s m args below meth c s.heap [] 0 0 (MQ below (zRQ (some (.int ro))) args s 0 0 (fun _ => False)) (F0 m 94 ls [.int v7, .int y1]) := by
            refine lv_ior hx hb dX7_joinedOn_94 ?_
            refine lv_topi (fun v14 ev14 => ?_)
            have hF := bd_eq ev14 hF
            refine lv_istore_n (lv' := [(3, .int v14), (0, .ref (q 0)), (1, .int x1), (2, .int x2), (4, .int y2)]) hx hb dX7_joinedOn_95 rfl hl (by decide) rfl (fun ls hl => ?_)
            refine lv_iinc (v := (y2 + 1)) (lv' := [(4, .int (y2 + 1)), (3, .int v14), (0, .ref (q 0)), (1, .int x1), (2, .int x2)]) hx hb dX7_joinedOn_96 hl (k := 4) rfl rfl (by decide) rfl (fun ls hl => ?_)
            refine lv_goto (tgt := 5) hx hb dX7_joinedOn_99 (by decide) ?_
            exact ih5 v14 (y2 + 1) ls hF (lv_sub hl [2, 3, 4, 1, 0] rfl)
          refine lv_icmp_ne (tgt := 64) hx hb dX7_joinedOn_45 (by decide) (fun c9 => ?_) (fun c9 => ?_)
          · have hVv7 := zif c9 hVv7
            refine lv_aload_n hx hb dX7_joinedOn_64 rfl (lv_at hl 0 rfl) ?_
            refine z_get (ci := 7) (v := .ref (q 3)) (C := RX7) (T := TX7) (N := 37) hx hb hts inX7 hown hK hP 0 rfl rfl 7 (by decide) (List.mem_of_getElem? (i := 3) rfl) rfl rfl dX7_joinedOn_65 ?_
            refine lv_iconst (v := 2) hx hb dX7_joinedOn_68 (by decide) ?_
            refine lv_iload hx hb dX7_joinedOn_69 (lv_at hl 4 rfl) ?_
            refine lv_imul hx hb dX7_joinedOn_71 ?_
            refine lv_iconst (v := 1) hx hb dX7_joinedOn_72 (by decide) ?_
            refine lv_iadd hx hb dX7_joinedOn_73 ?_
            obtain ⟨v10, hv10, hVv7⟩ := zob hVv7
            refine z_iald hx hb hK hP 3 rfl hv10 dX7_joinedOn_74 ?_
            refine lv_iload_n hx hb dX7_joinedOn_75 rfl (lv_at hl 2 rfl) ?_
            refine lv_icmp_ne (tgt := 93) hx hb dX7_joinedOn_76 (by decide) (fun c11 => ?_) (fun c11 => ?_)
            · have hVv7 := zif c11 hVv7
              refine lv_iconst (v := 0) hx hb dX7_joinedOn_93 (by decide) ?_
              have hVv7 := zin hVv7
              subst hVv7
              exact Jv7
            · have hVv7 := zit c11 hVv7
              refine lv_iconst (v := 1) hx hb dX7_joinedOn_79 (by decide) ?_
              refine lv_aload_n hx hb dX7_joinedOn_80 rfl (lv_at hl 0 rfl) ?_
              refine z_get (ci := 7) (v := .ref (q 3)) (C := RX7) (T := TX7) (N := 37) hx hb hts inX7 hown hK hP 0 rfl rfl 7 (by decide) (List.mem_of_getElem? (i := 3) rfl) rfl rfl dX7_joinedOn_81 ?_
              refine lv_iconst (v := 2) hx hb dX7_joinedOn_84 (by decide) ?_
              refine lv_iload hx hb dX7_joinedOn_85 (lv_at hl 4 rfl) ?_
              refine lv_imul hx hb dX7_joinedOn_87 ?_
              obtain ⟨v12, hv12, hVv7⟩ := zob hVv7
              refine z_iald hx hb hK hP 3 rfl hv12 dX7_joinedOn_88 ?_
              refine lv_ishl hx hb dX7_joinedOn_89 ?_
              refine lv_goto (tgt := 94) hx hb dX7_joinedOn_90 (by decide) ?_
              have hVv7 := zin hVv7
              subst hVv7
              exact Jv7
          · have hVv7 := zit c9 hVv7
            refine lv_iconst (v := 1) hx hb dX7_joinedOn_48 (by decide) ?_
            refine lv_aload_n hx hb dX7_joinedOn_49 rfl (lv_at hl 0 rfl) ?_
            refine z_get (ci := 7) (v := .ref (q 3)) (C := RX7) (T := TX7) (N := 37) hx hb hts inX7 hown hK hP 0 rfl rfl 7 (by decide) (List.mem_of_getElem? (i := 3) rfl) rfl rfl dX7_joinedOn_50 ?_
            refine lv_iconst (v := 2) hx hb dX7_joinedOn_53 (by decide) ?_
            refine lv_iload hx hb dX7_joinedOn_54 (lv_at hl 4 rfl) ?_
            refine lv_imul hx hb dX7_joinedOn_56 ?_
            refine lv_iconst (v := 1) hx hb dX7_joinedOn_57 (by decide) ?_
            refine lv_iadd hx hb dX7_joinedOn_58 ?_
            obtain ⟨v13, hv13, hVv7⟩ := zob hVv7
            refine z_iald hx hb hK hP 3 rfl hv13 dX7_joinedOn_59 ?_
            refine lv_ishl hx hb dX7_joinedOn_60 ?_
            refine lv_goto (tgt := 94) hx hb dX7_joinedOn_61 (by decide) ?_
            have hVv7 := zin hVv7
            subst hVv7
            exact Jv7
  exact L5 FU 0 0 ls hF (lv_sub hl [2, 3, 4, 1, 0] rfl)
def f7_rankOf (S : MS) (x1 : Int32) (x2 : Int32) (x3 : Int32) : Option (Int32) := if 2 ≤ x1 then bd (α := Int32) (if x1 = 2 then (x3 - x2) else (x2 - x3)) (fun (v2 : Int32) => if v2 ≤ 0 then some (v2 + (S.1 0)) else some v2) else if x1 = 1 then (zrd (S.2.1 5) 6 x3).bind fun v7 => some v7 else (zrd (S.2.1 5) 6 x3).bind fun v6 => some (-v6)
abbrev rmX7_rankOf : Room := { frames := 0, cells := 0, slots := 0, locals := 0 }
set_option maxHeartbeats 4000000 in
set_option maxRecDepth 100000 in
theorem c7_rankOf (l : Launch) (g : zG) (q : Nat → Nat) (S : MS) (x1 : Int32) (x2 : Int32) (x3 : Int32) (ro : Int32) (hF : f7_rankOf S x1 x2 x3 = some ro) : zRO l g yX7_rankOf wsX7_rankOf rmX7_rankOf [.ref (q 0), .int x1, .int x2, .int x3] (MW g q S) (some (.int ro)) := by
  refine zRO_of (cc := cX7_rankOf) (maxL := 5) (ret := (some .int)) (by decide) rfl (Nat.le_of_ble_eq_true rfl) ?_
  intro p e s m args below meth c ls hx hb hr hml hts hown hlk hK hP hl
  have hown : s.vm.findClass RX7 = some m.cls := hown
  have hl : lv_has ls 5 [(0, .ref (q 0)), (1, .int x1), (2, .int x2), (3, .int x3)] := hl
  have inX7 : ∀ w ∈ wsX70, w ∈ wsX7_rankOf := fun _ h => List.mem_cons_of_mem _ (List.mem_append_right _ h)
  unfold f7_rankOf at hF
  refine lv_iload_n hx hb dX7_rankOf_0 rfl (lv_at hl 1 rfl) ?_
  refine lv_iconst (v := 2) hx hb dX7_rankOf_1 (by decide) ?_
  refine lv_icmp_ge (tgt := 27) hx hb dX7_rankOf_2 (by decide) (fun c1 => ?_) (fun c1 => ?_)
  · have hF := zit c1 hF
    refine lv_iload_n hx hb dX7_rankOf_27 rfl (lv_at hl 1 rfl) ?_
    refine lv_iconst (v := 2) hx hb dX7_rankOf_28 (by decide) ?_
    obtain ⟨v2, hVv2⟩ : ∃ y : Int32, (if x1 = 2 then (x3 - x2) else (x2 - x3) : Int32) = y := ⟨_, rfl⟩
    have hF := bd_eq hVv2.symm hF
    have Jv2 : W p l e (headSpec wsX7_rankOf rmX7_rankOf).room s m args below meth c s.heap [] 0 0 (MQ below (zRQ (some (.int ro))) args s 0 0 (fun _ => False)) (F0 m 41 ls [.int v2]) := by
      refine lv_istore (lv' := [(4, .int v2), (0, .ref (q 0)), (1, .int x1), (2, .int x2), (3, .int x3)]) hx hb dX7_rankOf_41 hl (by decide) rfl (fun ls hl => ?_)
      refine lv_iload hx hb dX7_rankOf_43 (lv_at hl 0 rfl) ?_
      refine lv_if_le (tgt := 53) hx hb dX7_rankOf_45 (by decide) (fun c4 => ?_) (fun c4 => ?_)
      · have hF := zit c4 hF
        refine lv_iload hx hb dX7_rankOf_53 (lv_at hl 0 rfl) ?_
        refine lv_aload_n hx hb dX7_rankOf_55 rfl (lv_at hl 1 rfl) ?_
        refine z_get (ci := 7) (v := .int (S.1 0)) (C := RX7) (T := TX7) (N := 37) hx hb hts inX7 hown hK hP 0 rfl rfl 0 (by decide) (List.mem_of_getElem? (i := 2) rfl) rfl rfl dX7_rankOf_56 ?_
        refine lv_iadd hx hb dX7_rankOf_59 ?_
        have e9a := zin hF
        exact z_ri hx hb hr hlk (congrArg (fun z => some (Value.int z)) e9a) dX7_rankOf_60
      · have hF := zif c4 hF
        refine lv_iload hx hb dX7_rankOf_48 (lv_at hl 0 rfl) ?_
        refine lv_goto (tgt := 60) hx hb dX7_rankOf_50 (by decide) ?_
        have e9a := zin hF
        exact z_ri hx hb hr hlk (congrArg (fun z => some (Value.int z)) e9a) dX7_rankOf_60
    refine lv_icmp_ne (tgt := 38) hx hb dX7_rankOf_29 (by decide) (fun c3 => ?_) (fun c3 => ?_)
    · have hVv2 := zif c3 hVv2
      refine lv_iload_n hx hb dX7_rankOf_38 rfl (lv_at hl 2 rfl) ?_
      refine lv_iload_n hx hb dX7_rankOf_39 rfl (lv_at hl 3 rfl) ?_
      refine lv_isub hx hb dX7_rankOf_40 ?_
      subst hVv2
      exact Jv2
    · have hVv2 := zit c3 hVv2
      refine lv_iload_n hx hb dX7_rankOf_32 rfl (lv_at hl 3 rfl) ?_
      refine lv_iload_n hx hb dX7_rankOf_33 rfl (lv_at hl 2 rfl) ?_
      refine lv_isub hx hb dX7_rankOf_34 ?_
      refine lv_goto (tgt := 41) hx hb dX7_rankOf_35 (by decide) ?_
      subst hVv2
      exact Jv2
  · have hF := zif c1 hF
    refine lv_iload_n hx hb dX7_rankOf_5 rfl (lv_at hl 1 rfl) ?_
    refine lv_iconst (v := 1) hx hb dX7_rankOf_6 (by decide) ?_
    refine lv_icmp_ne (tgt := 19) hx hb dX7_rankOf_7 (by decide) (fun c5 => ?_) (fun c5 => ?_)
    · have hF := zif c5 hF
      refine lv_aload_n hx hb dX7_rankOf_19 rfl (lv_at hl 0 rfl) ?_
      refine z_get (ci := 7) (v := .ref (q 1)) (C := RX7) (T := TX7) (N := 37) hx hb hts inX7 hown hK hP 0 rfl rfl 5 (by decide) (List.mem_of_getElem? (i := 1) rfl) rfl rfl dX7_rankOf_20 ?_
      refine lv_iload_n hx hb dX7_rankOf_23 rfl (lv_at hl 3 rfl) ?_
      obtain ⟨v6, hv6, hF⟩ := zob hF
      refine z_iald hx hb hK hP 1 rfl hv6 dX7_rankOf_24 ?_
      refine lv_ineg hx hb dX7_rankOf_25 ?_
      have e9a := zin hF
      exact z_ri hx hb hr hlk (congrArg (fun z => some (Value.int z)) e9a) dX7_rankOf_26
    · have hF := zit c5 hF
      refine lv_aload_n hx hb dX7_rankOf_10 rfl (lv_at hl 0 rfl) ?_
      refine z_get (ci := 7) (v := .ref (q 1)) (C := RX7) (T := TX7) (N := 37) hx hb hts inX7 hown hK hP 0 rfl rfl 5 (by decide) (List.mem_of_getElem? (i := 1) rfl) rfl rfl dX7_rankOf_11 ?_
      refine lv_iload_n hx hb dX7_rankOf_14 rfl (lv_at hl 3 rfl) ?_
      obtain ⟨v7, hv7, hF⟩ := zob hF
      refine z_iald hx hb hK hP 1 rfl hv7 dX7_rankOf_15 ?_
      refine lv_goto (tgt := 26) hx hb dX7_rankOf_16 (by decide) ?_
      have e9a := zin hF
      exact z_ri hx hb hr hlk (congrArg (fun z => some (Value.int z)) e9a) dX7_rankOf_26
def f7_nextOn_l150 (v2 : Int32) (v3 : Int32) (v14 : Int32) (S : MS) : Nat → Int32 → Int32 → Option (Int32)
  | 0, _, _ => none
  | n150 + 1, y16, y17 => if (S.1 0) ≤ y17 then some y16 else (if (f7_has v14 y17) = 0 then some 0 else if y16 = (-9) then some 1 else (f7_rankOf S v3 v2 y17).bind fun v24 => (f7_rankOf S v3 v2 y16).bind fun v25 => if v25 ≤ v24 then some 0 else some 1 : Option Int32).bind fun v19 => bd (α := Int32) (if v19 = 0 then y16 else y17) (fun (v27 : Int32) => f7_nextOn_l150 v2 v3 v14 S n150 v27 (y17 + 1))
def f7_nextOn_l52 (x2 : Int32) (x3 : Int32) (v1 : Int32) (v2 : Int32) (v3 : Int32) (S : MS) : Nat → Int32 → Int32 → Option (Int32)
  | 0, _, _ => none
  | n52 + 1, y8, y9 => if (S.1 0) ≤ y9 then (zrd (S.2.1 11) 38 ((v1 + 4) + x2)).bind fun v11 => bd (α := Int32) (if v11 = (-9) then y8 else (y8 &&& (((1 : Int32) <<< (v11 &&& 31)) ^^^ (-1)))) (fun (v12 : Int32) => bd (α := Int32) (if v12 = 0 then y8 else v12) (fun (v14 : Int32) => f7_nextOn_l150 v2 v3 v14 S FU (-9) 0)) else (zrd (S.2.1 5) 6 y9).bind fun v29 => bd (α := Int32) (if x3 ≤ v29 then (-1) else (((1 : Int32) <<< (y9 &&& 31)) ^^^ (-1))) (fun (v30 : Int32) => bd (α := Int32) (y8 &&& v30) (fun (v32 : Int32) => f7_nextOn_l52 x2 x3 v1 v2 v3 S n52 v32 (y9 + 1)))
def f7_nextOn (S : MS) (x1 : Int32) (x2 : Int32) (x3 : Int32) : Option (Int32) := bd (α := Int32) (19 * x1) (fun (v1 : Int32) => (zrd (S.2.1 11) 38 (v1 + x2)).bind fun v2 => (if x2 = (S.1 24) then some (S.1 25) else (zrd (S.2.1 8) 4 x2).bind fun v6 => some v6 : Option Int32).bind fun v3 => (f7_joinedOn S x1 v2).bind fun v7 => f7_nextOn_l52 x2 x3 v1 v2 v3 S FU v7 0)
abbrev rmX7_nextOn : Room := { frames := 2, cells := 0, slots := 0, locals := 45 }
set_option maxHeartbeats 4000000 in
set_option maxRecDepth 100000 in
theorem c7_nextOn (l : Launch) (g : zG) (q : Nat → Nat) (S : MS) (x1 : Int32) (x2 : Int32) (x3 : Int32) (ro : Int32) (hF : f7_nextOn S x1 x2 x3 = some ro) : zRO l g yX7_nextOn wsX7_nextOn rmX7_nextOn [.ref (q 0), .int x1, .int x2, .int x3] (MW g q S) (some (.int ro)) := by
  refine zRO_of (cc := cX7_nextOn) (maxL := 13) (ret := (some .int)) (by decide) rfl (Nat.le_of_ble_eq_true rfl) ?_
  intro p e s m args below meth c ls hx hb hr hml hts hown hlk hK hP hl
  have hown : s.vm.findClass RX7 = some m.cls := hown
  have hl : lv_has ls 13 [(0, .ref (q 0)), (1, .int x1), (2, .int x2), (3, .int x3)] := hl
  have inX7 : ∀ w ∈ wsX70, w ∈ wsX7_nextOn := fun _ h => List.mem_cons_of_mem _ (List.mem_append_right _ h)
  unfold f7_nextOn at hF
  refine lv_bipush (v := 19) hx hb dX7_nextOn_0 (by decide) ?_
  refine lv_iload_n hx hb dX7_nextOn_2 rfl (lv_at hl 1 rfl) ?_
  refine lv_imul hx hb dX7_nextOn_3 ?_
  refine lv_topi (fun v1 ev1 => ?_)
  have hF := bd_eq ev1 hF
  refine lv_istore (lv' := [(4, .int v1), (0, .ref (q 0)), (1, .int x1), (2, .int x2), (3, .int x3)]) hx hb dX7_nextOn_4 hl (by decide) rfl (fun ls hl => ?_)
  refine lv_aload_n hx hb dX7_nextOn_6 rfl (lv_at hl 1 rfl) ?_
  refine z_get (ci := 7) (v := .ref (q 7)) (C := RX7) (T := TX7) (N := 37) hx hb hts inX7 hown hK hP 0 rfl rfl 11 (by decide) (List.mem_of_getElem? (i := 1) rfl) rfl rfl dX7_nextOn_7 ?_
  refine lv_iload hx hb dX7_nextOn_10 (lv_at hl 0 rfl) ?_
  refine lv_iload_n hx hb dX7_nextOn_12 rfl (lv_at hl 3 rfl) ?_
  refine lv_iadd hx hb dX7_nextOn_13 ?_
  obtain ⟨v2, hv2, hF⟩ := zob hF
  refine z_iald hx hb hK hP 7 rfl hv2 dX7_nextOn_14 ?_
  refine lv_istore (lv' := [(5, .int v2), (4, .int v1), (0, .ref (q 0)), (1, .int x1), (2, .int x2), (3, .int x3)]) hx hb dX7_nextOn_15 hl (by decide) rfl (fun ls hl => ?_)
  refine lv_iload_n hx hb dX7_nextOn_17 rfl (lv_at hl 4 rfl) ?_
  refine lv_aload_n hx hb dX7_nextOn_18 rfl (lv_at hl 2 rfl) ?_
  refine z_get (ci := 7) (v := .int (S.1 24)) (C := RX7) (T := TX7) (N := 37) hx hb hts inX7 hown hK hP 0 rfl rfl 24 (by decide) (List.mem_of_getElem? (i := 2) rfl) rfl rfl dX7_nextOn_19 ?_
  obtain ⟨v3, hVv3, hF⟩ := zob hF
  have Jv3 : W p l e (headSpec wsX7_nextOn rmX7_nextOn).room s m args below meth c s.heap [] 0 0 (MQ below (zRQ (some (.int ro))) args s 0 0 (fun _ => False)) (F0 m 38 ls [.int v3]) := by
    refine lv_istore (lv' := [(6, .int v3), (5, .int v2), (4, .int v1), (0, .ref (q 0)), (1, .int x1), (2, .int x2), (3, .int x3)]) hx hb dX7_nextOn_38 hl (by decide) rfl (fun ls hl => ?_)
    refine lv_aload_n hx hb dX7_nextOn_40 rfl (lv_at hl 3 rfl) ?_
    refine lv_iload_n hx hb dX7_nextOn_41 rfl (lv_at hl 4 rfl) ?_
    refine lv_iload hx hb dX7_nextOn_42 (lv_at hl 1 rfl) ?_
    obtain ⟨v7, hv7, hF⟩ := zob hF
    refine z_rgo (va_runV (As := [.int x1, .int v2]) (rest := []) ⟨hx, hb, hml, hown, hts⟩ (c7_joinedOn l g q S x1 v2 v7 hv7) (cwV 2 hts gX7_nextOn_X7_joinedOn rfl rfl rfl (by decide +kernel) ⟨Nat.le_of_ble_eq_true rfl, Nat.le_of_ble_eq_true rfl⟩) (z_rpreV (ci := 7) (q := (RX7, TX7, 37)) (q0 := 0) hP hK rfl rfl) rfl rfl hl.1 rfl (lv_room (Nat.le_of_ble_eq_true rfl)) dX7_nextOn_44 ⟨Nat.zero_le _, Nat.zero_le _⟩) ?_
    refine lv_istore (lv' := [(7, .int v7), (6, .int v3), (5, .int v2), (4, .int v1), (0, .ref (q 0)), (1, .int x1), (2, .int x2), (3, .int x3)]) hx hb dX7_nextOn_47 hl (by decide) rfl (fun ls hl => ?_)
    refine lv_iconst (v := 0) hx hb dX7_nextOn_49 (by decide) ?_
    refine lv_istore (lv' := [(8, .int 0), (7, .int v7), (6, .int v3), (5, .int v2), (4, .int v1), (0, .ref (q 0)), (1, .int x1), (2, .int x2), (3, .int x3)]) hx hb dX7_nextOn_50 hl (by decide) rfl (fun ls hl => ?_)
    have L52 : ∀ (n52 : Nat) (y8 : Int32) (y9 : Int32) (ls : Array Slot), f7_nextOn_l52 x2 x3 v1 v2 v3 S n52 y8 y9 = some ro → lv_has ls 13 [(0, .ref (q 0)), (2, .int x2), (3, .int x3), (4, .int v1), (5, .int v2), (6, .int v3), (7, .int y8), (8, .int y9)] → W p l e (headSpec wsX7_nextOn rmX7_nextOn).room s m args below meth c s.heap [] 0 0 (MQ below (zRQ (some (.int ro))) args s 0 0 (fun _ => False)) (F0 m 52 ls []) := by
      intro n52
      induction n52 with
      | zero =>
        intro y8 y9 ls hF hl
        exact absurd (show (none : Option (Int32)) = some _ from hF) (fun h9 => by cases h9)
      | succ n52 ih52 =>
        intro y8 y9 ls hF hl
        rw [f7_nextOn_l52] at hF
        refine lv_iload hx hb dX7_nextOn_52 (lv_at hl 7 rfl) ?_
        refine lv_aload_n hx hb dX7_nextOn_54 rfl (lv_at hl 0 rfl) ?_
        refine z_get (ci := 7) (v := .int (S.1 0)) (C := RX7) (T := TX7) (N := 37) hx hb hts inX7 hown hK hP 0 rfl rfl 0 (by decide) (List.mem_of_getElem? (i := 5) rfl) rfl rfl dX7_nextOn_55 ?_
        refine lv_icmp_ge (tgt := 93) hx hb dX7_nextOn_58 (by decide) (fun c10 => ?_) (fun c10 => ?_)
        · have hF := zit c10 hF
          refine lv_aload_n hx hb dX7_nextOn_93 rfl (lv_at hl 0 rfl) ?_
          refine z_get (ci := 7) (v := .ref (q 7)) (C := RX7) (T := TX7) (N := 37) hx hb hts inX7 hown hK hP 0 rfl rfl 11 (by decide) (List.mem_of_getElem? (i := 1) rfl) rfl rfl dX7_nextOn_94 ?_
          refine lv_iload hx hb dX7_nextOn_97 (lv_at hl 3 rfl) ?_
          refine lv_iconst (v := 4) hx hb dX7_nextOn_99 (by decide) ?_
          refine lv_iadd hx hb dX7_nextOn_100 ?_
          refine lv_iload_n hx hb dX7_nextOn_101 rfl (lv_at hl 1 rfl) ?_
          refine lv_iadd hx hb dX7_nextOn_102 ?_
          obtain ⟨v11, hv11, hF⟩ := zob hF
          refine z_iald hx hb hK hP 7 rfl hv11 dX7_nextOn_103 ?_
          refine lv_istore (lv' := [(8, .int v11), (0, .ref (q 0)), (2, .int x2), (3, .int x3), (4, .int v1), (5, .int v2), (6, .int v3), (7, .int y8)]) hx hb dX7_nextOn_104 hl (by decide) rfl (fun ls hl => ?_)
          refine lv_iload hx hb dX7_nextOn_106 (lv_at hl 0 rfl) ?_
          refine lv_bipush (v := (-9)) hx hb dX7_nextOn_108 (by decide) ?_
          obtain ⟨v12, hVv12⟩ : ∃ y : Int32, (if v11 = (-9) then y8 else (y8 &&& (((1 : Int32) <<< (v11 &&& 31)) ^^^ (-1))) : Int32) = y := ⟨_, rfl⟩
          have hF := bd_eq hVv12.symm hF
          have Jv12 : W p l e (headSpec wsX7_nextOn rmX7_nextOn).room s m args below meth c s.heap [] 0 0 (MQ below (zRQ (some (.int ro))) args s 0 0 (fun _ => False)) (F0 m 127 ls [.int v12]) := by
            refine lv_istore (lv' := [(9, .int v12), (8, .int v11), (0, .ref (q 0)), (2, .int x2), (3, .int x3), (4, .int v1), (5, .int v2), (6, .int v3), (7, .int y8)]) hx hb dX7_nextOn_127 hl (by decide) rfl (fun ls hl => ?_)
            refine lv_iload hx hb dX7_nextOn_129 (lv_at hl 0 rfl) ?_
            obtain ⟨v14, hVv14⟩ : ∃ y : Int32, (if v12 = 0 then y8 else v12 : Int32) = y := ⟨_, rfl⟩
            have hF := bd_eq hVv14.symm hF
            have Jv14 : W p l e (headSpec wsX7_nextOn rmX7_nextOn).room s m args below meth c s.heap [] 0 0 (MQ below (zRQ (some (.int ro))) args s 0 0 (fun _ => False)) (F0 m 141 ls [.int v14]) := by
              refine lv_istore (lv' := [(7, .int v14), (9, .int v12), (8, .int v11), (0, .ref (q 0)), (2, .int x2), (3, .int x3), (4, .int v1), (5, .int v2), (6, .int v3)]) hx hb dX7_nextOn_141 hl (by decide) rfl (fun ls hl => ?_)
              refine lv_bipush (v := (-9)) hx hb dX7_nextOn_143 (by decide) ?_
              refine lv_istore (lv' := [(10, .int (-9)), (7, .int v14), (9, .int v12), (8, .int v11), (0, .ref (q 0)), (2, .int x2), (3, .int x3), (4, .int v1), (5, .int v2), (6, .int v3)]) hx hb dX7_nextOn_145 hl (by decide) rfl (fun ls hl => ?_)
              refine lv_iconst (v := 0) hx hb dX7_nextOn_147 (by decide) ?_
              refine lv_istore (lv' := [(11, .int 0), (10, .int (-9)), (7, .int v14), (9, .int v12), (8, .int v11), (0, .ref (q 0)), (2, .int x2), (3, .int x3), (4, .int v1), (5, .int v2), (6, .int v3)]) hx hb dX7_nextOn_148 hl (by decide) rfl (fun ls hl => ?_)
              have L150 : ∀ (n150 : Nat) (y16 : Int32) (y17 : Int32) (ls : Array Slot), f7_nextOn_l150 v2 v3 v14 S n150 y16 y17 = some ro → lv_has ls 13 [(0, .ref (q 0)), (5, .int v2), (6, .int v3), (7, .int v14), (10, .int y16), (11, .int y17)] → W p l e (headSpec wsX7_nextOn rmX7_nextOn).room s m args below meth c s.heap [] 0 0 (MQ below (zRQ (some (.int ro))) args s 0 0 (fun _ => False)) (F0 m 150 ls []) := by
                intro n150
                induction n150 with
                | zero =>
                  intro y16 y17 ls hF hl
                  exact absurd (show (none : Option (Int32)) = some _ from hF) (fun h9 => by cases h9)
                | succ n150 ih150 =>
                  intro y16 y17 ls hF hl
                  rw [f7_nextOn_l150] at hF
                  refine lv_iload hx hb dX7_nextOn_150 (lv_at hl 5 rfl) ?_
                  refine lv_aload_n hx hb dX7_nextOn_152 rfl (lv_at hl 0 rfl) ?_
                  refine z_get (ci := 7) (v := .int (S.1 0)) (C := RX7) (T := TX7) (N := 37) hx hb hts inX7 hown hK hP 0 rfl rfl 0 (by decide) (List.mem_of_getElem? (i := 5) rfl) rfl rfl dX7_nextOn_153 ?_
                  refine lv_icmp_ge (tgt := 226) hx hb dX7_nextOn_156 (by decide) (fun c18 => ?_) (fun c18 => ?_)
                  · have hF := zit c18 hF
                    refine lv_iload hx hb dX7_nextOn_226 (lv_at hl 4 rfl) ?_
                    have e9a := zin hF
                    exact z_ri hx hb hr hlk (congrArg (fun z => some (Value.int z)) e9a) dX7_nextOn_228
                  · have hF := zif c18 hF
                    refine lv_iload hx hb dX7_nextOn_159 (lv_at hl 3 rfl) ?_
                    refine lv_iload hx hb dX7_nextOn_161 (lv_at hl 5 rfl) ?_
                    refine z_rgo (va_runS (As := [.int v14, .int y17]) (rest := []) ⟨hx, hb, hml, hown, hts⟩ (c7_has l g   v14 y17) (va_cwS 2 hts gX7_nextOn_X7_has rfl rfl rfl (by decide +kernel) ⟨Nat.le_of_ble_eq_true rfl, Nat.le_of_ble_eq_true rfl⟩) (z_rpre z_nil hK) rfl rfl hl.1 rfl (lv_room (Nat.le_of_ble_eq_true rfl)) dX7_nextOn_163 ⟨Nat.zero_le _, Nat.zero_le _⟩) ?_
                    obtain ⟨v19, hVv19, hF⟩ := zob hF
                    have Jv19 : W p l e (headSpec wsX7_nextOn rmX7_nextOn).room s m args below meth c s.heap [] 0 0 (MQ below (zRQ (some (.int ro))) args s 0 0 (fun _ => False)) (F0 m 204 ls [.int v19]) := by
                      refine lv_istore (lv' := [(12, .int v19), (0, .ref (q 0)), (5, .int v2), (6, .int v3), (7, .int v14), (10, .int y16), (11, .int y17)]) hx hb dX7_nextOn_204 hl (by decide) rfl (fun ls hl => ?_)
                      refine lv_iload hx hb dX7_nextOn_206 (lv_at hl 0 rfl) ?_
                      obtain ⟨v27, hVv27⟩ : ∃ y : Int32, (if v19 = 0 then y16 else y17 : Int32) = y := ⟨_, rfl⟩
                      have hF := bd_eq hVv27.symm hF
                      have Jv27 : W p l e (headSpec wsX7_nextOn rmX7_nextOn).room s m args below meth c s.heap [] 0 0 (MQ below (zRQ (some (.int ro))) args s 0 0 (fun _ => False)) (F0 m 218 ls [.int v27]) := by
                        refine lv_istore (lv' := [(10, .int v27), (12, .int v19), (0, .ref (q 0)), (5, .int v2), (6, .int v3), (7, .int v14), (11, .int y17)]) hx hb dX7_nextOn_218 hl (by decide) rfl (fun ls hl => ?_)
                        refine lv_iinc (v := (y17 + 1)) (lv' := [(11, .int (y17 + 1)), (10, .int v27), (12, .int v19), (0, .ref (q 0)), (5, .int v2), (6, .int v3), (7, .int v14)]) hx hb dX7_nextOn_220 hl (k := 6) rfl rfl (by decide) rfl (fun ls hl => ?_)
                        refine lv_goto (tgt := 150) hx hb dX7_nextOn_223 (by decide) ?_
                        exact ih150 v27 (y17 + 1) ls hF (lv_sub hl [3, 4, 5, 6, 1, 0] rfl)
                      refine lv_if_eq (tgt := 216) hx hb dX7_nextOn_208 (by decide) (fun c28 => ?_) (fun c28 => ?_)
                      · have hVv27 := zit c28 hVv27
                        refine lv_iload hx hb dX7_nextOn_216 (lv_at hl 5 rfl) ?_
                        subst hVv27
                        exact Jv27
                      · have hVv27 := zif c28 hVv27
                        refine lv_iload hx hb dX7_nextOn_211 (lv_at hl 6 rfl) ?_
                        refine lv_goto (tgt := 218) hx hb dX7_nextOn_213 (by decide) ?_
                        subst hVv27
                        exact Jv27
                    refine lv_if_eq (tgt := 203) hx hb dX7_nextOn_166 (by decide) (fun c22 => ?_) (fun c22 => ?_)
                    · have hVv19 := zit c22 hVv19
                      refine lv_iconst (v := 0) hx hb dX7_nextOn_203 (by decide) ?_
                      have hVv19 := zin hVv19
                      subst hVv19
                      exact Jv19
                    · have hVv19 := zif c22 hVv19
                      refine lv_iload hx hb dX7_nextOn_169 (lv_at hl 4 rfl) ?_
                      refine lv_bipush (v := (-9)) hx hb dX7_nextOn_171 (by decide) ?_
                      refine lv_icmp_eq (tgt := 199) hx hb dX7_nextOn_173 (by decide) (fun c23 => ?_) (fun c23 => ?_)
                      · have hVv19 := zit c23 hVv19
                        refine lv_iconst (v := 1) hx hb dX7_nextOn_199 (by decide) ?_
                        refine lv_goto (tgt := 204) hx hb dX7_nextOn_200 (by decide) ?_
                        have hVv19 := zin hVv19
                        subst hVv19
                        exact Jv19
                      · have hVv19 := zif c23 hVv19
                        refine lv_aload_n hx hb dX7_nextOn_176 rfl (lv_at hl 0 rfl) ?_
                        refine lv_iload hx hb dX7_nextOn_177 (lv_at hl 2 rfl) ?_
                        refine lv_iload hx hb dX7_nextOn_179 (lv_at hl 1 rfl) ?_
                        refine lv_iload hx hb dX7_nextOn_181 (lv_at hl 5 rfl) ?_
                        obtain ⟨v24, hv24, hVv19⟩ := zob hVv19
                        refine z_rgo (va_runV (As := [.int v3, .int v2, .int y17]) (rest := []) ⟨hx, hb, hml, hown, hts⟩ (c7_rankOf l g q S v3 v2 y17 v24 hv24) (cwV 3 hts gX7_nextOn_X7_rankOf rfl rfl rfl (by decide +kernel) ⟨Nat.le_of_ble_eq_true rfl, Nat.le_of_ble_eq_true rfl⟩) (z_rpreV (ci := 7) (q := (RX7, TX7, 37)) (q0 := 0) hP hK rfl rfl) rfl rfl hl.1 rfl (lv_room (Nat.le_of_ble_eq_true rfl)) dX7_nextOn_183 ⟨Nat.zero_le _, Nat.zero_le _⟩) ?_
                        refine lv_aload_n hx hb dX7_nextOn_186 rfl (lv_at hl 0 rfl) ?_
                        refine lv_iload hx hb dX7_nextOn_187 (lv_at hl 2 rfl) ?_
                        refine lv_iload hx hb dX7_nextOn_189 (lv_at hl 1 rfl) ?_
                        refine lv_iload hx hb dX7_nextOn_191 (lv_at hl 4 rfl) ?_
                        obtain ⟨v25, hv25, hVv19⟩ := zob hVv19
                        refine z_rgo (va_runV (As := [.int v3, .int v2, .int y16]) (rest := [.int v24]) ⟨hx, hb, hml, hown, hts⟩ (c7_rankOf l g q S v3 v2 y16 v25 hv25) (cwV 3 hts gX7_nextOn_X7_rankOf rfl rfl rfl (by decide +kernel) ⟨Nat.le_of_ble_eq_true rfl, Nat.le_of_ble_eq_true rfl⟩) (z_rpreV (ci := 7) (q := (RX7, TX7, 37)) (q0 := 0) hP hK rfl rfl) rfl rfl hl.1 rfl (lv_room (Nat.le_of_ble_eq_true rfl)) dX7_nextOn_193 ⟨Nat.zero_le _, Nat.zero_le _⟩) ?_
                        refine lv_icmp_ge (tgt := 203) hx hb dX7_nextOn_196 (by decide) (fun c26 => ?_) (fun c26 => ?_)
                        · have hVv19 := zit c26 hVv19
                          refine lv_iconst (v := 0) hx hb dX7_nextOn_203 (by decide) ?_
                          have hVv19 := zin hVv19
                          subst hVv19
                          exact Jv19
                        · have hVv19 := zif c26 hVv19
                          refine lv_iconst (v := 1) hx hb dX7_nextOn_199 (by decide) ?_
                          refine lv_goto (tgt := 204) hx hb dX7_nextOn_200 (by decide) ?_
                          have hVv19 := zin hVv19
                          subst hVv19
                          exact Jv19
              exact L150 FU (-9) 0 ls hF (lv_sub hl [5, 9, 10, 2, 1, 0] rfl)
            refine lv_if_eq (tgt := 139) hx hb dX7_nextOn_131 (by decide) (fun c15 => ?_) (fun c15 => ?_)
            · have hVv14 := zit c15 hVv14
              refine lv_iload hx hb dX7_nextOn_139 (lv_at hl 8 rfl) ?_
              subst hVv14
              exact Jv14
            · have hVv14 := zif c15 hVv14
              refine lv_iload hx hb dX7_nextOn_134 (lv_at hl 0 rfl) ?_
              refine lv_goto (tgt := 141) hx hb dX7_nextOn_136 (by decide) ?_
              subst hVv14
              exact Jv14
          refine lv_icmp_ne (tgt := 118) hx hb dX7_nextOn_110 (by decide) (fun c13 => ?_) (fun c13 => ?_)
          · have hVv12 := zif c13 hVv12
            refine lv_iload hx hb dX7_nextOn_118 (lv_at hl 7 rfl) ?_
            refine lv_iconst (v := 1) hx hb dX7_nextOn_120 (by decide) ?_
            refine lv_iload hx hb dX7_nextOn_121 (lv_at hl 0 rfl) ?_
            refine lv_ishl hx hb dX7_nextOn_123 ?_
            refine lv_iconst (v := (-1)) hx hb dX7_nextOn_124 (by decide) ?_
            refine lv_ixor hx hb dX7_nextOn_125 ?_
            refine lv_iand hx hb dX7_nextOn_126 ?_
            subst hVv12
            exact Jv12
          · have hVv12 := zit c13 hVv12
            refine lv_iload hx hb dX7_nextOn_113 (lv_at hl 7 rfl) ?_
            refine lv_goto (tgt := 127) hx hb dX7_nextOn_115 (by decide) ?_
            subst hVv12
            exact Jv12
        · have hF := zif c10 hF
          refine lv_iload hx hb dX7_nextOn_61 (lv_at hl 6 rfl) ?_
          refine lv_aload_n hx hb dX7_nextOn_63 rfl (lv_at hl 0 rfl) ?_
          refine z_get (ci := 7) (v := .ref (q 1)) (C := RX7) (T := TX7) (N := 37) hx hb hts inX7 hown hK hP 0 rfl rfl 5 (by decide) (List.mem_of_getElem? (i := 6) rfl) rfl rfl dX7_nextOn_64 ?_
          refine lv_iload hx hb dX7_nextOn_67 (lv_at hl 7 rfl) ?_
          obtain ⟨v29, hv29, hF⟩ := zob hF
          refine z_iald hx hb hK hP 1 rfl hv29 dX7_nextOn_69 ?_
          refine lv_iload_n hx hb dX7_nextOn_70 rfl (lv_at hl 2 rfl) ?_
          obtain ⟨v30, hVv30⟩ : ∃ y : Int32, (if x3 ≤ v29 then (-1) else (((1 : Int32) <<< (y9 &&& 31)) ^^^ (-1)) : Int32) = y := ⟨_, rfl⟩
          have hF := bd_eq hVv30.symm hF
          have Jv30 : W p l e (headSpec wsX7_nextOn rmX7_nextOn).room s m args below meth c s.heap [] 0 0 (MQ below (zRQ (some (.int ro))) args s 0 0 (fun _ => False)) (F0 m 84 ls [.int v30, .int y8]) := by
            refine lv_iand hx hb dX7_nextOn_84 ?_
            refine lv_topi (fun v32 ev32 => ?_)
            have hF := bd_eq ev32 hF
            refine lv_istore (lv' := [(7, .int v32), (0, .ref (q 0)), (2, .int x2), (3, .int x3), (4, .int v1), (5, .int v2), (6, .int v3), (8, .int y9)]) hx hb dX7_nextOn_85 hl (by decide) rfl (fun ls hl => ?_)
            refine lv_iinc (v := (y9 + 1)) (lv' := [(8, .int (y9 + 1)), (7, .int v32), (0, .ref (q 0)), (2, .int x2), (3, .int x3), (4, .int v1), (5, .int v2), (6, .int v3)]) hx hb dX7_nextOn_87 hl (k := 7) rfl rfl (by decide) rfl (fun ls hl => ?_)
            refine lv_goto (tgt := 52) hx hb dX7_nextOn_90 (by decide) ?_
            exact ih52 v32 (y9 + 1) ls hF (lv_sub hl [2, 3, 4, 5, 6, 7, 1, 0] rfl)
          refine lv_icmp_ge (tgt := 83) hx hb dX7_nextOn_71 (by decide) (fun c31 => ?_) (fun c31 => ?_)
          · have hVv30 := zit c31 hVv30
            refine lv_iconst (v := (-1)) hx hb dX7_nextOn_83 (by decide) ?_
            subst hVv30
            exact Jv30
          · have hVv30 := zif c31 hVv30
            refine lv_iconst (v := 1) hx hb dX7_nextOn_74 (by decide) ?_
            refine lv_iload hx hb dX7_nextOn_75 (lv_at hl 7 rfl) ?_
            refine lv_ishl hx hb dX7_nextOn_77 ?_
            refine lv_iconst (v := (-1)) hx hb dX7_nextOn_78 (by decide) ?_
            refine lv_ixor hx hb dX7_nextOn_79 ?_
            refine lv_goto (tgt := 84) hx hb dX7_nextOn_80 (by decide) ?_
            subst hVv30
            exact Jv30
    exact L52 FU v7 0 ls hF (lv_sub hl [5, 7, 8, 4, 3, 2, 1, 0] rfl)
  refine lv_icmp_ne (tgt := 32) hx hb dX7_nextOn_22 (by decide) (fun c5 => ?_) (fun c5 => ?_)
  · have hVv3 := zif c5 hVv3
    refine lv_aload_n hx hb dX7_nextOn_32 rfl (lv_at hl 2 rfl) ?_
    refine z_get (ci := 7) (v := .ref (q 4)) (C := RX7) (T := TX7) (N := 37) hx hb hts inX7 hown hK hP 0 rfl rfl 8 (by decide) (List.mem_of_getElem? (i := 4) rfl) rfl rfl dX7_nextOn_33 ?_
    refine lv_iload_n hx hb dX7_nextOn_36 rfl (lv_at hl 4 rfl) ?_
    obtain ⟨v6, hv6, hVv3⟩ := zob hVv3
    refine z_iald hx hb hK hP 4 rfl hv6 dX7_nextOn_37 ?_
    have hVv3 := zin hVv3
    subst hVv3
    exact Jv3
  · have hVv3 := zit c5 hVv3
    refine lv_aload_n hx hb dX7_nextOn_25 rfl (lv_at hl 2 rfl) ?_
    refine z_get (ci := 7) (v := .int (S.1 25)) (C := RX7) (T := TX7) (N := 37) hx hb hts inX7 hown hK hP 0 rfl rfl 25 (by decide) (List.mem_of_getElem? (i := 3) rfl) rfl rfl dX7_nextOn_26 ?_
    refine lv_goto (tgt := 38) hx hb dX7_nextOn_29 (by decide) ?_
    have hVv3 := zin hVv3
    subst hVv3
    exact Jv3
def f7_stepBy_j127 (v1 : Int32) (y2 : Int32) (y3 : Int32) (k11 : (Int32 → Int32 → MS → Option (Int32 × MS))) (S13 : MS) : Option (Int32 × MS) := (zrd (S13.2.1 11) 38 (v1 + y3)).bind fun v14 => (zrd (S13.2.1 11) 38 ((v1 + 8) + y3)).bind fun v15 => (zrd (S13.2.1 9) 4 y3).bind fun v16 => if v15 < v16 then k11 y2 (y3 + 1) S13 else (zrd (S13.2.1 6) 6 v14).bind fun v18 => if v18 = 1 then (zrd (S13.2.1 11) 38 (v1 + 17)).bind fun v20 => if (f7_has v20 v14) = 0 then (zwr (S13.2.1 11) 38 ((v1 + 12) + y3) 1).bind fun f22 => bd (mA S13 11 f22) (fun (S23 : MS) => (zrd (S23.2.1 11) 38 (v1 + 17)).bind fun v24 => (zwr (S23.2.1 11) 38 (v1 + 17) (v24 ||| ((1 : Int32) <<< (v14 &&& 31)))).bind fun f25 => bd (mA S23 11 f25) (fun (S26 : MS) => bd (α := Int32) (y2 ||| ((1 : Int32) <<< (y3 &&& 31))) (fun (v27 : Int32) => k11 v27 (y3 + 1) S26))) else k11 y2 (y3 + 1) S13 else k11 y2 (y3 + 1) S13
def f7_stepBy_l11 (x1 : Int32) (x2 : Int32) (v1 : Int32) : Nat → Int32 → Int32 → MS → Option (Int32 × MS)
  | 0, _, _, _ => none
  | n11 + 1, y2, y3, S4 => if (S4.1 2) ≤ y3 then (zrd (S4.2.1 11) 38 (v1 + 18)).bind fun v6 => (zwr (S4.2.1 11) 38 (v1 + 18) (v6 + 1)).bind fun f7 => bd (mA S4 11 f7) (fun (S8 : MS) => some (y2, S8)) else (f7_isOut S4 x1 y3).bind fun v9 => if v9 = 0 then if (f7_has (S4.1 23) y3) = 0 then f7_stepBy_l11 x1 x2 v1 n11 y2 (y3 + 1) S4 else (f7_nextOn S4 x1 y3 x2).bind fun v12 => if v12 = (-9) then f7_stepBy_j127 v1 y2 y3 (fun y2 y3 S4 => f7_stepBy_l11 x1 x2 v1 n11 y2 y3 S4) S4 else (zrd (S4.2.1 11) 38 (v1 + y3)).bind fun v29 => (zwr (S4.2.1 11) 38 ((v1 + 4) + y3) v29).bind fun f30 => bd (mA S4 11 f30) (fun (S31 : MS) => (zwr (S31.2.1 11) 38 (v1 + y3) v12).bind fun f32 => bd (mA S31 11 f32) (fun (S33 : MS) => (zrd (S33.2.1 11) 38 ((v1 + 8) + y3)).bind fun v34 => (zrd (S33.2.1 11) 38 ((v1 + 8) + y3)).bind fun v35 => bd (α := Int32) (if 9 ≤ v35 then 0 else 1) (fun (v36 : Int32) => (zwr (S33.2.1 11) 38 ((v1 + 8) + y3) (v34 + v36)).bind fun f38 => bd (mA S33 11 f38) (fun (S39 : MS) => f7_stepBy_j127 v1 y2 y3 (fun y2 y3 S4 => f7_stepBy_l11 x1 x2 v1 n11 y2 y3 S4) S39)))) else f7_stepBy_l11 x1 x2 v1 n11 y2 (y3 + 1) S4
def f7_stepBy (S : MS) (x1 : Int32) (x2 : Int32) : Option (Int32 × MS) := bd (α := Int32) (19 * x1) (fun (v1 : Int32) => f7_stepBy_l11 x1 x2 v1 FU 0 0 S)
abbrev rmX7_stepBy : Room := { frames := 3, cells := 0, slots := 0, locals := 77 }
set_option maxHeartbeats 4000000 in
set_option maxRecDepth 100000 in
theorem c7_stepBy (l : Launch) (g : zG) (q : Nat → Nat) (S : MS) (x1 : Int32) (x2 : Int32) (ro : Int32) (S_o : MS) (hF : f7_stepBy S x1 x2 = some (ro, S_o)) : zRW l g yX7_stepBy wsX7_stepBy rmX7_stepBy [.ref (q 0), .int x1, .int x2] (MW g q S) (some (.int ro)) (MW g q S_o) := by
  refine zRW_of (cc := cX7_stepBy) (maxL := 8) (ret := (some .int)) (by decide) rfl (Nat.le_of_ble_eq_true rfl) ?_
  intro p e s m args below meth c A H locs ls hx hb hr hml hts hown hlk hK hA hP hD hS hl
  have hown : s.vm.findClass RX7 = some m.cls := hown
  have hl : lv_has ls 8 [(0, .ref (q 0)), (1, .int x1), (2, .int x2)] := hl
  have inX7 : ∀ w ∈ wsX70, w ∈ wsX7_stepBy := fun _ h => List.mem_cons_of_mem _ (List.mem_append_right _ h)
  unfold f7_stepBy at hF
  refine lv_bipush (v := 19) hx hb dX7_stepBy_0 (by decide) ?_
  refine lv_iload_n hx hb dX7_stepBy_2 rfl (lv_at hl 1 rfl) ?_
  refine lv_imul hx hb dX7_stepBy_3 ?_
  refine lv_topi (fun v1 ev1 => ?_)
  have hF := bd_eq ev1 hF
  refine lv_istore_n (lv' := [(3, .int v1), (0, .ref (q 0)), (1, .int x1), (2, .int x2)]) hx hb dX7_stepBy_4 rfl hl (by decide) rfl (fun ls hl => ?_)
  refine lv_iconst (v := 0) hx hb dX7_stepBy_5 (by decide) ?_
  refine lv_istore (lv' := [(4, .int 0), (3, .int v1), (0, .ref (q 0)), (1, .int x1), (2, .int x2)]) hx hb dX7_stepBy_6 hl (by decide) rfl (fun ls hl => ?_)
  refine lv_iconst (v := 0) hx hb dX7_stepBy_8 (by decide) ?_
  refine lv_istore (lv' := [(5, .int 0), (4, .int 0), (3, .int v1), (0, .ref (q 0)), (1, .int x1), (2, .int x2)]) hx hb dX7_stepBy_9 hl (by decide) rfl (fun ls hl => ?_)
  have L11 : ∀ (n11 : Nat) (y2 : Int32) (y3 : Int32) (S4 : MS) (H : Heap) (locs : List Loc) (ls : Array Slot), f7_stepBy_l11 x1 x2 v1 n11 y2 y3 S4 = some (ro, S_o) → va_P (zD g) vwCl (MW g q S4) H → va_D A (MW g q S4) → va_S A s.heap H locs → lv_has ls 8 [(0, .ref (q 0)), (1, .int x1), (2, .int x2), (3, .int v1), (4, .int y2), (5, .int y3)] → W p l e (headSpec wsX7_stepBy rmX7_stepBy).room s m args below meth c H locs 0 0 (MQ below (zWQ g A (MW g q S_o) (some (.int ro))) args s 0 0 A) (F0 m 11 ls []) := by
    intro n11
    induction n11 with
    | zero =>
      intro y2 y3 S4 H locs ls hF hP hD hS hl
      exact absurd (show (none : Option (Int32 × MS)) = some _ from hF) (fun h9 => by cases h9)
    | succ n11 ih11 =>
      intro y2 y3 S4 H locs ls hF hP hD hS hl
      rw [f7_stepBy_l11] at hF
      refine lv_iload hx hb dX7_stepBy_11 (lv_at hl 5 rfl) ?_
      refine lv_aload_n hx hb dX7_stepBy_13 rfl (lv_at hl 0 rfl) ?_
      refine z_get (ci := 7) (v := .int (S4.1 2)) (C := RX7) (T := TX7) (N := 37) hx hb hts inX7 hown hK hP 0 rfl rfl 2 (by decide) (List.mem_of_getElem? (i := 1) rfl) rfl rfl dX7_stepBy_14 ?_
      refine lv_icmp_ge (tgt := 232) hx hb dX7_stepBy_17 (by decide) (fun c5 => ?_) (fun c5 => ?_)
      · have hF := zit c5 hF
        refine lv_aload_n hx hb dX7_stepBy_232 rfl (lv_at hl 0 rfl) ?_
        refine z_get (ci := 7) (v := .ref (q 7)) (C := RX7) (T := TX7) (N := 37) hx hb hts inX7 hown hK hP 0 rfl rfl 11 (by decide) (List.mem_of_getElem? (i := 3) rfl) rfl rfl dX7_stepBy_233 ?_
        refine lv_iload_n hx hb dX7_stepBy_236 rfl (lv_at hl 3 rfl) ?_
        refine lv_bipush (v := 18) hx hb dX7_stepBy_237 (by decide) ?_
        refine lv_iadd hx hb dX7_stepBy_239 ?_
        refine lv_dup2_11 hx hb dX7_stepBy_240 rfl rfl ?_
        obtain ⟨v6, hv6, hF⟩ := zob hF
        refine z_iald hx hb hK hP 7 rfl hv6 dX7_stepBy_241 ?_
        refine lv_iconst (v := 1) hx hb dX7_stepBy_242 (by decide) ?_
        refine lv_iadd hx hb dX7_stepBy_243 ?_
        obtain ⟨f7, hf7, hF⟩ := zob hF
        refine z_iast (ws' := MW g q (mA S4 11 f7)) hx hb hK hP hD hS 7 rfl hf7 rfl dX7_stepBy_244 (fun H locs hP hD hS => ?_)
        obtain ⟨S8, eS8⟩ : ∃ y : MS, y = (mA S4 11 f7) := ⟨_, rfl⟩
        rw [← eS8] at hP hD
        have hF := bd_eq eS8 hF
        refine lv_iload hx hb dX7_stepBy_245 (lv_at hl 4 rfl) ?_
        obtain ⟨e9a, e9b⟩ := Prod.mk.inj (zin hF)
        exact z_wi hx hb hr hlk hP hD hS (congrArg (fun z => some (Value.int z)) e9a) (by rw [e9b]) dX7_stepBy_247
      · have hF := zif c5 hF
        refine lv_aload_n hx hb dX7_stepBy_20 rfl (lv_at hl 0 rfl) ?_
        refine lv_iload_n hx hb dX7_stepBy_21 rfl (lv_at hl 1 rfl) ?_
        refine lv_iload hx hb dX7_stepBy_22 (lv_at hl 5 rfl) ?_
        obtain ⟨v9, hv9, hF⟩ := zob hF
        refine z_rgo (va_runV (As := [.int x1, .int y3]) (rest := []) ⟨hx, hb, hml, hown, hts⟩ (c7_isOut l g q S4 x1 y3 v9 hv9) (cwV 2 hts gX7_stepBy_X7_isOut rfl rfl rfl (by decide +kernel) ⟨Nat.le_of_ble_eq_true rfl, Nat.le_of_ble_eq_true rfl⟩) (z_rpreV (ci := 7) (q := (RX7, TX7, 37)) (q0 := 0) hP hK rfl rfl) rfl rfl hl.1 rfl (lv_room (Nat.le_of_ble_eq_true rfl)) dX7_stepBy_24 ⟨Nat.zero_le _, Nat.zero_le _⟩) ?_
        refine lv_if_ne (tgt := 226) hx hb dX7_stepBy_27 (by decide) (fun c10 => ?_) (fun c10 => ?_)
        · have hF := zif c10 hF
          refine lv_iinc (v := (y3 + 1)) (lv' := [(5, .int (y3 + 1)), (0, .ref (q 0)), (1, .int x1), (2, .int x2), (3, .int v1), (4, .int y2)]) hx hb dX7_stepBy_226 hl (k := 5) rfl rfl (by decide) rfl (fun ls hl => ?_)
          refine lv_goto (tgt := 11) hx hb dX7_stepBy_229 (by decide) ?_
          exact ih11 y2 (y3 + 1) S4 H locs ls hF hP hD hS (lv_sub hl [1, 2, 3, 4, 5, 0] rfl)
        · have hF := zit c10 hF
          refine lv_aload_n hx hb dX7_stepBy_30 rfl (lv_at hl 0 rfl) ?_
          refine z_get (ci := 7) (v := .int (S4.1 23)) (C := RX7) (T := TX7) (N := 37) hx hb hts inX7 hown hK hP 0 rfl rfl 23 (by decide) (List.mem_of_getElem? (i := 2) rfl) rfl rfl dX7_stepBy_31 ?_
          refine lv_iload hx hb dX7_stepBy_34 (lv_at hl 5 rfl) ?_
          refine z_rgo (va_runS (As := [.int (S4.1 23), .int y3]) (rest := []) ⟨hx, hb, hml, hown, hts⟩ (c7_has l g   (S4.1 23) y3) (va_cwS 2 hts gX7_stepBy_X7_has rfl rfl rfl (by decide +kernel) ⟨Nat.le_of_ble_eq_true rfl, Nat.le_of_ble_eq_true rfl⟩) (z_rpre z_nil hK) rfl rfl hl.1 rfl (lv_room (Nat.le_of_ble_eq_true rfl)) dX7_stepBy_36 ⟨Nat.zero_le _, Nat.zero_le _⟩) ?_
          refine lv_if_eq (tgt := 226) hx hb dX7_stepBy_39 (by decide) (fun c11 => ?_) (fun c11 => ?_)
          · have hF := zit c11 hF
            refine lv_iinc (v := (y3 + 1)) (lv' := [(5, .int (y3 + 1)), (0, .ref (q 0)), (1, .int x1), (2, .int x2), (3, .int v1), (4, .int y2)]) hx hb dX7_stepBy_226 hl (k := 5) rfl rfl (by decide) rfl (fun ls hl => ?_)
            refine lv_goto (tgt := 11) hx hb dX7_stepBy_229 (by decide) ?_
            exact ih11 y2 (y3 + 1) S4 H locs ls hF hP hD hS (lv_sub hl [1, 2, 3, 4, 5, 0] rfl)
          · have hF := zif c11 hF
            refine lv_aload_n hx hb dX7_stepBy_42 rfl (lv_at hl 0 rfl) ?_
            refine lv_iload_n hx hb dX7_stepBy_43 rfl (lv_at hl 1 rfl) ?_
            refine lv_iload hx hb dX7_stepBy_44 (lv_at hl 5 rfl) ?_
            refine lv_iload_n hx hb dX7_stepBy_46 rfl (lv_at hl 2 rfl) ?_
            obtain ⟨v12, hv12, hF⟩ := zob hF
            refine z_rgo (va_runV (As := [.int x1, .int y3, .int x2]) (rest := []) ⟨hx, hb, hml, hown, hts⟩ (c7_nextOn l g q S4 x1 y3 x2 v12 hv12) (cwV 3 hts gX7_stepBy_X7_nextOn rfl rfl rfl (by decide +kernel) ⟨Nat.le_of_ble_eq_true rfl, Nat.le_of_ble_eq_true rfl⟩) (z_rpreV (ci := 7) (q := (RX7, TX7, 37)) (q0 := 0) hP hK rfl rfl) rfl rfl hl.1 rfl (lv_room (Nat.le_of_ble_eq_true rfl)) dX7_stepBy_47 ⟨Nat.zero_le _, Nat.zero_le _⟩) ?_
            refine lv_istore (lv' := [(6, .int v12), (0, .ref (q 0)), (1, .int x1), (2, .int x2), (3, .int v1), (4, .int y2), (5, .int y3)]) hx hb dX7_stepBy_50 hl (by decide) rfl (fun ls hl => ?_)
            refine lv_iload hx hb dX7_stepBy_52 (lv_at hl 0 rfl) ?_
            refine lv_bipush (v := (-9)) hx hb dX7_stepBy_54 (by decide) ?_
            have L127 : ∀ (S13 : MS) (H : Heap) (locs : List Loc) (ls : Array Slot), f7_stepBy_j127 v1 y2 y3 (fun y2 y3 S4 => f7_stepBy_l11 x1 x2 v1 n11 y2 y3 S4) S13 = some (ro, S_o) → va_P (zD g) vwCl (MW g q S13) H → va_D A (MW g q S13) → va_S A s.heap H locs → lv_has ls 8 [(0, .ref (q 0)), (1, .int x1), (2, .int x2), (3, .int v1), (4, .int y2), (5, .int y3)] → W p l e (headSpec wsX7_stepBy rmX7_stepBy).room s m args below meth c H locs 0 0 (MQ below (zWQ g A (MW g q S_o) (some (.int ro))) args s 0 0 A) (F0 m 127 ls []) := by
              intro S13 H locs ls hF hP hD hS hl
              unfold f7_stepBy_j127 at hF
              refine lv_aload_n hx hb dX7_stepBy_127 rfl (lv_at hl 0 rfl) ?_
              refine z_get (ci := 7) (v := .ref (q 7)) (C := RX7) (T := TX7) (N := 37) hx hb hts inX7 hown hK hP 0 rfl rfl 11 (by decide) (List.mem_of_getElem? (i := 3) rfl) rfl rfl dX7_stepBy_128 ?_
              refine lv_iload_n hx hb dX7_stepBy_131 rfl (lv_at hl 3 rfl) ?_
              refine lv_iload hx hb dX7_stepBy_132 (lv_at hl 5 rfl) ?_
              refine lv_iadd hx hb dX7_stepBy_134 ?_
              obtain ⟨v14, hv14, hF⟩ := zob hF
              refine z_iald hx hb hK hP 7 rfl hv14 dX7_stepBy_135 ?_
              refine lv_istore (lv' := [(7, .int v14), (0, .ref (q 0)), (1, .int x1), (2, .int x2), (3, .int v1), (4, .int y2), (5, .int y3)]) hx hb dX7_stepBy_136 hl (by decide) rfl (fun ls hl => ?_)
              refine lv_aload_n hx hb dX7_stepBy_138 rfl (lv_at hl 1 rfl) ?_
              refine z_get (ci := 7) (v := .ref (q 7)) (C := RX7) (T := TX7) (N := 37) hx hb hts inX7 hown hK hP 0 rfl rfl 11 (by decide) (List.mem_of_getElem? (i := 3) rfl) rfl rfl dX7_stepBy_139 ?_
              refine lv_iload_n hx hb dX7_stepBy_142 rfl (lv_at hl 4 rfl) ?_
              refine lv_bipush (v := 8) hx hb dX7_stepBy_143 (by decide) ?_
              refine lv_iadd hx hb dX7_stepBy_145 ?_
              refine lv_iload hx hb dX7_stepBy_146 (lv_at hl 6 rfl) ?_
              refine lv_iadd hx hb dX7_stepBy_148 ?_
              obtain ⟨v15, hv15, hF⟩ := zob hF
              refine z_iald hx hb hK hP 7 rfl hv15 dX7_stepBy_149 ?_
              refine lv_aload_n hx hb dX7_stepBy_150 rfl (lv_at hl 1 rfl) ?_
              refine z_get (ci := 7) (v := .ref (q 5)) (C := RX7) (T := TX7) (N := 37) hx hb hts inX7 hown hK hP 0 rfl rfl 9 (by decide) (List.mem_of_getElem? (i := 4) rfl) rfl rfl dX7_stepBy_151 ?_
              refine lv_iload hx hb dX7_stepBy_154 (lv_at hl 6 rfl) ?_
              obtain ⟨v16, hv16, hF⟩ := zob hF
              refine z_iald hx hb hK hP 5 rfl hv16 dX7_stepBy_156 ?_
              refine lv_icmp_lt (tgt := 226) hx hb dX7_stepBy_157 (by decide) (fun c17 => ?_) (fun c17 => ?_)
              · have hF := zit c17 hF
                refine lv_iinc (v := (y3 + 1)) (lv' := [(5, .int (y3 + 1)), (7, .int v14), (0, .ref (q 0)), (1, .int x1), (2, .int x2), (3, .int v1), (4, .int y2)]) hx hb dX7_stepBy_226 hl (k := 6) rfl rfl (by decide) rfl (fun ls hl => ?_)
                refine lv_goto (tgt := 11) hx hb dX7_stepBy_229 (by decide) ?_
                exact ih11 y2 (y3 + 1) S13 H locs ls hF hP hD hS (lv_sub hl [2, 3, 4, 5, 6, 0] rfl)
              · have hF := zif c17 hF
                refine lv_aload_n hx hb dX7_stepBy_160 rfl (lv_at hl 1 rfl) ?_
                refine z_get (ci := 7) (v := .ref (q 2)) (C := RX7) (T := TX7) (N := 37) hx hb hts inX7 hown hK hP 0 rfl rfl 6 (by decide) (List.mem_of_getElem? (i := 5) rfl) rfl rfl dX7_stepBy_161 ?_
                refine lv_iload hx hb dX7_stepBy_164 (lv_at hl 0 rfl) ?_
                obtain ⟨v18, hv18, hF⟩ := zob hF
                refine z_iald hx hb hK hP 2 rfl hv18 dX7_stepBy_166 ?_
                refine lv_iconst (v := 1) hx hb dX7_stepBy_167 (by decide) ?_
                refine lv_icmp_ne (tgt := 226) hx hb dX7_stepBy_168 (by decide) (fun c19 => ?_) (fun c19 => ?_)
                · have hF := zif c19 hF
                  refine lv_iinc (v := (y3 + 1)) (lv' := [(5, .int (y3 + 1)), (7, .int v14), (0, .ref (q 0)), (1, .int x1), (2, .int x2), (3, .int v1), (4, .int y2)]) hx hb dX7_stepBy_226 hl (k := 6) rfl rfl (by decide) rfl (fun ls hl => ?_)
                  refine lv_goto (tgt := 11) hx hb dX7_stepBy_229 (by decide) ?_
                  exact ih11 y2 (y3 + 1) S13 H locs ls hF hP hD hS (lv_sub hl [2, 3, 4, 5, 6, 0] rfl)
                · have hF := zit c19 hF
                  refine lv_aload_n hx hb dX7_stepBy_171 rfl (lv_at hl 1 rfl) ?_
                  refine z_get (ci := 7) (v := .ref (q 7)) (C := RX7) (T := TX7) (N := 37) hx hb hts inX7 hown hK hP 0 rfl rfl 11 (by decide) (List.mem_of_getElem? (i := 3) rfl) rfl rfl dX7_stepBy_172 ?_
                  refine lv_iload_n hx hb dX7_stepBy_175 rfl (lv_at hl 4 rfl) ?_
                  refine lv_bipush (v := 17) hx hb dX7_stepBy_176 (by decide) ?_
                  refine lv_iadd hx hb dX7_stepBy_178 ?_
                  obtain ⟨v20, hv20, hF⟩ := zob hF
                  refine z_iald hx hb hK hP 7 rfl hv20 dX7_stepBy_179 ?_
                  refine lv_iload hx hb dX7_stepBy_180 (lv_at hl 0 rfl) ?_
                  refine z_rgo (va_runS (As := [.int v20, .int v14]) (rest := []) ⟨hx, hb, hml, hown, hts⟩ (c7_has l g   v20 v14) (va_cwS 2 hts gX7_stepBy_X7_has rfl rfl rfl (by decide +kernel) ⟨Nat.le_of_ble_eq_true rfl, Nat.le_of_ble_eq_true rfl⟩) (z_rpre z_nil hK) rfl rfl hl.1 rfl (lv_room (Nat.le_of_ble_eq_true rfl)) dX7_stepBy_182 ⟨Nat.zero_le _, Nat.zero_le _⟩) ?_
                  refine lv_if_ne (tgt := 226) hx hb dX7_stepBy_185 (by decide) (fun c21 => ?_) (fun c21 => ?_)
                  · have hF := zif c21 hF
                    refine lv_iinc (v := (y3 + 1)) (lv' := [(5, .int (y3 + 1)), (7, .int v14), (0, .ref (q 0)), (1, .int x1), (2, .int x2), (3, .int v1), (4, .int y2)]) hx hb dX7_stepBy_226 hl (k := 6) rfl rfl (by decide) rfl (fun ls hl => ?_)
                    refine lv_goto (tgt := 11) hx hb dX7_stepBy_229 (by decide) ?_
                    exact ih11 y2 (y3 + 1) S13 H locs ls hF hP hD hS (lv_sub hl [2, 3, 4, 5, 6, 0] rfl)
                  · have hF := zit c21 hF
                    refine lv_aload_n hx hb dX7_stepBy_188 rfl (lv_at hl 1 rfl) ?_
                    refine z_get (ci := 7) (v := .ref (q 7)) (C := RX7) (T := TX7) (N := 37) hx hb hts inX7 hown hK hP 0 rfl rfl 11 (by decide) (List.mem_of_getElem? (i := 3) rfl) rfl rfl dX7_stepBy_189 ?_
                    refine lv_iload_n hx hb dX7_stepBy_192 rfl (lv_at hl 4 rfl) ?_
                    refine lv_bipush (v := 12) hx hb dX7_stepBy_193 (by decide) ?_
                    refine lv_iadd hx hb dX7_stepBy_195 ?_
                    refine lv_iload hx hb dX7_stepBy_196 (lv_at hl 6 rfl) ?_
                    refine lv_iadd hx hb dX7_stepBy_198 ?_
                    refine lv_iconst (v := 1) hx hb dX7_stepBy_199 (by decide) ?_
                    obtain ⟨f22, hf22, hF⟩ := zob hF
                    refine z_iast (ws' := MW g q (mA S13 11 f22)) hx hb hK hP hD hS 7 rfl hf22 rfl dX7_stepBy_200 (fun H locs hP hD hS => ?_)
                    obtain ⟨S23, eS23⟩ : ∃ y : MS, y = (mA S13 11 f22) := ⟨_, rfl⟩
                    rw [← eS23] at hP hD
                    have hF := bd_eq eS23 hF
                    refine lv_aload_n hx hb dX7_stepBy_201 rfl (lv_at hl 1 rfl) ?_
                    refine z_get (ci := 7) (v := .ref (q 7)) (C := RX7) (T := TX7) (N := 37) hx hb hts inX7 hown hK hP 0 rfl rfl 11 (by decide) (List.mem_of_getElem? (i := 3) rfl) rfl rfl dX7_stepBy_202 ?_
                    refine lv_iload_n hx hb dX7_stepBy_205 rfl (lv_at hl 4 rfl) ?_
                    refine lv_bipush (v := 17) hx hb dX7_stepBy_206 (by decide) ?_
                    refine lv_iadd hx hb dX7_stepBy_208 ?_
                    refine lv_dup2_11 hx hb dX7_stepBy_209 rfl rfl ?_
                    obtain ⟨v24, hv24, hF⟩ := zob hF
                    refine z_iald hx hb hK hP 7 rfl hv24 dX7_stepBy_210 ?_
                    refine lv_iconst (v := 1) hx hb dX7_stepBy_211 (by decide) ?_
                    refine lv_iload hx hb dX7_stepBy_212 (lv_at hl 0 rfl) ?_
                    refine lv_ishl hx hb dX7_stepBy_214 ?_
                    refine lv_ior hx hb dX7_stepBy_215 ?_
                    obtain ⟨f25, hf25, hF⟩ := zob hF
                    refine z_iast (ws' := MW g q (mA S23 11 f25)) hx hb hK hP hD hS 7 rfl hf25 rfl dX7_stepBy_216 (fun H locs hP hD hS => ?_)
                    obtain ⟨S26, eS26⟩ : ∃ y : MS, y = (mA S23 11 f25) := ⟨_, rfl⟩
                    rw [← eS26] at hP hD
                    have hF := bd_eq eS26 hF
                    refine lv_iload hx hb dX7_stepBy_217 (lv_at hl 5 rfl) ?_
                    refine lv_iconst (v := 1) hx hb dX7_stepBy_219 (by decide) ?_
                    refine lv_iload hx hb dX7_stepBy_220 (lv_at hl 6 rfl) ?_
                    refine lv_ishl hx hb dX7_stepBy_222 ?_
                    refine lv_ior hx hb dX7_stepBy_223 ?_
                    refine lv_topi (fun v27 ev27 => ?_)
                    have hF := bd_eq ev27 hF
                    refine lv_istore (lv' := [(4, .int v27), (7, .int v14), (0, .ref (q 0)), (1, .int x1), (2, .int x2), (3, .int v1), (5, .int y3)]) hx hb dX7_stepBy_224 hl (by decide) rfl (fun ls hl => ?_)
                    refine lv_iinc (v := (y3 + 1)) (lv' := [(5, .int (y3 + 1)), (4, .int v27), (7, .int v14), (0, .ref (q 0)), (1, .int x1), (2, .int x2), (3, .int v1)]) hx hb dX7_stepBy_226 hl (k := 6) rfl rfl (by decide) rfl (fun ls hl => ?_)
                    refine lv_goto (tgt := 11) hx hb dX7_stepBy_229 (by decide) ?_
                    exact ih11 v27 (y3 + 1) S26 H locs ls hF hP hD hS (lv_sub hl [3, 4, 5, 6, 1, 0] rfl)
            refine lv_icmp_eq (tgt := 127) hx hb dX7_stepBy_56 (by decide) (fun c28 => ?_) (fun c28 => ?_)
            · have hF := zit c28 hF
              exact L127 S4 H locs ls hF hP hD hS (lv_sub hl [1, 2, 3, 4, 5, 6] rfl)
            · have hF := zif c28 hF
              refine lv_aload_n hx hb dX7_stepBy_59 rfl (lv_at hl 1 rfl) ?_
              refine z_get (ci := 7) (v := .ref (q 7)) (C := RX7) (T := TX7) (N := 37) hx hb hts inX7 hown hK hP 0 rfl rfl 11 (by decide) (List.mem_of_getElem? (i := 3) rfl) rfl rfl dX7_stepBy_60 ?_
              refine lv_iload_n hx hb dX7_stepBy_63 rfl (lv_at hl 4 rfl) ?_
              refine lv_iconst (v := 4) hx hb dX7_stepBy_64 (by decide) ?_
              refine lv_iadd hx hb dX7_stepBy_65 ?_
              refine lv_iload hx hb dX7_stepBy_66 (lv_at hl 6 rfl) ?_
              refine lv_iadd hx hb dX7_stepBy_68 ?_
              refine lv_aload_n hx hb dX7_stepBy_69 rfl (lv_at hl 1 rfl) ?_
              refine z_get (ci := 7) (v := .ref (q 7)) (C := RX7) (T := TX7) (N := 37) hx hb hts inX7 hown hK hP 0 rfl rfl 11 (by decide) (List.mem_of_getElem? (i := 3) rfl) rfl rfl dX7_stepBy_70 ?_
              refine lv_iload_n hx hb dX7_stepBy_73 rfl (lv_at hl 4 rfl) ?_
              refine lv_iload hx hb dX7_stepBy_74 (lv_at hl 6 rfl) ?_
              refine lv_iadd hx hb dX7_stepBy_76 ?_
              obtain ⟨v29, hv29, hF⟩ := zob hF
              refine z_iald hx hb hK hP 7 rfl hv29 dX7_stepBy_77 ?_
              obtain ⟨f30, hf30, hF⟩ := zob hF
              refine z_iast (ws' := MW g q (mA S4 11 f30)) hx hb hK hP hD hS 7 rfl hf30 rfl dX7_stepBy_78 (fun H locs hP hD hS => ?_)
              obtain ⟨S31, eS31⟩ : ∃ y : MS, y = (mA S4 11 f30) := ⟨_, rfl⟩
              rw [← eS31] at hP hD
              have hF := bd_eq eS31 hF
              refine lv_aload_n hx hb dX7_stepBy_79 rfl (lv_at hl 1 rfl) ?_
              refine z_get (ci := 7) (v := .ref (q 7)) (C := RX7) (T := TX7) (N := 37) hx hb hts inX7 hown hK hP 0 rfl rfl 11 (by decide) (List.mem_of_getElem? (i := 3) rfl) rfl rfl dX7_stepBy_80 ?_
              refine lv_iload_n hx hb dX7_stepBy_83 rfl (lv_at hl 4 rfl) ?_
              refine lv_iload hx hb dX7_stepBy_84 (lv_at hl 6 rfl) ?_
              refine lv_iadd hx hb dX7_stepBy_86 ?_
              refine lv_iload hx hb dX7_stepBy_87 (lv_at hl 0 rfl) ?_
              obtain ⟨f32, hf32, hF⟩ := zob hF
              refine z_iast (ws' := MW g q (mA S31 11 f32)) hx hb hK hP hD hS 7 rfl hf32 rfl dX7_stepBy_89 (fun H locs hP hD hS => ?_)
              obtain ⟨S33, eS33⟩ : ∃ y : MS, y = (mA S31 11 f32) := ⟨_, rfl⟩
              rw [← eS33] at hP hD
              have hF := bd_eq eS33 hF
              refine lv_aload_n hx hb dX7_stepBy_90 rfl (lv_at hl 1 rfl) ?_
              refine z_get (ci := 7) (v := .ref (q 7)) (C := RX7) (T := TX7) (N := 37) hx hb hts inX7 hown hK hP 0 rfl rfl 11 (by decide) (List.mem_of_getElem? (i := 3) rfl) rfl rfl dX7_stepBy_91 ?_
              refine lv_iload_n hx hb dX7_stepBy_94 rfl (lv_at hl 4 rfl) ?_
              refine lv_bipush (v := 8) hx hb dX7_stepBy_95 (by decide) ?_
              refine lv_iadd hx hb dX7_stepBy_97 ?_
              refine lv_iload hx hb dX7_stepBy_98 (lv_at hl 6 rfl) ?_
              refine lv_iadd hx hb dX7_stepBy_100 ?_
              refine lv_dup2_11 hx hb dX7_stepBy_101 rfl rfl ?_
              obtain ⟨v34, hv34, hF⟩ := zob hF
              refine z_iald hx hb hK hP 7 rfl hv34 dX7_stepBy_102 ?_
              refine lv_aload_n hx hb dX7_stepBy_103 rfl (lv_at hl 1 rfl) ?_
              refine z_get (ci := 7) (v := .ref (q 7)) (C := RX7) (T := TX7) (N := 37) hx hb hts inX7 hown hK hP 0 rfl rfl 11 (by decide) (List.mem_of_getElem? (i := 3) rfl) rfl rfl dX7_stepBy_104 ?_
              refine lv_iload_n hx hb dX7_stepBy_107 rfl (lv_at hl 4 rfl) ?_
              refine lv_bipush (v := 8) hx hb dX7_stepBy_108 (by decide) ?_
              refine lv_iadd hx hb dX7_stepBy_110 ?_
              refine lv_iload hx hb dX7_stepBy_111 (lv_at hl 6 rfl) ?_
              refine lv_iadd hx hb dX7_stepBy_113 ?_
              obtain ⟨v35, hv35, hF⟩ := zob hF
              refine z_iald hx hb hK hP 7 rfl hv35 dX7_stepBy_114 ?_
              refine lv_bipush (v := 9) hx hb dX7_stepBy_115 (by decide) ?_
              obtain ⟨v36, hVv36⟩ : ∃ y : Int32, (if 9 ≤ v35 then 0 else 1 : Int32) = y := ⟨_, rfl⟩
              have hF := bd_eq hVv36.symm hF
              have Jv36 : W p l e (headSpec wsX7_stepBy rmX7_stepBy).room s m args below meth c H locs 0 0 (MQ below (zWQ g A (MW g q S_o) (some (.int ro))) args s 0 0 A) (F0 m 125 ls [.int v36, .int v34, .int ((v1 + 8) + y3), .ref (q 7)]) := by
                refine lv_iadd hx hb dX7_stepBy_125 ?_
                obtain ⟨f38, hf38, hF⟩ := zob hF
                refine z_iast (ws' := MW g q (mA S33 11 f38)) hx hb hK hP hD hS 7 rfl hf38 rfl dX7_stepBy_126 (fun H locs hP hD hS => ?_)
                obtain ⟨S39, eS39⟩ : ∃ y : MS, y = (mA S33 11 f38) := ⟨_, rfl⟩
                rw [← eS39] at hP hD
                have hF := bd_eq eS39 hF
                exact L127 S39 H locs ls hF hP hD hS (lv_sub hl [1, 2, 3, 4, 5, 6] rfl)
              refine lv_icmp_ge (tgt := 124) hx hb dX7_stepBy_117 (by decide) (fun c37 => ?_) (fun c37 => ?_)
              · have hVv36 := zit c37 hVv36
                refine lv_iconst (v := 0) hx hb dX7_stepBy_124 (by decide) ?_
                subst hVv36
                exact Jv36
              · have hVv36 := zif c37 hVv36
                refine lv_iconst (v := 1) hx hb dX7_stepBy_120 (by decide) ?_
                refine lv_goto (tgt := 125) hx hb dX7_stepBy_121 (by decide) ?_
                subst hVv36
                exact Jv36
  exact L11 FU 0 0 S H locs ls hF hP hD hS (lv_sub hl [3, 4, 5, 2, 1, 0] rfl)
def f7_stepOn (S : MS) (x1 : Int32) : Option (Int32 × MS) := (f7_tideOn S x1).bind fun v1 => (f7_stepBy S x1 v1).bind fun (v3, S2) => some (v3, S2)
abbrev rmX7_stepOn : Room := { frames := 4, cells := 0, slots := 0, locals := 104 }
set_option maxHeartbeats 4000000 in
set_option maxRecDepth 100000 in
theorem c7_stepOn (l : Launch) (g : zG) (q : Nat → Nat) (S : MS) (x1 : Int32) (ro : Int32) (S_o : MS) (hF : f7_stepOn S x1 = some (ro, S_o)) : zRW l g yX7_stepOn wsX7_stepOn rmX7_stepOn [.ref (q 0), .int x1] (MW g q S) (some (.int ro)) (MW g q S_o) := by
  refine zRW_of (cc := cX7_stepOn) (maxL := 2) (ret := (some .int)) (by decide) rfl (Nat.le_of_ble_eq_true rfl) ?_
  intro p e s m args below meth c A H locs ls hx hb hr hml hts hown hlk hK hA hP hD hS hl
  have hown : s.vm.findClass RX7 = some m.cls := hown
  have hl : lv_has ls 2 [(0, .ref (q 0)), (1, .int x1)] := hl
  unfold f7_stepOn at hF
  refine lv_aload_n hx hb dX7_stepOn_0 rfl (lv_at hl 0 rfl) ?_
  refine lv_iload_n hx hb dX7_stepOn_1 rfl (lv_at hl 1 rfl) ?_
  refine lv_aload_n hx hb dX7_stepOn_2 rfl (lv_at hl 0 rfl) ?_
  refine lv_iload_n hx hb dX7_stepOn_3 rfl (lv_at hl 1 rfl) ?_
  obtain ⟨v1, hv1, hF⟩ := zob hF
  refine z_rgo (va_runV (As := [.int x1]) (rest := [.int x1, .ref (q 0)]) ⟨hx, hb, hml, hown, hts⟩ (c7_tideOn l g q S x1 v1 hv1) (cwV 1 hts gX7_stepOn_X7_tideOn rfl rfl rfl (by decide +kernel) ⟨Nat.le_of_ble_eq_true rfl, Nat.le_of_ble_eq_true rfl⟩) (z_rpreV (ci := 7) (q := (RX7, TX7, 37)) (q0 := 0) hP hK rfl rfl) rfl rfl hl.1 rfl (lv_room (Nat.le_of_ble_eq_true rfl)) dX7_stepOn_4 ⟨Nat.zero_le _, Nat.zero_le _⟩) ?_
  obtain ⟨⟨v3, S2⟩, hS2, hF⟩ := zob hF
  refine z_wgoW (va_runV (As := [.int x1, .int v1]) (rest := []) ⟨hx, hb, hml, hown, hts⟩ ((c7_stepBy l g q S x1 v1 v3  S2 hS2) H.size) (cwV 2 hts gX7_stepOn_X7_stepBy rfl rfl rfl (by decide +kernel) ⟨Nat.le_of_ble_eq_true rfl, Nat.le_of_ble_eq_true rfl⟩) (z_wpreV (ci := 7) (q := (RX7, TX7, 37)) (q0 := 0) hP hK (z_any hD) rfl rfl) rfl rfl hl.1 rfl (lv_room (Nat.le_of_ble_eq_true rfl)) dX7_stepOn_7 ⟨Nat.zero_le _, Nat.zero_le _⟩) hP hD hS hA (fun H locs hP hD hS => ?_)
  show W p l e (headSpec wsX7_stepOn rmX7_stepOn).room s m args below meth c H locs 0 0 (MQ below (zWQ g A (MW g q S_o) (some (.int ro))) args s 0 0 A) (F0 m 10 ls [.int v3])
  obtain ⟨e9a, e9b⟩ := Prod.mk.inj (zin hF)
  exact z_wi hx hb hr hlk hP hD hS (congrArg (fun z => some (Value.int z)) e9a) (by rw [e9b]) dX7_stepOn_10
def f7_goTrial_l2 (x1 : Int32) : Nat → Int32 → MS → Option (MS)
  | 0, _, _ => none
  | n2 + 1, y1, S2 => if x1 ≤ y1 then some S2 else (f7_stepOn S2 1).bind fun (v5, S4) => f7_goTrial_l2 x1 n2 (y1 + 1) S4
def f7_goTrial (S : MS) (x1 : Int32) : Option (MS) := f7_goTrial_l2 x1 FU 0 S
abbrev rmX7_goTrial : Room := { frames := 5, cells := 0, slots := 0, locals := 125 }
set_option maxHeartbeats 4000000 in
set_option maxRecDepth 100000 in
theorem c7_goTrial (l : Launch) (g : zG) (q : Nat → Nat) (S : MS) (x1 : Int32) (S_o : MS) (hF : f7_goTrial S x1 = some S_o) : zRW l g yX7_goTrial wsX7_goTrial rmX7_goTrial [.ref (q 0), .int x1] (MW g q S) none (MW g q S_o) := by
  refine zRW_of (cc := cX7_goTrial) (maxL := 3) (ret := none) (by decide) rfl (Nat.le_of_ble_eq_true rfl) ?_
  intro p e s m args below meth c A H locs ls hx hb hr hml hts hown hlk hK hA hP hD hS hl
  have hown : s.vm.findClass RX7 = some m.cls := hown
  have hl : lv_has ls 3 [(0, .ref (q 0)), (1, .int x1)] := hl
  unfold f7_goTrial at hF
  refine lv_iconst (v := 0) hx hb dX7_goTrial_0 (by decide) ?_
  refine lv_istore_n (lv' := [(2, .int 0), (0, .ref (q 0)), (1, .int x1)]) hx hb dX7_goTrial_1 rfl hl (by decide) rfl (fun ls hl => ?_)
  have L2 : ∀ (n2 : Nat) (y1 : Int32) (S2 : MS) (H : Heap) (locs : List Loc) (ls : Array Slot), f7_goTrial_l2 x1 n2 y1 S2 = some S_o → va_P (zD g) vwCl (MW g q S2) H → va_D A (MW g q S2) → va_S A s.heap H locs → lv_has ls 3 [(0, .ref (q 0)), (1, .int x1), (2, .int y1)] → W p l e (headSpec wsX7_goTrial rmX7_goTrial).room s m args below meth c H locs 0 0 (MQ below (zWQ g A (MW g q S_o) none) args s 0 0 A) (F0 m 2 ls []) := by
    intro n2
    induction n2 with
    | zero =>
      intro y1 S2 H locs ls hF hP hD hS hl
      exact absurd (show (none : Option (MS)) = some _ from hF) (fun h9 => by cases h9)
    | succ n2 ih2 =>
      intro y1 S2 H locs ls hF hP hD hS hl
      rw [f7_goTrial_l2] at hF
      refine lv_iload_n hx hb dX7_goTrial_2 rfl (lv_at hl 2 rfl) ?_
      refine lv_iload_n hx hb dX7_goTrial_3 rfl (lv_at hl 1 rfl) ?_
      refine lv_icmp_ge (tgt := 19) hx hb dX7_goTrial_4 (by decide) (fun c3 => ?_) (fun c3 => ?_)
      · have hF := zit c3 hF
        have e9b := zin hF
        exact z_wv hx hb hr hlk hP hD hS (by rw [e9b]) dX7_goTrial_19
      · have hF := zif c3 hF
        refine lv_aload_n hx hb dX7_goTrial_7 rfl (lv_at hl 0 rfl) ?_
        refine lv_iconst (v := 1) hx hb dX7_goTrial_8 (by decide) ?_
        obtain ⟨⟨v5, S4⟩, hS4, hF⟩ := zob hF
        refine z_wgoW (va_runV (As := [.int 1]) (rest := []) ⟨hx, hb, hml, hown, hts⟩ ((c7_stepOn l g q S2 1 v5  S4 hS4) H.size) (cwV 1 hts gX7_goTrial_X7_stepOn rfl rfl rfl (by decide +kernel) ⟨Nat.le_of_ble_eq_true rfl, Nat.le_of_ble_eq_true rfl⟩) (z_wpreV (ci := 7) (q := (RX7, TX7, 37)) (q0 := 0) hP hK (z_any hD) rfl rfl) rfl rfl hl.1 rfl (lv_room (Nat.le_of_ble_eq_true rfl)) dX7_goTrial_9 ⟨Nat.zero_le _, Nat.zero_le _⟩) hP hD hS hA (fun H locs hP hD hS => ?_)
        show W p l e (headSpec wsX7_goTrial rmX7_goTrial).room s m args below meth c H locs 0 0 (MQ below (zWQ g A (MW g q S_o) none) args s 0 0 A) (F0 m 12 ls [.int v5])
        refine lv_pop hx hb dX7_goTrial_12 rfl ?_
        refine lv_iinc (v := (y1 + 1)) (lv' := [(2, .int (y1 + 1)), (0, .ref (q 0)), (1, .int x1)]) hx hb dX7_goTrial_13 hl (k := 2) rfl rfl (by decide) rfl (fun ls hl => ?_)
        refine lv_goto (tgt := 2) hx hb dX7_goTrial_16 (by decide) ?_
        exact ih2 (y1 + 1) S4 H locs ls hF hP hD hS (lv_sub hl [1, 2, 0] rfl)
  exact L2 FU 0 S H locs ls hF hP hD hS (lv_sub hl [1, 2, 0] rfl)
def f7_outOn_l5 (x1 : Int32) (x2 : Int32) (S : MS) : Nat → Int32 → Int32 → Option (Int32)
  | 0, _, _ => none
  | n5 + 1, y1, y2 => if (S.1 2) ≤ y2 then some y1 else (f7_isOut S x1 y2).bind fun v4 => (if v4 = 0 then some 0 else if x2 = 0 then some 1 else (zrd (S.2.1 11) 38 ((19 * x1) + y2)).bind fun v10 => (zrd (S.2.1 10) 4 y2).bind fun v11 => if v10 = v11 then some 1 else some 0 : Option Int32).bind fun v5 => bd (α := Int32) (if v5 = 0 then 0 else ((1 : Int32) <<< (y2 &&& 31))) (fun (v13 : Int32) => bd (α := Int32) (y1 ||| v13) (fun (v15 : Int32) => f7_outOn_l5 x1 x2 S n5 v15 (y2 + 1)))
def f7_outOn (S : MS) (x1 : Int32) (x2 : Int32) : Option (Int32) := f7_outOn_l5 x1 x2 S FU 0 0
abbrev rmX7_outOn : Room := { frames := 1, cells := 0, slots := 0, locals := 22 }
set_option maxHeartbeats 4000000 in
set_option maxRecDepth 100000 in
theorem c7_outOn (l : Launch) (g : zG) (q : Nat → Nat) (S : MS) (x1 : Int32) (x2 : Int32) (ro : Int32) (hF : f7_outOn S x1 x2 = some ro) : zRO l g yX7_outOn wsX7_outOn rmX7_outOn [.ref (q 0), .int x1, .int x2] (MW g q S) (some (.int ro)) := by
  refine zRO_of (cc := cX7_outOn) (maxL := 6) (ret := (some .int)) (by decide) rfl (Nat.le_of_ble_eq_true rfl) ?_
  intro p e s m args below meth c ls hx hb hr hml hts hown hlk hK hP hl
  have hown : s.vm.findClass RX7 = some m.cls := hown
  have hl : lv_has ls 6 [(0, .ref (q 0)), (1, .int x1), (2, .int x2)] := hl
  have inX7 : ∀ w ∈ wsX70, w ∈ wsX7_outOn := fun _ h => List.mem_cons_of_mem _ (List.mem_append_right _ h)
  unfold f7_outOn at hF
  refine lv_iconst (v := 0) hx hb dX7_outOn_0 (by decide) ?_
  refine lv_istore_n (lv' := [(3, .int 0), (0, .ref (q 0)), (1, .int x1), (2, .int x2)]) hx hb dX7_outOn_1 rfl hl (by decide) rfl (fun ls hl => ?_)
  refine lv_iconst (v := 0) hx hb dX7_outOn_2 (by decide) ?_
  refine lv_istore (lv' := [(4, .int 0), (3, .int 0), (0, .ref (q 0)), (1, .int x1), (2, .int x2)]) hx hb dX7_outOn_3 hl (by decide) rfl (fun ls hl => ?_)
  have L5 : ∀ (n5 : Nat) (y1 : Int32) (y2 : Int32) (ls : Array Slot), f7_outOn_l5 x1 x2 S n5 y1 y2 = some ro → lv_has ls 6 [(0, .ref (q 0)), (1, .int x1), (2, .int x2), (3, .int y1), (4, .int y2)] → W p l e (headSpec wsX7_outOn rmX7_outOn).room s m args below meth c s.heap [] 0 0 (MQ below (zRQ (some (.int ro))) args s 0 0 (fun _ => False)) (F0 m 5 ls []) := by
    intro n5
    induction n5 with
    | zero =>
      intro y1 y2 ls hF hl
      exact absurd (show (none : Option (Int32)) = some _ from hF) (fun h9 => by cases h9)
    | succ n5 ih5 =>
      intro y1 y2 ls hF hl
      rw [f7_outOn_l5] at hF
      refine lv_iload hx hb dX7_outOn_5 (lv_at hl 4 rfl) ?_
      refine lv_aload_n hx hb dX7_outOn_7 rfl (lv_at hl 0 rfl) ?_
      refine z_get (ci := 7) (v := .int (S.1 2)) (C := RX7) (T := TX7) (N := 37) hx hb hts inX7 hown hK hP 0 rfl rfl 2 (by decide) (List.mem_of_getElem? (i := 1) rfl) rfl rfl dX7_outOn_8 ?_
      refine lv_icmp_ge (tgt := 79) hx hb dX7_outOn_11 (by decide) (fun c3 => ?_) (fun c3 => ?_)
      · have hF := zit c3 hF
        refine lv_iload_n hx hb dX7_outOn_79 rfl (lv_at hl 3 rfl) ?_
        have e9a := zin hF
        exact z_ri hx hb hr hlk (congrArg (fun z => some (Value.int z)) e9a) dX7_outOn_80
      · have hF := zif c3 hF
        refine lv_aload_n hx hb dX7_outOn_14 rfl (lv_at hl 0 rfl) ?_
        refine lv_iload_n hx hb dX7_outOn_15 rfl (lv_at hl 1 rfl) ?_
        refine lv_iload hx hb dX7_outOn_16 (lv_at hl 4 rfl) ?_
        obtain ⟨v4, hv4, hF⟩ := zob hF
        refine z_rgo (va_runV (As := [.int x1, .int y2]) (rest := []) ⟨hx, hb, hml, hown, hts⟩ (c7_isOut l g q S x1 y2 v4 hv4) (cwV 2 hts gX7_outOn_X7_isOut rfl rfl rfl (by decide +kernel) ⟨Nat.le_of_ble_eq_true rfl, Nat.le_of_ble_eq_true rfl⟩) (z_rpreV (ci := 7) (q := (RX7, TX7, 37)) (q0 := 0) hP hK rfl rfl) rfl rfl hl.1 rfl (lv_room (Nat.le_of_ble_eq_true rfl)) dX7_outOn_18 ⟨Nat.zero_le _, Nat.zero_le _⟩) ?_
        obtain ⟨v5, hVv5, hF⟩ := zob hF
        have Jv5 : W p l e (headSpec wsX7_outOn rmX7_outOn).room s m args below meth c s.heap [] 0 0 (MQ below (zRQ (some (.int ro))) args s 0 0 (fun _ => False)) (F0 m 55 ls [.int v5]) := by
          refine lv_istore (lv' := [(5, .int v5), (0, .ref (q 0)), (1, .int x1), (2, .int x2), (3, .int y1), (4, .int y2)]) hx hb dX7_outOn_55 hl (by decide) rfl (fun ls hl => ?_)
          refine lv_iload_n hx hb dX7_outOn_57 rfl (lv_at hl 4 rfl) ?_
          refine lv_iload hx hb dX7_outOn_58 (lv_at hl 0 rfl) ?_
          obtain ⟨v13, hVv13⟩ : ∃ y : Int32, (if v5 = 0 then 0 else ((1 : Int32) <<< (y2 &&& 31)) : Int32) = y := ⟨_, rfl⟩
          have hF := bd_eq hVv13.symm hF
          have Jv13 : W p l e (headSpec wsX7_outOn rmX7_outOn).room s m args below meth c s.heap [] 0 0 (MQ below (zRQ (some (.int ro))) args s 0 0 (fun _ => False)) (F0 m 71 ls [.int v13, .int y1]) := by
            refine lv_ior hx hb dX7_outOn_71 ?_
            refine lv_topi (fun v15 ev15 => ?_)
            have hF := bd_eq ev15 hF
            refine lv_istore_n (lv' := [(3, .int v15), (5, .int v5), (0, .ref (q 0)), (1, .int x1), (2, .int x2), (4, .int y2)]) hx hb dX7_outOn_72 rfl hl (by decide) rfl (fun ls hl => ?_)
            refine lv_iinc (v := (y2 + 1)) (lv' := [(4, .int (y2 + 1)), (3, .int v15), (5, .int v5), (0, .ref (q 0)), (1, .int x1), (2, .int x2)]) hx hb dX7_outOn_73 hl (k := 5) rfl rfl (by decide) rfl (fun ls hl => ?_)
            refine lv_goto (tgt := 5) hx hb dX7_outOn_76 (by decide) ?_
            exact ih5 v15 (y2 + 1) ls hF (lv_sub hl [3, 4, 5, 1, 0] rfl)
          refine lv_if_eq (tgt := 70) hx hb dX7_outOn_60 (by decide) (fun c14 => ?_) (fun c14 => ?_)
          · have hVv13 := zit c14 hVv13
            refine lv_iconst (v := 0) hx hb dX7_outOn_70 (by decide) ?_
            subst hVv13
            exact Jv13
          · have hVv13 := zif c14 hVv13
            refine lv_iconst (v := 1) hx hb dX7_outOn_63 (by decide) ?_
            refine lv_iload hx hb dX7_outOn_64 (lv_at hl 5 rfl) ?_
            refine lv_ishl hx hb dX7_outOn_66 ?_
            refine lv_goto (tgt := 71) hx hb dX7_outOn_67 (by decide) ?_
            subst hVv13
            exact Jv13
        refine lv_if_eq (tgt := 54) hx hb dX7_outOn_21 (by decide) (fun c8 => ?_) (fun c8 => ?_)
        · have hVv5 := zit c8 hVv5
          refine lv_iconst (v := 0) hx hb dX7_outOn_54 (by decide) ?_
          have hVv5 := zin hVv5
          subst hVv5
          exact Jv5
        · have hVv5 := zif c8 hVv5
          refine lv_iload_n hx hb dX7_outOn_24 rfl (lv_at hl 2 rfl) ?_
          refine lv_if_eq (tgt := 50) hx hb dX7_outOn_25 (by decide) (fun c9 => ?_) (fun c9 => ?_)
          · have hVv5 := zit c9 hVv5
            refine lv_iconst (v := 1) hx hb dX7_outOn_50 (by decide) ?_
            refine lv_goto (tgt := 55) hx hb dX7_outOn_51 (by decide) ?_
            have hVv5 := zin hVv5
            subst hVv5
            exact Jv5
          · have hVv5 := zif c9 hVv5
            refine lv_aload_n hx hb dX7_outOn_28 rfl (lv_at hl 0 rfl) ?_
            refine z_get (ci := 7) (v := .ref (q 7)) (C := RX7) (T := TX7) (N := 37) hx hb hts inX7 hown hK hP 0 rfl rfl 11 (by decide) (List.mem_of_getElem? (i := 2) rfl) rfl rfl dX7_outOn_29 ?_
            refine lv_bipush (v := 19) hx hb dX7_outOn_32 (by decide) ?_
            refine lv_iload_n hx hb dX7_outOn_34 rfl (lv_at hl 1 rfl) ?_
            refine lv_imul hx hb dX7_outOn_35 ?_
            refine lv_iload hx hb dX7_outOn_36 (lv_at hl 4 rfl) ?_
            refine lv_iadd hx hb dX7_outOn_38 ?_
            obtain ⟨v10, hv10, hVv5⟩ := zob hVv5
            refine z_iald hx hb hK hP 7 rfl hv10 dX7_outOn_39 ?_
            refine lv_aload_n hx hb dX7_outOn_40 rfl (lv_at hl 0 rfl) ?_
            refine z_get (ci := 7) (v := .ref (q 6)) (C := RX7) (T := TX7) (N := 37) hx hb hts inX7 hown hK hP 0 rfl rfl 10 (by decide) (List.mem_of_getElem? (i := 3) rfl) rfl rfl dX7_outOn_41 ?_
            refine lv_iload hx hb dX7_outOn_44 (lv_at hl 4 rfl) ?_
            obtain ⟨v11, hv11, hVv5⟩ := zob hVv5
            refine z_iald hx hb hK hP 6 rfl hv11 dX7_outOn_46 ?_
            refine lv_icmp_ne (tgt := 54) hx hb dX7_outOn_47 (by decide) (fun c12 => ?_) (fun c12 => ?_)
            · have hVv5 := zif c12 hVv5
              refine lv_iconst (v := 0) hx hb dX7_outOn_54 (by decide) ?_
              have hVv5 := zin hVv5
              subst hVv5
              exact Jv5
            · have hVv5 := zit c12 hVv5
              refine lv_iconst (v := 1) hx hb dX7_outOn_50 (by decide) ?_
              refine lv_goto (tgt := 55) hx hb dX7_outOn_51 (by decide) ?_
              have hVv5 := zin hVv5
              subst hVv5
              exact Jv5
  exact L5 FU 0 0 ls hF (lv_sub hl [2, 3, 4, 1, 0] rfl)
def f7_ahead (S : MS) (x1 : Int32) (x2 : Int32) : Option (Int32 × MS) := if (f7_in ((x1).toInt64) 0 30) = 0 then some ((-2), S) else if (f7_in ((x2).toInt64) 0 1) = 0 then some ((-2), S) else (f7_layTrial S).bind fun S3 => (f7_goTrial S3 x1).bind fun S4 => bd (α := Int32) (if x2 = 1 then 1 else 0) (fun (v5 : Int32) => (f7_outOn S4 1 v5).bind fun v7 => some (v7, S4))
abbrev rmX7_ahead : Room := { frames := 6, cells := 0, slots := 0, locals := 147 }
set_option maxHeartbeats 4000000 in
set_option maxRecDepth 100000 in
theorem c7_ahead (l : Launch) (g : zG) (q : Nat → Nat) (S : MS) (x1 : Int32) (x2 : Int32) (ro : Int32) (S_o : MS) (hF : f7_ahead S x1 x2 = some (ro, S_o)) : zRW l g yX7_ahead wsX7_ahead rmX7_ahead [.ref (q 0), .int x1, .int x2] (MW g q S) (some (.int ro)) (MW g q S_o) := by
  refine zRW_of (cc := cX7_ahead) (maxL := 3) (ret := (some .int)) (by decide) rfl (Nat.le_of_ble_eq_true rfl) ?_
  intro p e s m args below meth c A H locs ls hx hb hr hml hts hown hlk hK hA hP hD hS hl
  have hown : s.vm.findClass RX7 = some m.cls := hown
  have hl : lv_has ls 3 [(0, .ref (q 0)), (1, .int x1), (2, .int x2)] := hl
  unfold f7_ahead at hF
  refine lv_iload_n hx hb dX7_ahead_0 rfl (lv_at hl 1 rfl) ?_
  refine lv_i2l (v := (x1).toInt64) hx hb dX7_ahead_1 rfl ?_
  refine lv_lconst (v := 0) hx hb dX7_ahead_2 (by decide) ?_
  refine lv_ldc2 (own := RX7) (v := 30) hx hb hown (hts (.constantLong RX7 191 30) (List.mem_of_getElem? (i := 1) rfl)) dX7_ahead_3 ?_
  refine z_rgo (va_runS (As := [.long ((x1).toInt64), .long 0, .long 30]) (rest := []) ⟨hx, hb, hml, hown, hts⟩ (c7_in l g   ((x1).toInt64) 0 30) (va_cwS 3 hts gX7_ahead_X7_in rfl rfl rfl (by decide +kernel) ⟨Nat.le_of_ble_eq_true rfl, Nat.le_of_ble_eq_true rfl⟩) (z_rpre z_nil hK) rfl rfl hl.1 rfl (lv_room (Nat.le_of_ble_eq_true rfl)) dX7_ahead_6 ⟨Nat.zero_le _, Nat.zero_le _⟩) ?_
  refine lv_if_eq (tgt := 22) hx hb dX7_ahead_9 (by decide) (fun c1 => ?_) (fun c1 => ?_)
  · have hF := zit c1 hF
    refine lv_bipush (v := (-2)) hx hb dX7_ahead_22 (by decide) ?_
    obtain ⟨e9a, e9b⟩ := Prod.mk.inj (zin hF)
    exact z_wi hx hb hr hlk hP hD hS (congrArg (fun z => some (Value.int z)) e9a) (by rw [e9b]) dX7_ahead_24
  · have hF := zif c1 hF
    refine lv_iload_n hx hb dX7_ahead_12 rfl (lv_at hl 2 rfl) ?_
    refine lv_i2l (v := (x2).toInt64) hx hb dX7_ahead_13 rfl ?_
    refine lv_lconst (v := 0) hx hb dX7_ahead_14 (by decide) ?_
    refine lv_lconst (v := 1) hx hb dX7_ahead_15 (by decide) ?_
    refine z_rgo (va_runS (As := [.long ((x2).toInt64), .long 0, .long 1]) (rest := []) ⟨hx, hb, hml, hown, hts⟩ (c7_in l g   ((x2).toInt64) 0 1) (va_cwS 3 hts gX7_ahead_X7_in rfl rfl rfl (by decide +kernel) ⟨Nat.le_of_ble_eq_true rfl, Nat.le_of_ble_eq_true rfl⟩) (z_rpre z_nil hK) rfl rfl hl.1 rfl (lv_room (Nat.le_of_ble_eq_true rfl)) dX7_ahead_16 ⟨Nat.zero_le _, Nat.zero_le _⟩) ?_
    refine lv_if_ne (tgt := 25) hx hb dX7_ahead_19 (by decide) (fun c2 => ?_) (fun c2 => ?_)
    · have hF := zif c2 hF
      refine lv_aload_n hx hb dX7_ahead_25 rfl (lv_at hl 0 rfl) ?_
      obtain ⟨S3, hS3, hF⟩ := zob hF
      refine z_wgoW (va_runV (As := []) (rest := []) ⟨hx, hb, hml, hown, hts⟩ ((c7_layTrial l g q S   S3 hS3) H.size) (cwV 0 hts gX7_ahead_X7_layTrial rfl rfl rfl (by decide +kernel) ⟨Nat.le_of_ble_eq_true rfl, Nat.le_of_ble_eq_true rfl⟩) (z_wpreV (ci := 7) (q := (RX7, TX7, 37)) (q0 := 0) hP hK (z_any hD) rfl rfl) rfl rfl hl.1 rfl (lv_room (Nat.le_of_ble_eq_true rfl)) dX7_ahead_26 ⟨Nat.zero_le _, Nat.zero_le _⟩) hP hD hS hA (fun H locs hP hD hS => ?_)
      show W p l e (headSpec wsX7_ahead rmX7_ahead).room s m args below meth c H locs 0 0 (MQ below (zWQ g A (MW g q S_o) (some (.int ro))) args s 0 0 A) (F0 m 29 ls [])
      refine lv_aload_n hx hb dX7_ahead_29 rfl (lv_at hl 0 rfl) ?_
      refine lv_iload_n hx hb dX7_ahead_30 rfl (lv_at hl 1 rfl) ?_
      obtain ⟨S4, hS4, hF⟩ := zob hF
      refine z_wgoW (va_runV (As := [.int x1]) (rest := []) ⟨hx, hb, hml, hown, hts⟩ ((c7_goTrial l g q S3 x1  S4 hS4) H.size) (cwV 1 hts gX7_ahead_X7_goTrial rfl rfl rfl (by decide +kernel) ⟨Nat.le_of_ble_eq_true rfl, Nat.le_of_ble_eq_true rfl⟩) (z_wpreV (ci := 7) (q := (RX7, TX7, 37)) (q0 := 0) hP hK (z_any hD) rfl rfl) rfl rfl hl.1 rfl (lv_room (Nat.le_of_ble_eq_true rfl)) dX7_ahead_31 ⟨Nat.zero_le _, Nat.zero_le _⟩) hP hD hS hA (fun H locs hP hD hS => ?_)
      show W p l e (headSpec wsX7_ahead rmX7_ahead).room s m args below meth c H locs 0 0 (MQ below (zWQ g A (MW g q S_o) (some (.int ro))) args s 0 0 A) (F0 m 34 ls [])
      refine lv_aload_n hx hb dX7_ahead_34 rfl (lv_at hl 0 rfl) ?_
      refine lv_iconst (v := 1) hx hb dX7_ahead_35 (by decide) ?_
      refine lv_iload_n hx hb dX7_ahead_36 rfl (lv_at hl 2 rfl) ?_
      refine lv_iconst (v := 1) hx hb dX7_ahead_37 (by decide) ?_
      obtain ⟨v5, hVv5⟩ : ∃ y : Int32, (if x2 = 1 then 1 else 0 : Int32) = y := ⟨_, rfl⟩
      have hF := bd_eq hVv5.symm hF
      have Jv5 : W p l e (headSpec wsX7_ahead rmX7_ahead).room s m args below meth c H locs 0 0 (MQ below (zWQ g A (MW g q S_o) (some (.int ro))) args s 0 0 A) (F0 m 46 ls [.int v5, .int 1, .ref (q 0)]) := by
        obtain ⟨v7, hv7, hF⟩ := zob hF
        refine z_rgo (va_runV (As := [.int 1, .int v5]) (rest := []) ⟨hx, hb, hml, hown, hts⟩ (c7_outOn l g q S4 1 v5 v7 hv7) (cwV 2 hts gX7_ahead_X7_outOn rfl rfl rfl (by decide +kernel) ⟨Nat.le_of_ble_eq_true rfl, Nat.le_of_ble_eq_true rfl⟩) (z_rpreV (ci := 7) (q := (RX7, TX7, 37)) (q0 := 0) hP hK rfl rfl) rfl rfl hl.1 rfl (lv_room (Nat.le_of_ble_eq_true rfl)) dX7_ahead_46 ⟨Nat.zero_le _, Nat.zero_le _⟩) ?_
        obtain ⟨e9a, e9b⟩ := Prod.mk.inj (zin hF)
        exact z_wi hx hb hr hlk hP hD hS (congrArg (fun z => some (Value.int z)) e9a) (by rw [e9b]) dX7_ahead_49
      refine lv_icmp_ne (tgt := 45) hx hb dX7_ahead_38 (by decide) (fun c6 => ?_) (fun c6 => ?_)
      · have hVv5 := zif c6 hVv5
        refine lv_iconst (v := 0) hx hb dX7_ahead_45 (by decide) ?_
        subst hVv5
        exact Jv5
      · have hVv5 := zit c6 hVv5
        refine lv_iconst (v := 1) hx hb dX7_ahead_41 (by decide) ?_
        refine lv_goto (tgt := 46) hx hb dX7_ahead_42 (by decide) ?_
        subst hVv5
        exact Jv5
    · have hF := zit c2 hF
      refine lv_bipush (v := (-2)) hx hb dX7_ahead_22 (by decide) ?_
      obtain ⟨e9a, e9b⟩ := Prod.mk.inj (zin hF)
      exact z_wi hx hb hr hlk hP hD hS (congrArg (fun z => some (Value.int z)) e9a) (by rw [e9b]) dX7_ahead_24
def f7_isWalker (S : MS) (x1 : Int32) : Int32 := (f7_in ((x1).toInt64) 0 ((((S.1 2) - 1)).toInt64))
abbrev rmX7_isWalker : Room := { frames := 1, cells := 0, slots := 0, locals := 25 }
set_option maxHeartbeats 4000000 in
set_option maxRecDepth 100000 in
theorem c7_isWalker (l : Launch) (g : zG) (q : Nat → Nat) (S : MS) (x1 : Int32) : zRO l g yX7_isWalker wsX7_isWalker rmX7_isWalker [.ref (q 0), .int x1] (MW g q S) (some (.int (f7_isWalker S x1))) := by
  obtain ⟨ro, hF⟩ : ∃ y : Int32, f7_isWalker S x1 = y := ⟨_, rfl⟩
  rw [hF]
  refine zRO_of (cc := cX7_isWalker) (maxL := 2) (ret := (some .boolean)) (by decide) rfl (Nat.le_of_ble_eq_true rfl) ?_
  intro p e s m args below meth c ls hx hb hr hml hts hown hlk hK hP hl
  have hown : s.vm.findClass RX7 = some m.cls := hown
  have hl : lv_has ls 2 [(0, .ref (q 0)), (1, .int x1)] := hl
  have inX7 : ∀ w ∈ wsX70, w ∈ wsX7_isWalker := fun _ h => List.mem_cons_of_mem _ (List.mem_append_right _ h)
  unfold f7_isWalker at hF
  refine lv_iload_n hx hb dX7_isWalker_0 rfl (lv_at hl 1 rfl) ?_
  refine lv_i2l (v := (x1).toInt64) hx hb dX7_isWalker_1 rfl ?_
  refine lv_lconst (v := 0) hx hb dX7_isWalker_2 (by decide) ?_
  refine lv_aload_n hx hb dX7_isWalker_3 rfl (lv_at hl 0 rfl) ?_
  refine z_get (ci := 7) (v := .int (S.1 2)) (C := RX7) (T := TX7) (N := 37) hx hb hts inX7 hown hK hP 0 rfl rfl 2 (by decide) (List.mem_of_getElem? (i := 1) rfl) rfl rfl dX7_isWalker_4 ?_
  refine lv_iconst (v := 1) hx hb dX7_isWalker_7 (by decide) ?_
  refine lv_isub hx hb dX7_isWalker_8 ?_
  refine lv_i2l (v := (((S.1 2) - 1)).toInt64) hx hb dX7_isWalker_9 rfl ?_
  refine z_rgo (va_runS (As := [.long ((x1).toInt64), .long 0, .long ((((S.1 2) - 1)).toInt64)]) (rest := []) ⟨hx, hb, hml, hown, hts⟩ (c7_in l g   ((x1).toInt64) 0 ((((S.1 2) - 1)).toInt64)) (va_cwS 3 hts gX7_isWalker_X7_in rfl rfl rfl (by decide +kernel) ⟨Nat.le_of_ble_eq_true rfl, Nat.le_of_ble_eq_true rfl⟩) (z_rpre z_nil hK) rfl rfl hl.1 rfl (lv_room (Nat.le_of_ble_eq_true rfl)) dX7_isWalker_10 ⟨Nat.zero_le _, Nat.zero_le _⟩) ?_
  exact z_rz hx hb hr hlk (b7_in ((x1).toInt64) 0 ((((S.1 2) - 1)).toInt64)) (congrArg (fun z => some (Value.int z)) hF) dX7_isWalker_13
theorem b7_isWalker (S : MS) (x1 : Int32) : narrow .boolean (.int (f7_isWalker S x1)) = .int (f7_isWalker S x1) := by
  unfold f7_isWalker
  repeat' split
  all_goals first | rfl | exact b7_in _ _ _
def f7_keepAct_l2 : Nat → Int32 → MS → Option (MS)
  | 0, _, _ => none
  | n2 + 1, y1, S2 => if 19 ≤ y1 then bd (sI S2 27 (((S2.1 27) + 1) - ((S2.1 27) + 1) / 14 * 14)) (fun (S4 : MS) => bd (α := Int32) (if 14 ≤ (S4.1 26) then 14 else ((S4.1 26) + 1)) (fun (v5 : Int32) => bd (sI S4 26 v5) (fun (S7 : MS) => some S7))) else (zrd (S2.2.1 11) 38 y1).bind fun v8 => (zwr (S2.2.1 28) 266 ((19 * (S2.1 27)) + y1) v8).bind fun f9 => bd (mA S2 28 f9) (fun (S10 : MS) => f7_keepAct_l2 n2 (y1 + 1) S10)
def f7_keepAct (S : MS) : Option (MS) := f7_keepAct_l2 FU 0 S
abbrev rmX7_keepAct : Room := { frames := 0, cells := 0, slots := 0, locals := 0 }
set_option maxHeartbeats 4000000 in
set_option maxRecDepth 100000 in
theorem c7_keepAct (l : Launch) (g : zG) (q : Nat → Nat) (S : MS) (S_o : MS) (hF : f7_keepAct S = some S_o) : zRW l g yX7_keepAct wsX7_keepAct rmX7_keepAct [.ref (q 0)] (MW g q S) none (MW g q S_o) := by
  refine zRW_of (cc := cX7_keepAct) (maxL := 2) (ret := none) (by decide) rfl (Nat.le_of_ble_eq_true rfl) ?_
  intro p e s m args below meth c A H locs ls hx hb hr hml hts hown hlk hK hA hP hD hS hl
  have hown : s.vm.findClass RX7 = some m.cls := hown
  have hl : lv_has ls 2 [(0, .ref (q 0))] := hl
  have inX7 : ∀ w ∈ wsX70, w ∈ wsX7_keepAct := fun _ h => List.mem_cons_of_mem _ (List.mem_append_right _ h)
  unfold f7_keepAct at hF
  refine lv_iconst (v := 0) hx hb dX7_keepAct_0 (by decide) ?_
  refine lv_istore_n (lv' := [(1, .int 0), (0, .ref (q 0))]) hx hb dX7_keepAct_1 rfl hl (by decide) rfl (fun ls hl => ?_)
  have L2 : ∀ (n2 : Nat) (y1 : Int32) (S2 : MS) (H : Heap) (locs : List Loc) (ls : Array Slot), f7_keepAct_l2 n2 y1 S2 = some S_o → va_P (zD g) vwCl (MW g q S2) H → va_D A (MW g q S2) → va_S A s.heap H locs → lv_has ls 2 [(0, .ref (q 0)), (1, .int y1)] → W p l e (headSpec wsX7_keepAct rmX7_keepAct).room s m args below meth c H locs 0 0 (MQ below (zWQ g A (MW g q S_o) none) args s 0 0 A) (F0 m 2 ls []) := by
    intro n2
    induction n2 with
    | zero =>
      intro y1 S2 H locs ls hF hP hD hS hl
      exact absurd (show (none : Option (MS)) = some _ from hF) (fun h9 => by cases h9)
    | succ n2 ih2 =>
      intro y1 S2 H locs ls hF hP hD hS hl
      rw [f7_keepAct_l2] at hF
      refine lv_iload_n hx hb dX7_keepAct_2 rfl (lv_at hl 1 rfl) ?_
      refine lv_bipush (v := 19) hx hb dX7_keepAct_3 (by decide) ?_
      refine lv_icmp_ge (tgt := 34) hx hb dX7_keepAct_5 (by decide) (fun c3 => ?_) (fun c3 => ?_)
      · have hF := zit c3 hF
        refine lv_aload_n hx hb dX7_keepAct_34 rfl (lv_at hl 0 rfl) ?_
        refine lv_aload_n hx hb dX7_keepAct_35 rfl (lv_at hl 0 rfl) ?_
        refine z_get (ci := 7) (v := .int (S2.1 27)) (C := RX7) (T := TX7) (N := 37) hx hb hts inX7 hown hK hP 0 rfl rfl 27 (by decide) (List.mem_of_getElem? (i := 2) rfl) rfl rfl dX7_keepAct_36 ?_
        refine lv_iconst (v := 1) hx hb dX7_keepAct_39 (by decide) ?_
        refine lv_iadd hx hb dX7_keepAct_40 ?_
        refine lv_bipush (v := 14) hx hb dX7_keepAct_41 (by decide) ?_
        refine lv_irem hx hb dX7_keepAct_43 (by decide) ?_
        refine z_put (ci := 7) (v := .int (((S2.1 27) + 1) - ((S2.1 27) + 1) / 14 * 14)) (C := RX7) (T := TX7) (N := 37) (ws' := MW g q (sI S2 27 (((S2.1 27) + 1) - ((S2.1 27) + 1) / 14 * 14))) hx hb hts inX7 tyX7 tyX7_ok nmX7 hown hK hP hD hS 0 rfl rfl 27 (by decide) (List.mem_of_getElem? (i := 2) rfl) rfl rfl rfl rfl (Nat.le_of_ble_eq_true rfl) rfl dX7_keepAct_44 (fun H locs hP hD hS => ?_)
        obtain ⟨S4, eS4⟩ : ∃ y : MS, y = (sI S2 27 (((S2.1 27) + 1) - ((S2.1 27) + 1) / 14 * 14)) := ⟨_, rfl⟩
        rw [← eS4] at hP hD
        have hF := bd_eq eS4 hF
        refine lv_aload_n hx hb dX7_keepAct_47 rfl (lv_at hl 0 rfl) ?_
        refine lv_aload_n hx hb dX7_keepAct_48 rfl (lv_at hl 0 rfl) ?_
        refine z_get (ci := 7) (v := .int (S4.1 26)) (C := RX7) (T := TX7) (N := 37) hx hb hts inX7 hown hK hP 0 rfl rfl 26 (by decide) (List.mem_of_getElem? (i := 4) rfl) rfl rfl dX7_keepAct_49 ?_
        refine lv_bipush (v := 14) hx hb dX7_keepAct_52 (by decide) ?_
        obtain ⟨v5, hVv5⟩ : ∃ y : Int32, (if 14 ≤ (S4.1 26) then 14 else ((S4.1 26) + 1) : Int32) = y := ⟨_, rfl⟩
        have hF := bd_eq hVv5.symm hF
        have Jv5 : W p l e (headSpec wsX7_keepAct rmX7_keepAct).room s m args below meth c H locs 0 0 (MQ below (zWQ g A (MW g q S_o) none) args s 0 0 A) (F0 m 68 ls [.int v5, .ref (q 0)]) := by
          refine z_put (ci := 7) (v := .int v5) (C := RX7) (T := TX7) (N := 37) (ws' := MW g q (sI S4 26 v5)) hx hb hts inX7 tyX7 tyX7_ok nmX7 hown hK hP hD hS 0 rfl rfl 26 (by decide) (List.mem_of_getElem? (i := 4) rfl) rfl rfl rfl rfl (Nat.le_of_ble_eq_true rfl) rfl dX7_keepAct_68 (fun H locs hP hD hS => ?_)
          obtain ⟨S7, eS7⟩ : ∃ y : MS, y = (sI S4 26 v5) := ⟨_, rfl⟩
          rw [← eS7] at hP hD
          have hF := bd_eq eS7 hF
          have e9b := zin hF
          exact z_wv hx hb hr hlk hP hD hS (by rw [e9b]) dX7_keepAct_71
        refine lv_icmp_ge (tgt := 66) hx hb dX7_keepAct_54 (by decide) (fun c6 => ?_) (fun c6 => ?_)
        · have hVv5 := zit c6 hVv5
          refine lv_bipush (v := 14) hx hb dX7_keepAct_66 (by decide) ?_
          subst hVv5
          exact Jv5
        · have hVv5 := zif c6 hVv5
          refine lv_aload_n hx hb dX7_keepAct_57 rfl (lv_at hl 0 rfl) ?_
          refine z_get (ci := 7) (v := .int (S4.1 26)) (C := RX7) (T := TX7) (N := 37) hx hb hts inX7 hown hK hP 0 rfl rfl 26 (by decide) (List.mem_of_getElem? (i := 4) rfl) rfl rfl dX7_keepAct_58 ?_
          refine lv_iconst (v := 1) hx hb dX7_keepAct_61 (by decide) ?_
          refine lv_iadd hx hb dX7_keepAct_62 ?_
          refine lv_goto (tgt := 68) hx hb dX7_keepAct_63 (by decide) ?_
          subst hVv5
          exact Jv5
      · have hF := zif c3 hF
        refine lv_aload_n hx hb dX7_keepAct_8 rfl (lv_at hl 0 rfl) ?_
        refine z_get (ci := 7) (v := .ref (q 13)) (C := RX7) (T := TX7) (N := 37) hx hb hts inX7 hown hK hP 0 rfl rfl 28 (by decide) (List.mem_of_getElem? (i := 1) rfl) rfl rfl dX7_keepAct_9 ?_
        refine lv_bipush (v := 19) hx hb dX7_keepAct_12 (by decide) ?_
        refine lv_aload_n hx hb dX7_keepAct_14 rfl (lv_at hl 0 rfl) ?_
        refine z_get (ci := 7) (v := .int (S2.1 27)) (C := RX7) (T := TX7) (N := 37) hx hb hts inX7 hown hK hP 0 rfl rfl 27 (by decide) (List.mem_of_getElem? (i := 2) rfl) rfl rfl dX7_keepAct_15 ?_
        refine lv_imul hx hb dX7_keepAct_18 ?_
        refine lv_iload_n hx hb dX7_keepAct_19 rfl (lv_at hl 1 rfl) ?_
        refine lv_iadd hx hb dX7_keepAct_20 ?_
        refine lv_aload_n hx hb dX7_keepAct_21 rfl (lv_at hl 0 rfl) ?_
        refine z_get (ci := 7) (v := .ref (q 7)) (C := RX7) (T := TX7) (N := 37) hx hb hts inX7 hown hK hP 0 rfl rfl 11 (by decide) (List.mem_of_getElem? (i := 3) rfl) rfl rfl dX7_keepAct_22 ?_
        refine lv_iload_n hx hb dX7_keepAct_25 rfl (lv_at hl 1 rfl) ?_
        obtain ⟨v8, hv8, hF⟩ := zob hF
        refine z_iald hx hb hK hP 7 rfl hv8 dX7_keepAct_26 ?_
        obtain ⟨f9, hf9, hF⟩ := zob hF
        refine z_iast (ws' := MW g q (mA S2 28 f9)) hx hb hK hP hD hS 13 rfl hf9 rfl dX7_keepAct_27 (fun H locs hP hD hS => ?_)
        obtain ⟨S10, eS10⟩ : ∃ y : MS, y = (mA S2 28 f9) := ⟨_, rfl⟩
        rw [← eS10] at hP hD
        have hF := bd_eq eS10 hF
        refine lv_iinc (v := (y1 + 1)) (lv' := [(1, .int (y1 + 1)), (0, .ref (q 0))]) hx hb dX7_keepAct_28 hl (k := 1) rfl rfl (by decide) rfl (fun ls hl => ?_)
        refine lv_goto (tgt := 2) hx hb dX7_keepAct_31 (by decide) ?_
        exact ih2 (y1 + 1) S10 H locs ls hF hP hD hS (lv_sub hl [1, 0] rfl)
  exact L2 FU 0 S H locs ls hF hP hD hS (lv_sub hl [1, 0] rfl)
def f7_callOn (S : MS) (x1 : Int32) (x2 : Int32) : Option (MS) := (zwr (S.2.1 11) 38 (((19 * x1) + 4) + x2) (-9)).bind fun f1 => bd (mA S 11 f1) (fun (S2 : MS) => (zwr (S2.2.1 11) 38 (((19 * x1) + 8) + x2) 0).bind fun f3 => bd (mA S2 11 f3) (fun (S4 : MS) => some S4))
abbrev rmX7_callOn : Room := { frames := 0, cells := 0, slots := 0, locals := 0 }
set_option maxHeartbeats 4000000 in
set_option maxRecDepth 100000 in
theorem c7_callOn (l : Launch) (g : zG) (q : Nat → Nat) (S : MS) (x1 : Int32) (x2 : Int32) (S_o : MS) (hF : f7_callOn S x1 x2 = some S_o) : zRW l g yX7_callOn wsX7_callOn rmX7_callOn [.ref (q 0), .int x1, .int x2] (MW g q S) none (MW g q S_o) := by
  refine zRW_of (cc := cX7_callOn) (maxL := 3) (ret := none) (by decide) rfl (Nat.le_of_ble_eq_true rfl) ?_
  intro p e s m args below meth c A H locs ls hx hb hr hml hts hown hlk hK hA hP hD hS hl
  have hown : s.vm.findClass RX7 = some m.cls := hown
  have hl : lv_has ls 3 [(0, .ref (q 0)), (1, .int x1), (2, .int x2)] := hl
  have inX7 : ∀ w ∈ wsX70, w ∈ wsX7_callOn := fun _ h => List.mem_cons_of_mem _ (List.mem_append_right _ h)
  unfold f7_callOn at hF
  refine lv_aload_n hx hb dX7_callOn_0 rfl (lv_at hl 0 rfl) ?_
  refine z_get (ci := 7) (v := .ref (q 7)) (C := RX7) (T := TX7) (N := 37) hx hb hts inX7 hown hK hP 0 rfl rfl 11 (by decide) (List.mem_of_getElem? (i := 1) rfl) rfl rfl dX7_callOn_1 ?_
  refine lv_bipush (v := 19) hx hb dX7_callOn_4 (by decide) ?_
  refine lv_iload_n hx hb dX7_callOn_6 rfl (lv_at hl 1 rfl) ?_
  refine lv_imul hx hb dX7_callOn_7 ?_
  refine lv_iconst (v := 4) hx hb dX7_callOn_8 (by decide) ?_
  refine lv_iadd hx hb dX7_callOn_9 ?_
  refine lv_iload_n hx hb dX7_callOn_10 rfl (lv_at hl 2 rfl) ?_
  refine lv_iadd hx hb dX7_callOn_11 ?_
  refine lv_bipush (v := (-9)) hx hb dX7_callOn_12 (by decide) ?_
  obtain ⟨f1, hf1, hF⟩ := zob hF
  refine z_iast (ws' := MW g q (mA S 11 f1)) hx hb hK hP hD hS 7 rfl hf1 rfl dX7_callOn_14 (fun H locs hP hD hS => ?_)
  obtain ⟨S2, eS2⟩ : ∃ y : MS, y = (mA S 11 f1) := ⟨_, rfl⟩
  rw [← eS2] at hP hD
  have hF := bd_eq eS2 hF
  refine lv_aload_n hx hb dX7_callOn_15 rfl (lv_at hl 0 rfl) ?_
  refine z_get (ci := 7) (v := .ref (q 7)) (C := RX7) (T := TX7) (N := 37) hx hb hts inX7 hown hK hP 0 rfl rfl 11 (by decide) (List.mem_of_getElem? (i := 1) rfl) rfl rfl dX7_callOn_16 ?_
  refine lv_bipush (v := 19) hx hb dX7_callOn_19 (by decide) ?_
  refine lv_iload_n hx hb dX7_callOn_21 rfl (lv_at hl 1 rfl) ?_
  refine lv_imul hx hb dX7_callOn_22 ?_
  refine lv_bipush (v := 8) hx hb dX7_callOn_23 (by decide) ?_
  refine lv_iadd hx hb dX7_callOn_25 ?_
  refine lv_iload_n hx hb dX7_callOn_26 rfl (lv_at hl 2 rfl) ?_
  refine lv_iadd hx hb dX7_callOn_27 ?_
  refine lv_iconst (v := 0) hx hb dX7_callOn_28 (by decide) ?_
  obtain ⟨f3, hf3, hF⟩ := zob hF
  refine z_iast (ws' := MW g q (mA S2 11 f3)) hx hb hK hP hD hS 7 rfl hf3 rfl dX7_callOn_29 (fun H locs hP hD hS => ?_)
  obtain ⟨S4, eS4⟩ : ∃ y : MS, y = (mA S2 11 f3) := ⟨_, rfl⟩
  rw [← eS4] at hP hD
  have hF := bd_eq eS4 hF
  have e9b := zin hF
  exact z_wv hx hb hr hlk hP hD hS (by rw [e9b]) dX7_callOn_30
def f7_call (S : MS) (x1 : Int32) : Option (Int32 × MS) := if (f7_isWalker S x1) = 0 then some ((-1), S) else (f7_isOut S 0 x1).bind fun v2 => if v2 = 0 then (f7_keepAct S).bind fun S4 => (zrd (S4.2.1 11) 38 (8 + x1)).bind fun v5 => (f7_callOn S4 0 x1).bind fun S6 => some (v5, S6) else some ((-3), S)
abbrev rmX7_call : Room := { frames := 2, cells := 0, slots := 0, locals := 46 }
set_option maxHeartbeats 4000000 in
set_option maxRecDepth 100000 in
theorem c7_call (l : Launch) (g : zG) (q : Nat → Nat) (S : MS) (x1 : Int32) (ro : Int32) (S_o : MS) (hF : f7_call S x1 = some (ro, S_o)) : zRW l g yX7_call wsX7_call rmX7_call [.ref (q 0), .int x1] (MW g q S) (some (.int ro)) (MW g q S_o) := by
  refine zRW_of (cc := cX7_call) (maxL := 3) (ret := (some .int)) (by decide) rfl (Nat.le_of_ble_eq_true rfl) ?_
  intro p e s m args below meth c A H locs ls hx hb hr hml hts hown hlk hK hA hP hD hS hl
  have hown : s.vm.findClass RX7 = some m.cls := hown
  have hl : lv_has ls 3 [(0, .ref (q 0)), (1, .int x1)] := hl
  have inX7 : ∀ w ∈ wsX70, w ∈ wsX7_call := fun _ h => List.mem_cons_of_mem _ (List.mem_append_right _ h)
  unfold f7_call at hF
  refine lv_aload_n hx hb dX7_call_0 rfl (lv_at hl 0 rfl) ?_
  refine lv_iload_n hx hb dX7_call_1 rfl (lv_at hl 1 rfl) ?_
  refine z_rgo (va_runV (As := [.int x1]) (rest := []) ⟨hx, hb, hml, hown, hts⟩ (c7_isWalker l g q S x1) (cwV 1 hts gX7_call_X7_isWalker rfl rfl rfl (by decide +kernel) ⟨Nat.le_of_ble_eq_true rfl, Nat.le_of_ble_eq_true rfl⟩) (z_rpreV (ci := 7) (q := (RX7, TX7, 37)) (q0 := 0) hP hK rfl rfl) rfl rfl hl.1 rfl (lv_room (Nat.le_of_ble_eq_true rfl)) dX7_call_2 ⟨Nat.zero_le _, Nat.zero_le _⟩) ?_
  refine lv_if_ne (tgt := 10) hx hb dX7_call_5 (by decide) (fun c1 => ?_) (fun c1 => ?_)
  · have hF := zif c1 hF
    refine lv_aload_n hx hb dX7_call_10 rfl (lv_at hl 0 rfl) ?_
    refine lv_iconst (v := 0) hx hb dX7_call_11 (by decide) ?_
    refine lv_iload_n hx hb dX7_call_12 rfl (lv_at hl 1 rfl) ?_
    obtain ⟨v2, hv2, hF⟩ := zob hF
    refine z_rgo (va_runV (As := [.int 0, .int x1]) (rest := []) ⟨hx, hb, hml, hown, hts⟩ (c7_isOut l g q S 0 x1 v2 hv2) (cwV 2 hts gX7_call_X7_isOut rfl rfl rfl (by decide +kernel) ⟨Nat.le_of_ble_eq_true rfl, Nat.le_of_ble_eq_true rfl⟩) (z_rpreV (ci := 7) (q := (RX7, TX7, 37)) (q0 := 0) hP hK rfl rfl) rfl rfl hl.1 rfl (lv_room (Nat.le_of_ble_eq_true rfl)) dX7_call_13 ⟨Nat.zero_le _, Nat.zero_le _⟩) ?_
    refine lv_if_eq (tgt := 22) hx hb dX7_call_16 (by decide) (fun c3 => ?_) (fun c3 => ?_)
    · have hF := zit c3 hF
      refine lv_aload_n hx hb dX7_call_22 rfl (lv_at hl 0 rfl) ?_
      obtain ⟨S4, hS4, hF⟩ := zob hF
      refine z_wgoW (va_runV (As := []) (rest := []) ⟨hx, hb, hml, hown, hts⟩ ((c7_keepAct l g q S   S4 hS4) H.size) (cwV 0 hts gX7_call_X7_keepAct rfl rfl rfl (by decide +kernel) ⟨Nat.le_of_ble_eq_true rfl, Nat.le_of_ble_eq_true rfl⟩) (z_wpreV (ci := 7) (q := (RX7, TX7, 37)) (q0 := 0) hP hK (z_any hD) rfl rfl) rfl rfl hl.1 rfl (lv_room (Nat.le_of_ble_eq_true rfl)) dX7_call_23 ⟨Nat.zero_le _, Nat.zero_le _⟩) hP hD hS hA (fun H locs hP hD hS => ?_)
      show W p l e (headSpec wsX7_call rmX7_call).room s m args below meth c H locs 0 0 (MQ below (zWQ g A (MW g q S_o) (some (.int ro))) args s 0 0 A) (F0 m 26 ls [])
      refine lv_aload_n hx hb dX7_call_26 rfl (lv_at hl 0 rfl) ?_
      refine z_get (ci := 7) (v := .ref (q 7)) (C := RX7) (T := TX7) (N := 37) hx hb hts inX7 hown hK hP 0 rfl rfl 11 (by decide) (List.mem_of_getElem? (i := 1) rfl) rfl rfl dX7_call_27 ?_
      refine lv_bipush (v := 8) hx hb dX7_call_30 (by decide) ?_
      refine lv_iload_n hx hb dX7_call_32 rfl (lv_at hl 1 rfl) ?_
      refine lv_iadd hx hb dX7_call_33 ?_
      obtain ⟨v5, hv5, hF⟩ := zob hF
      refine z_iald hx hb hK hP 7 rfl hv5 dX7_call_34 ?_
      refine lv_istore_n (lv' := [(2, .int v5), (0, .ref (q 0)), (1, .int x1)]) hx hb dX7_call_35 rfl hl (by decide) rfl (fun ls hl => ?_)
      refine lv_aload_n hx hb dX7_call_36 rfl (lv_at hl 1 rfl) ?_
      refine lv_iconst (v := 0) hx hb dX7_call_37 (by decide) ?_
      refine lv_iload_n hx hb dX7_call_38 rfl (lv_at hl 2 rfl) ?_
      obtain ⟨S6, hS6, hF⟩ := zob hF
      refine z_wgoW (va_runV (As := [.int 0, .int x1]) (rest := []) ⟨hx, hb, hml, hown, hts⟩ ((c7_callOn l g q S4 0 x1  S6 hS6) H.size) (cwV 2 hts gX7_call_X7_callOn rfl rfl rfl (by decide +kernel) ⟨Nat.le_of_ble_eq_true rfl, Nat.le_of_ble_eq_true rfl⟩) (z_wpreV (ci := 7) (q := (RX7, TX7, 37)) (q0 := 0) hP hK (z_any hD) rfl rfl) rfl rfl hl.1 rfl (lv_room (Nat.le_of_ble_eq_true rfl)) dX7_call_39 ⟨Nat.zero_le _, Nat.zero_le _⟩) hP hD hS hA (fun H locs hP hD hS => ?_)
      show W p l e (headSpec wsX7_call rmX7_call).room s m args below meth c H locs 0 0 (MQ below (zWQ g A (MW g q S_o) (some (.int ro))) args s 0 0 A) (F0 m 42 ls [])
      refine lv_iload_n hx hb dX7_call_42 rfl (lv_at hl 0 rfl) ?_
      obtain ⟨e9a, e9b⟩ := Prod.mk.inj (zin hF)
      exact z_wi hx hb hr hlk hP hD hS (congrArg (fun z => some (Value.int z)) e9a) (by rw [e9b]) dX7_call_43
    · have hF := zif c3 hF
      refine lv_bipush (v := (-3)) hx hb dX7_call_19 (by decide) ?_
      obtain ⟨e9a, e9b⟩ := Prod.mk.inj (zin hF)
      exact z_wi hx hb hr hlk hP hD hS (congrArg (fun z => some (Value.int z)) e9a) (by rw [e9b]) dX7_call_21
  · have hF := zit c1 hF
    refine lv_iconst (v := (-1)) hx hb dX7_call_8 (by decide) ?_
    obtain ⟨e9a, e9b⟩ := Prod.mk.inj (zin hF)
    exact z_wi hx hb hr hlk hP hD hS (congrArg (fun z => some (Value.int z)) e9a) (by rw [e9b]) dX7_call_9
def f7_comes_l29 (x1 : Int32) (x2 : Int32) : Nat → Int32 → MS → Option (Int32 × MS)
  | 0, _, _ => none
  | n29 + 1, y4, S5 => if 40 < y4 then some ((-9), S5) else (f7_isOut S5 1 x1).bind fun v7 => if v7 = 0 then (f7_stepOn S5 1).bind fun (v10, S9) => f7_comes_l29 x1 x2 n29 (y4 + 1) S9 else if x2 = 0 then some (y4, S5) else (zrd (S5.2.1 11) 38 (19 + x1)).bind fun v12 => some (v12, S5)
def f7_comes (S : MS) (x1 : Int32) (x2 : Int32) : Option (Int32 × MS) := if (f7_isWalker S x1) = 0 then some ((-1), S) else if (f7_in ((x2).toInt64) 0 1) = 0 then some ((-2), S) else (f7_layTrial S).bind fun S3 => f7_comes_l29 x1 x2 FU 0 S3
abbrev rmX7_comes : Room := { frames := 5, cells := 0, slots := 0, locals := 125 }
set_option maxHeartbeats 4000000 in
set_option maxRecDepth 100000 in
theorem c7_comes (l : Launch) (g : zG) (q : Nat → Nat) (S : MS) (x1 : Int32) (x2 : Int32) (ro : Int32) (S_o : MS) (hF : f7_comes S x1 x2 = some (ro, S_o)) : zRW l g yX7_comes wsX7_comes rmX7_comes [.ref (q 0), .int x1, .int x2] (MW g q S) (some (.int ro)) (MW g q S_o) := by
  refine zRW_of (cc := cX7_comes) (maxL := 4) (ret := (some .int)) (by decide) rfl (Nat.le_of_ble_eq_true rfl) ?_
  intro p e s m args below meth c A H locs ls hx hb hr hml hts hown hlk hK hA hP hD hS hl
  have hown : s.vm.findClass RX7 = some m.cls := hown
  have hl : lv_has ls 4 [(0, .ref (q 0)), (1, .int x1), (2, .int x2)] := hl
  have inX7 : ∀ w ∈ wsX70, w ∈ wsX7_comes := fun _ h => List.mem_cons_of_mem _ (List.mem_append_right _ h)
  unfold f7_comes at hF
  refine lv_aload_n hx hb dX7_comes_0 rfl (lv_at hl 0 rfl) ?_
  refine lv_iload_n hx hb dX7_comes_1 rfl (lv_at hl 1 rfl) ?_
  refine z_rgo (va_runV (As := [.int x1]) (rest := []) ⟨hx, hb, hml, hown, hts⟩ (c7_isWalker l g q S x1) (cwV 1 hts gX7_comes_X7_isWalker rfl rfl rfl (by decide +kernel) ⟨Nat.le_of_ble_eq_true rfl, Nat.le_of_ble_eq_true rfl⟩) (z_rpreV (ci := 7) (q := (RX7, TX7, 37)) (q0 := 0) hP hK rfl rfl) rfl rfl hl.1 rfl (lv_room (Nat.le_of_ble_eq_true rfl)) dX7_comes_2 ⟨Nat.zero_le _, Nat.zero_le _⟩) ?_
  refine lv_if_ne (tgt := 10) hx hb dX7_comes_5 (by decide) (fun c1 => ?_) (fun c1 => ?_)
  · have hF := zif c1 hF
    refine lv_iload_n hx hb dX7_comes_10 rfl (lv_at hl 2 rfl) ?_
    refine lv_i2l (v := (x2).toInt64) hx hb dX7_comes_11 rfl ?_
    refine lv_lconst (v := 0) hx hb dX7_comes_12 (by decide) ?_
    refine lv_lconst (v := 1) hx hb dX7_comes_13 (by decide) ?_
    refine z_rgo (va_runS (As := [.long ((x2).toInt64), .long 0, .long 1]) (rest := []) ⟨hx, hb, hml, hown, hts⟩ (c7_in l g   ((x2).toInt64) 0 1) (va_cwS 3 hts gX7_comes_X7_in rfl rfl rfl (by decide +kernel) ⟨Nat.le_of_ble_eq_true rfl, Nat.le_of_ble_eq_true rfl⟩) (z_rpre z_nil hK) rfl rfl hl.1 rfl (lv_room (Nat.le_of_ble_eq_true rfl)) dX7_comes_14 ⟨Nat.zero_le _, Nat.zero_le _⟩) ?_
    refine lv_if_ne (tgt := 23) hx hb dX7_comes_17 (by decide) (fun c2 => ?_) (fun c2 => ?_)
    · have hF := zif c2 hF
      refine lv_aload_n hx hb dX7_comes_23 rfl (lv_at hl 0 rfl) ?_
      obtain ⟨S3, hS3, hF⟩ := zob hF
      refine z_wgoW (va_runV (As := []) (rest := []) ⟨hx, hb, hml, hown, hts⟩ ((c7_layTrial l g q S   S3 hS3) H.size) (cwV 0 hts gX7_comes_X7_layTrial rfl rfl rfl (by decide +kernel) ⟨Nat.le_of_ble_eq_true rfl, Nat.le_of_ble_eq_true rfl⟩) (z_wpreV (ci := 7) (q := (RX7, TX7, 37)) (q0 := 0) hP hK (z_any hD) rfl rfl) rfl rfl hl.1 rfl (lv_room (Nat.le_of_ble_eq_true rfl)) dX7_comes_24 ⟨Nat.zero_le _, Nat.zero_le _⟩) hP hD hS hA (fun H locs hP hD hS => ?_)
      show W p l e (headSpec wsX7_comes rmX7_comes).room s m args below meth c H locs 0 0 (MQ below (zWQ g A (MW g q S_o) (some (.int ro))) args s 0 0 A) (F0 m 27 ls [])
      refine lv_iconst (v := 0) hx hb dX7_comes_27 (by decide) ?_
      refine lv_istore_n (lv' := [(3, .int 0), (0, .ref (q 0)), (1, .int x1), (2, .int x2)]) hx hb dX7_comes_28 rfl hl (by decide) rfl (fun ls hl => ?_)
      have L29 : ∀ (n29 : Nat) (y4 : Int32) (S5 : MS) (H : Heap) (locs : List Loc) (ls : Array Slot), f7_comes_l29 x1 x2 n29 y4 S5 = some (ro, S_o) → va_P (zD g) vwCl (MW g q S5) H → va_D A (MW g q S5) → va_S A s.heap H locs → lv_has ls 4 [(0, .ref (q 0)), (1, .int x1), (2, .int x2), (3, .int y4)] → W p l e (headSpec wsX7_comes rmX7_comes).room s m args below meth c H locs 0 0 (MQ below (zWQ g A (MW g q S_o) (some (.int ro))) args s 0 0 A) (F0 m 29 ls []) := by
        intro n29
        induction n29 with
        | zero =>
          intro y4 S5 H locs ls hF hP hD hS hl
          exact absurd (show (none : Option (Int32 × MS)) = some _ from hF) (fun h9 => by cases h9)
        | succ n29 ih29 =>
          intro y4 S5 H locs ls hF hP hD hS hl
          rw [f7_comes_l29] at hF
          refine lv_iload_n hx hb dX7_comes_29 rfl (lv_at hl 3 rfl) ?_
          refine lv_bipush (v := 40) hx hb dX7_comes_30 (by decide) ?_
          refine lv_icmp_gt (tgt := 74) hx hb dX7_comes_32 (by decide) (fun c6 => ?_) (fun c6 => ?_)
          · have hF := zit c6 hF
            refine lv_bipush (v := (-9)) hx hb dX7_comes_74 (by decide) ?_
            obtain ⟨e9a, e9b⟩ := Prod.mk.inj (zin hF)
            exact z_wi hx hb hr hlk hP hD hS (congrArg (fun z => some (Value.int z)) e9a) (by rw [e9b]) dX7_comes_76
          · have hF := zif c6 hF
            refine lv_aload_n hx hb dX7_comes_35 rfl (lv_at hl 0 rfl) ?_
            refine lv_iconst (v := 1) hx hb dX7_comes_36 (by decide) ?_
            refine lv_iload_n hx hb dX7_comes_37 rfl (lv_at hl 1 rfl) ?_
            obtain ⟨v7, hv7, hF⟩ := zob hF
            refine z_rgo (va_runV (As := [.int 1, .int x1]) (rest := []) ⟨hx, hb, hml, hown, hts⟩ (c7_isOut l g q S5 1 x1 v7 hv7) (cwV 2 hts gX7_comes_X7_isOut rfl rfl rfl (by decide +kernel) ⟨Nat.le_of_ble_eq_true rfl, Nat.le_of_ble_eq_true rfl⟩) (z_rpreV (ci := 7) (q := (RX7, TX7, 37)) (q0 := 0) hP hK rfl rfl) rfl rfl hl.1 rfl (lv_room (Nat.le_of_ble_eq_true rfl)) dX7_comes_38 ⟨Nat.zero_le _, Nat.zero_le _⟩) ?_
            refine lv_if_eq (tgt := 62) hx hb dX7_comes_41 (by decide) (fun c8 => ?_) (fun c8 => ?_)
            · have hF := zit c8 hF
              refine lv_aload_n hx hb dX7_comes_62 rfl (lv_at hl 0 rfl) ?_
              refine lv_iconst (v := 1) hx hb dX7_comes_63 (by decide) ?_
              obtain ⟨⟨v10, S9⟩, hS9, hF⟩ := zob hF
              refine z_wgoW (va_runV (As := [.int 1]) (rest := []) ⟨hx, hb, hml, hown, hts⟩ ((c7_stepOn l g q S5 1 v10  S9 hS9) H.size) (cwV 1 hts gX7_comes_X7_stepOn rfl rfl rfl (by decide +kernel) ⟨Nat.le_of_ble_eq_true rfl, Nat.le_of_ble_eq_true rfl⟩) (z_wpreV (ci := 7) (q := (RX7, TX7, 37)) (q0 := 0) hP hK (z_any hD) rfl rfl) rfl rfl hl.1 rfl (lv_room (Nat.le_of_ble_eq_true rfl)) dX7_comes_64 ⟨Nat.zero_le _, Nat.zero_le _⟩) hP hD hS hA (fun H locs hP hD hS => ?_)
              show W p l e (headSpec wsX7_comes rmX7_comes).room s m args below meth c H locs 0 0 (MQ below (zWQ g A (MW g q S_o) (some (.int ro))) args s 0 0 A) (F0 m 67 ls [.int v10])
              refine lv_pop hx hb dX7_comes_67 rfl ?_
              refine lv_iinc (v := (y4 + 1)) (lv' := [(3, .int (y4 + 1)), (0, .ref (q 0)), (1, .int x1), (2, .int x2)]) hx hb dX7_comes_68 hl (k := 3) rfl rfl (by decide) rfl (fun ls hl => ?_)
              refine lv_goto (tgt := 29) hx hb dX7_comes_71 (by decide) ?_
              exact ih29 (y4 + 1) S9 H locs ls hF hP hD hS (lv_sub hl [1, 2, 3, 0] rfl)
            · have hF := zif c8 hF
              refine lv_iload_n hx hb dX7_comes_44 rfl (lv_at hl 2 rfl) ?_
              refine lv_if_ne (tgt := 52) hx hb dX7_comes_45 (by decide) (fun c11 => ?_) (fun c11 => ?_)
              · have hF := zif c11 hF
                refine lv_aload_n hx hb dX7_comes_52 rfl (lv_at hl 0 rfl) ?_
                refine z_get (ci := 7) (v := .ref (q 7)) (C := RX7) (T := TX7) (N := 37) hx hb hts inX7 hown hK hP 0 rfl rfl 11 (by decide) (List.mem_of_getElem? (i := 1) rfl) rfl rfl dX7_comes_53 ?_
                refine lv_bipush (v := 19) hx hb dX7_comes_56 (by decide) ?_
                refine lv_iload_n hx hb dX7_comes_58 rfl (lv_at hl 1 rfl) ?_
                refine lv_iadd hx hb dX7_comes_59 ?_
                obtain ⟨v12, hv12, hF⟩ := zob hF
                refine z_iald hx hb hK hP 7 rfl hv12 dX7_comes_60 ?_
                obtain ⟨e9a, e9b⟩ := Prod.mk.inj (zin hF)
                exact z_wi hx hb hr hlk hP hD hS (congrArg (fun z => some (Value.int z)) e9a) (by rw [e9b]) dX7_comes_61
              · have hF := zit c11 hF
                refine lv_iload_n hx hb dX7_comes_48 rfl (lv_at hl 3 rfl) ?_
                refine lv_goto (tgt := 61) hx hb dX7_comes_49 (by decide) ?_
                obtain ⟨e9a, e9b⟩ := Prod.mk.inj (zin hF)
                exact z_wi hx hb hr hlk hP hD hS (congrArg (fun z => some (Value.int z)) e9a) (by rw [e9b]) dX7_comes_61
      exact L29 FU 0 S3 H locs ls hF hP hD hS (lv_sub hl [1, 2, 3, 0] rfl)
    · have hF := zit c2 hF
      refine lv_bipush (v := (-2)) hx hb dX7_comes_20 (by decide) ?_
      obtain ⟨e9a, e9b⟩ := Prod.mk.inj (zin hF)
      exact z_wi hx hb hr hlk hP hD hS (congrArg (fun z => some (Value.int z)) e9a) (by rw [e9b]) dX7_comes_22
  · have hF := zit c1 hF
    refine lv_iconst (v := (-1)) hx hb dX7_comes_8 (by decide) ?_
    obtain ⟨e9a, e9b⟩ := Prod.mk.inj (zin hF)
    exact z_wi hx hb hr hlk hP hD hS (congrArg (fun z => some (Value.int z)) e9a) (by rw [e9b]) dX7_comes_9
def f7_common_l13 : Nat → Int32 → Int32 → Option (Int32)
  | 0, _, _ => none
  | n13 + 1, y3, y4 => if y4 = 0 then some y3 else (zrm y3 y4).bind fun v6 => f7_common_l13 n13 y4 v6
def f7_common (x0 : Int32) (x1 : Int32) : Option (Int32) := bd (α := Int32) (if 0 ≤ x0 then x0 else (-x0)) (fun (v1 : Int32) => f7_common_l13 FU v1 x1)
abbrev rmX7_common : Room := { frames := 0, cells := 0, slots := 0, locals := 0 }
set_option maxHeartbeats 4000000 in
set_option maxRecDepth 100000 in
theorem c7_common (l : Launch) (g : zG)  (x0 : Int32) (x1 : Int32) (ro : Int32) (hF : f7_common x0 x1 = some ro) : zRO l g yX7_common wsX7_common rmX7_common [.int x0, .int x1] [] (some (.int ro)) := by
  refine zRO_of (cc := cX7_common) (maxL := 5) (ret := (some .int)) (by decide) rfl (Nat.le_of_ble_eq_true rfl) ?_
  intro p e s m args below meth c ls hx hb hr hml hts hown hlk hK hP hl
  have hown : s.vm.findClass RX7 = some m.cls := hown
  have hl : lv_has ls 5 [(0, .int x0), (1, .int x1)] := hl
  unfold f7_common at hF
  refine lv_iload_n hx hb dX7_common_0 rfl (lv_at hl 0 rfl) ?_
  obtain ⟨v1, hVv1⟩ : ∃ y : Int32, (if 0 ≤ x0 then x0 else (-x0) : Int32) = y := ⟨_, rfl⟩
  have hF := bd_eq hVv1.symm hF
  have Jv1 : W p l e (headSpec wsX7_common rmX7_common).room s m args below meth c s.heap [] 0 0 (MQ below (zRQ (some (.int ro))) args s 0 0 (fun _ => False)) (F0 m 10 ls [.int v1]) := by
    refine lv_istore_n (lv' := [(2, .int v1), (0, .int x0), (1, .int x1)]) hx hb dX7_common_10 rfl hl (by decide) rfl (fun ls hl => ?_)
    refine lv_iload_n hx hb dX7_common_11 rfl (lv_at hl 2 rfl) ?_
    refine lv_istore_n (lv' := [(3, .int x1), (2, .int v1), (0, .int x0), (1, .int x1)]) hx hb dX7_common_12 rfl hl (by decide) rfl (fun ls hl => ?_)
    have L13 : ∀ (n13 : Nat) (y3 : Int32) (y4 : Int32) (ls : Array Slot), f7_common_l13 n13 y3 y4 = some ro → lv_has ls 5 [(2, .int y3), (3, .int y4)] → W p l e (headSpec wsX7_common rmX7_common).room s m args below meth c s.heap [] 0 0 (MQ below (zRQ (some (.int ro))) args s 0 0 (fun _ => False)) (F0 m 13 ls []) := by
      intro n13
      induction n13 with
      | zero =>
        intro y3 y4 ls hF hl
        exact absurd (show (none : Option (Int32)) = some _ from hF) (fun h9 => by cases h9)
      | succ n13 ih13 =>
        intro y3 y4 ls hF hl
        rw [f7_common_l13] at hF
        refine lv_iload_n hx hb dX7_common_13 rfl (lv_at hl 1 rfl) ?_
        refine lv_if_eq (tgt := 30) hx hb dX7_common_14 (by decide) (fun c5 => ?_) (fun c5 => ?_)
        · have hF := zit c5 hF
          refine lv_iload_n hx hb dX7_common_30 rfl (lv_at hl 0 rfl) ?_
          have e9a := zin hF
          exact z_ri hx hb hr hlk (congrArg (fun z => some (Value.int z)) e9a) dX7_common_31
        · have hF := zif c5 hF
          refine lv_iload_n hx hb dX7_common_17 rfl (lv_at hl 0 rfl) ?_
          refine lv_iload_n hx hb dX7_common_18 rfl (lv_at hl 1 rfl) ?_
          obtain ⟨v6, hv6, hF⟩ := zob hF
          refine z_irem hx hb dX7_common_19 hv6 ?_
          refine lv_istore (lv' := [(4, .int v6), (2, .int y3), (3, .int y4)]) hx hb dX7_common_20 hl (by decide) rfl (fun ls hl => ?_)
          refine lv_iload_n hx hb dX7_common_22 rfl (lv_at hl 2 rfl) ?_
          refine lv_istore_n (lv' := [(2, .int y4), (4, .int v6), (3, .int y4)]) hx hb dX7_common_23 rfl hl (by decide) rfl (fun ls hl => ?_)
          refine lv_iload hx hb dX7_common_24 (lv_at hl 1 rfl) ?_
          refine lv_istore_n (lv' := [(3, .int v6), (2, .int y4), (4, .int v6)]) hx hb dX7_common_26 rfl hl (by decide) rfl (fun ls hl => ?_)
          refine lv_goto (tgt := 13) hx hb dX7_common_27 (by decide) ?_
          exact ih13 y4 v6 ls hF (lv_sub hl [1, 0] rfl)
    exact L13 FU v1 x1 ls hF (lv_sub hl [1, 0] rfl)
  refine lv_if_ge (tgt := 9) hx hb dX7_common_1 (by decide) (fun c2 => ?_) (fun c2 => ?_)
  · have hVv1 := zit c2 hVv1
    refine lv_iload_n hx hb dX7_common_9 rfl (lv_at hl 0 rfl) ?_
    subst hVv1
    exact Jv1
  · have hVv1 := zif c2 hVv1
    refine lv_iload_n hx hb dX7_common_4 rfl (lv_at hl 0 rfl) ?_
    refine lv_ineg hx hb dX7_common_5 ?_
    refine lv_goto (tgt := 10) hx hb dX7_common_6 (by decide) ?_
    subst hVv1
    exact Jv1
def f7_count (S : MS) (x1 : Int32) : Option (Int32) := if x1 = 0 then some (S.1 20) else if x1 = 1 then some (S.1 0) else if x1 = 2 then some (S.1 1) else if x1 = 3 then some (S.1 2) else if x1 = 4 then (zrd (S.2.1 11) 38 18).bind fun v6 => some v6 else if x1 = 5 then (f7_tideOn S 0).bind fun v8 => some v8 else if x1 = 6 then (f7_outOn S 0 0).bind fun v10 => some v10 else if x1 = 7 then (f7_outOn S 0 1).bind fun v12 => some v12 else if x1 = 8 then some (S.1 26) else if x1 = 9 then some (S.1 30) else some (-2)
abbrev rmX7_count : Room := { frames := 2, cells := 0, slots := 0, locals := 47 }
set_option maxHeartbeats 4000000 in
set_option maxRecDepth 100000 in
theorem c7_count (l : Launch) (g : zG) (q : Nat → Nat) (S : MS) (x1 : Int32) (ro : Int32) (hF : f7_count S x1 = some ro) : zRO l g yX7_count wsX7_count rmX7_count [.ref (q 0), .int x1] (MW g q S) (some (.int ro)) := by
  refine zRO_of (cc := cX7_count) (maxL := 2) (ret := (some .int)) (by decide) rfl (Nat.le_of_ble_eq_true rfl) ?_
  intro p e s m args below meth c ls hx hb hr hml hts hown hlk hK hP hl
  have hown : s.vm.findClass RX7 = some m.cls := hown
  have hl : lv_has ls 2 [(0, .ref (q 0)), (1, .int x1)] := hl
  have inX7 : ∀ w ∈ wsX70, w ∈ wsX7_count := fun _ h => List.mem_cons_of_mem _ (List.mem_append_right _ h)
  unfold f7_count at hF
  refine lv_iload_n hx hb dX7_count_0 rfl (lv_at hl 1 rfl) ?_
  by_cases c1 : x1 = 0
  · have hF := zit c1 hF
    refine z_tin (k := 0) (tgt := 56) hx hb dX7_count_1 c1 ⟨by decide, by decide, rfl, by decide⟩ ?_
    refine lv_aload_n hx hb dX7_count_56 rfl (lv_at hl 0 rfl) ?_
    refine z_get (ci := 7) (v := .int (S.1 20)) (C := RX7) (T := TX7) (N := 37) hx hb hts inX7 hown hK hP 0 rfl rfl 20 (by decide) (List.mem_of_getElem? (i := 1) rfl) rfl rfl dX7_count_57 ?_
    have e9a := zin hF
    exact z_ri hx hb hr hlk (congrArg (fun z => some (Value.int z)) e9a) dX7_count_60
  · have hF := zif c1 hF
    by_cases c2 : x1 = 1
    · have hF := zit c2 hF
      refine z_tin (k := 1) (tgt := 61) hx hb dX7_count_1 c2 ⟨by decide, by decide, rfl, by decide⟩ ?_
      refine lv_aload_n hx hb dX7_count_61 rfl (lv_at hl 0 rfl) ?_
      refine z_get (ci := 7) (v := .int (S.1 0)) (C := RX7) (T := TX7) (N := 37) hx hb hts inX7 hown hK hP 0 rfl rfl 0 (by decide) (List.mem_of_getElem? (i := 2) rfl) rfl rfl dX7_count_62 ?_
      have e9a := zin hF
      exact z_ri hx hb hr hlk (congrArg (fun z => some (Value.int z)) e9a) dX7_count_65
    · have hF := zif c2 hF
      by_cases c3 : x1 = 2
      · have hF := zit c3 hF
        refine z_tin (k := 2) (tgt := 66) hx hb dX7_count_1 c3 ⟨by decide, by decide, rfl, by decide⟩ ?_
        refine lv_aload_n hx hb dX7_count_66 rfl (lv_at hl 0 rfl) ?_
        refine z_get (ci := 7) (v := .int (S.1 1)) (C := RX7) (T := TX7) (N := 37) hx hb hts inX7 hown hK hP 0 rfl rfl 1 (by decide) (List.mem_of_getElem? (i := 3) rfl) rfl rfl dX7_count_67 ?_
        have e9a := zin hF
        exact z_ri hx hb hr hlk (congrArg (fun z => some (Value.int z)) e9a) dX7_count_70
      · have hF := zif c3 hF
        by_cases c4 : x1 = 3
        · have hF := zit c4 hF
          refine z_tin (k := 3) (tgt := 71) hx hb dX7_count_1 c4 ⟨by decide, by decide, rfl, by decide⟩ ?_
          refine lv_aload_n hx hb dX7_count_71 rfl (lv_at hl 0 rfl) ?_
          refine z_get (ci := 7) (v := .int (S.1 2)) (C := RX7) (T := TX7) (N := 37) hx hb hts inX7 hown hK hP 0 rfl rfl 2 (by decide) (List.mem_of_getElem? (i := 4) rfl) rfl rfl dX7_count_72 ?_
          have e9a := zin hF
          exact z_ri hx hb hr hlk (congrArg (fun z => some (Value.int z)) e9a) dX7_count_75
        · have hF := zif c4 hF
          by_cases c5 : x1 = 4
          · have hF := zit c5 hF
            refine z_tin (k := 4) (tgt := 76) hx hb dX7_count_1 c5 ⟨by decide, by decide, rfl, by decide⟩ ?_
            refine lv_aload_n hx hb dX7_count_76 rfl (lv_at hl 0 rfl) ?_
            refine z_get (ci := 7) (v := .ref (q 7)) (C := RX7) (T := TX7) (N := 37) hx hb hts inX7 hown hK hP 0 rfl rfl 11 (by decide) (List.mem_of_getElem? (i := 5) rfl) rfl rfl dX7_count_77 ?_
            refine lv_bipush (v := 18) hx hb dX7_count_80 (by decide) ?_
            obtain ⟨v6, hv6, hF⟩ := zob hF
            refine z_iald hx hb hK hP 7 rfl hv6 dX7_count_82 ?_
            have e9a := zin hF
            exact z_ri hx hb hr hlk (congrArg (fun z => some (Value.int z)) e9a) dX7_count_83
          · have hF := zif c5 hF
            by_cases c7 : x1 = 5
            · have hF := zit c7 hF
              refine z_tin (k := 5) (tgt := 84) hx hb dX7_count_1 c7 ⟨by decide, by decide, rfl, by decide⟩ ?_
              refine lv_aload_n hx hb dX7_count_84 rfl (lv_at hl 0 rfl) ?_
              refine lv_iconst (v := 0) hx hb dX7_count_85 (by decide) ?_
              obtain ⟨v8, hv8, hF⟩ := zob hF
              refine z_rgo (va_runV (As := [.int 0]) (rest := []) ⟨hx, hb, hml, hown, hts⟩ (c7_tideOn l g q S 0 v8 hv8) (cwV 1 hts gX7_count_X7_tideOn rfl rfl rfl (by decide +kernel) ⟨Nat.le_of_ble_eq_true rfl, Nat.le_of_ble_eq_true rfl⟩) (z_rpreV (ci := 7) (q := (RX7, TX7, 37)) (q0 := 0) hP hK rfl rfl) rfl rfl hl.1 rfl (lv_room (Nat.le_of_ble_eq_true rfl)) dX7_count_86 ⟨Nat.zero_le _, Nat.zero_le _⟩) ?_
              have e9a := zin hF
              exact z_ri hx hb hr hlk (congrArg (fun z => some (Value.int z)) e9a) dX7_count_89
            · have hF := zif c7 hF
              by_cases c9 : x1 = 6
              · have hF := zit c9 hF
                refine z_tin (k := 6) (tgt := 90) hx hb dX7_count_1 c9 ⟨by decide, by decide, rfl, by decide⟩ ?_
                refine lv_aload_n hx hb dX7_count_90 rfl (lv_at hl 0 rfl) ?_
                refine lv_iconst (v := 0) hx hb dX7_count_91 (by decide) ?_
                refine lv_iconst (v := 0) hx hb dX7_count_92 (by decide) ?_
                obtain ⟨v10, hv10, hF⟩ := zob hF
                refine z_rgo (va_runV (As := [.int 0, .int 0]) (rest := []) ⟨hx, hb, hml, hown, hts⟩ (c7_outOn l g q S 0 0 v10 hv10) (cwV 2 hts gX7_count_X7_outOn rfl rfl rfl (by decide +kernel) ⟨Nat.le_of_ble_eq_true rfl, Nat.le_of_ble_eq_true rfl⟩) (z_rpreV (ci := 7) (q := (RX7, TX7, 37)) (q0 := 0) hP hK rfl rfl) rfl rfl hl.1 rfl (lv_room (Nat.le_of_ble_eq_true rfl)) dX7_count_93 ⟨Nat.zero_le _, Nat.zero_le _⟩) ?_
                have e9a := zin hF
                exact z_ri hx hb hr hlk (congrArg (fun z => some (Value.int z)) e9a) dX7_count_96
              · have hF := zif c9 hF
                by_cases c11 : x1 = 7
                · have hF := zit c11 hF
                  refine z_tin (k := 7) (tgt := 97) hx hb dX7_count_1 c11 ⟨by decide, by decide, rfl, by decide⟩ ?_
                  refine lv_aload_n hx hb dX7_count_97 rfl (lv_at hl 0 rfl) ?_
                  refine lv_iconst (v := 0) hx hb dX7_count_98 (by decide) ?_
                  refine lv_iconst (v := 1) hx hb dX7_count_99 (by decide) ?_
                  obtain ⟨v12, hv12, hF⟩ := zob hF
                  refine z_rgo (va_runV (As := [.int 0, .int 1]) (rest := []) ⟨hx, hb, hml, hown, hts⟩ (c7_outOn l g q S 0 1 v12 hv12) (cwV 2 hts gX7_count_X7_outOn rfl rfl rfl (by decide +kernel) ⟨Nat.le_of_ble_eq_true rfl, Nat.le_of_ble_eq_true rfl⟩) (z_rpreV (ci := 7) (q := (RX7, TX7, 37)) (q0 := 0) hP hK rfl rfl) rfl rfl hl.1 rfl (lv_room (Nat.le_of_ble_eq_true rfl)) dX7_count_100 ⟨Nat.zero_le _, Nat.zero_le _⟩) ?_
                  have e9a := zin hF
                  exact z_ri hx hb hr hlk (congrArg (fun z => some (Value.int z)) e9a) dX7_count_103
                · have hF := zif c11 hF
                  by_cases c13 : x1 = 8
                  · have hF := zit c13 hF
                    refine z_tin (k := 8) (tgt := 104) hx hb dX7_count_1 c13 ⟨by decide, by decide, rfl, by decide⟩ ?_
                    refine lv_aload_n hx hb dX7_count_104 rfl (lv_at hl 0 rfl) ?_
                    refine z_get (ci := 7) (v := .int (S.1 26)) (C := RX7) (T := TX7) (N := 37) hx hb hts inX7 hown hK hP 0 rfl rfl 26 (by decide) (List.mem_of_getElem? (i := 6) rfl) rfl rfl dX7_count_105 ?_
                    have e9a := zin hF
                    exact z_ri hx hb hr hlk (congrArg (fun z => some (Value.int z)) e9a) dX7_count_108
                  · have hF := zif c13 hF
                    by_cases c14 : x1 = 9
                    · have hF := zit c14 hF
                      refine z_tin (k := 9) (tgt := 109) hx hb dX7_count_1 c14 ⟨by decide, by decide, rfl, by decide⟩ ?_
                      refine lv_aload_n hx hb dX7_count_109 rfl (lv_at hl 0 rfl) ?_
                      refine z_get (ci := 7) (v := .int (S.1 30)) (C := RX7) (T := TX7) (N := 37) hx hb hts inX7 hown hK hP 0 rfl rfl 30 (by decide) (List.mem_of_getElem? (i := 7) rfl) rfl rfl dX7_count_110 ?_
                      have e9a := zin hF
                      exact z_ri hx hb hr hlk (congrArg (fun z => some (Value.int z)) e9a) dX7_count_113
                    · have hF := zif c14 hF
                      refine z_tout hx hb dX7_count_1 [0, 1, 2, 3, 4, 5, 6, 7, 8, 9] (fun k hk => ?_) rfl (tgt := 114) (by decide) ?_
                      · simp only [List.mem_cons, List.not_mem_nil, or_false] at hk
                        rcases hk with rfl | rfl | rfl | rfl | rfl | rfl | rfl | rfl | rfl | rfl <;> assumption
                      · refine lv_bipush (v := (-2)) hx hb dX7_count_114 (by decide) ?_
                        have e9a := zin hF
                        exact z_ri hx hb hr hlk (congrArg (fun z => some (Value.int z)) e9a) dX7_count_116
def f7_factorial_l4 (x0 : Int32) : Nat → Int32 → Int32 → Option (Int32)
  | 0, _, _ => none
  | n4 + 1, y1, y2 => if x0 < y2 then some y1 else bd (α := Int32) (y1 * y2) (fun (v4 : Int32) => f7_factorial_l4 x0 n4 v4 (y2 + 1))
def f7_factorial (x0 : Int32) : Option (Int32) := f7_factorial_l4 x0 FU 1 2
abbrev rmX7_factorial : Room := { frames := 0, cells := 0, slots := 0, locals := 0 }
set_option maxHeartbeats 4000000 in
set_option maxRecDepth 100000 in
theorem c7_factorial (l : Launch) (g : zG)  (x0 : Int32) (ro : Int32) (hF : f7_factorial x0 = some ro) : zRO l g yX7_factorial wsX7_factorial rmX7_factorial [.int x0] [] (some (.int ro)) := by
  refine zRO_of (cc := cX7_factorial) (maxL := 3) (ret := (some .int)) (by decide) rfl (Nat.le_of_ble_eq_true rfl) ?_
  intro p e s m args below meth c ls hx hb hr hml hts hown hlk hK hP hl
  have hown : s.vm.findClass RX7 = some m.cls := hown
  have hl : lv_has ls 3 [(0, .int x0)] := hl
  unfold f7_factorial at hF
  refine lv_iconst (v := 1) hx hb dX7_factorial_0 (by decide) ?_
  refine lv_istore_n (lv' := [(1, .int 1), (0, .int x0)]) hx hb dX7_factorial_1 rfl hl (by decide) rfl (fun ls hl => ?_)
  refine lv_iconst (v := 2) hx hb dX7_factorial_2 (by decide) ?_
  refine lv_istore_n (lv' := [(2, .int 2), (1, .int 1), (0, .int x0)]) hx hb dX7_factorial_3 rfl hl (by decide) rfl (fun ls hl => ?_)
  have L4 : ∀ (n4 : Nat) (y1 : Int32) (y2 : Int32) (ls : Array Slot), f7_factorial_l4 x0 n4 y1 y2 = some ro → lv_has ls 3 [(0, .int x0), (1, .int y1), (2, .int y2)] → W p l e (headSpec wsX7_factorial rmX7_factorial).room s m args below meth c s.heap [] 0 0 (MQ below (zRQ (some (.int ro))) args s 0 0 (fun _ => False)) (F0 m 4 ls []) := by
    intro n4
    induction n4 with
    | zero =>
      intro y1 y2 ls hF hl
      exact absurd (show (none : Option (Int32)) = some _ from hF) (fun h9 => by cases h9)
    | succ n4 ih4 =>
      intro y1 y2 ls hF hl
      rw [f7_factorial_l4] at hF
      refine lv_iload_n hx hb dX7_factorial_4 rfl (lv_at hl 2 rfl) ?_
      refine lv_iload_n hx hb dX7_factorial_5 rfl (lv_at hl 0 rfl) ?_
      refine lv_icmp_gt (tgt := 19) hx hb dX7_factorial_6 (by decide) (fun c3 => ?_) (fun c3 => ?_)
      · have hF := zit c3 hF
        refine lv_iload_n hx hb dX7_factorial_19 rfl (lv_at hl 1 rfl) ?_
        have e9a := zin hF
        exact z_ri hx hb hr hlk (congrArg (fun z => some (Value.int z)) e9a) dX7_factorial_20
      · have hF := zif c3 hF
        refine lv_iload_n hx hb dX7_factorial_9 rfl (lv_at hl 1 rfl) ?_
        refine lv_iload_n hx hb dX7_factorial_10 rfl (lv_at hl 2 rfl) ?_
        refine lv_imul hx hb dX7_factorial_11 ?_
        refine lv_topi (fun v4 ev4 => ?_)
        have hF := bd_eq ev4 hF
        refine lv_istore_n (lv' := [(1, .int v4), (0, .int x0), (2, .int y2)]) hx hb dX7_factorial_12 rfl hl (by decide) rfl (fun ls hl => ?_)
        refine lv_iinc (v := (y2 + 1)) (lv' := [(2, .int (y2 + 1)), (1, .int v4), (0, .int x0)]) hx hb dX7_factorial_13 hl (k := 2) rfl rfl (by decide) rfl (fun ls hl => ?_)
        refine lv_goto (tgt := 4) hx hb dX7_factorial_16 (by decide) ?_
        exact ih4 v4 (y2 + 1) ls hF (lv_sub hl [2, 1, 0] rfl)
  exact L4 FU 1 2 ls hF (lv_sub hl [2, 1, 0] rfl)
def f7_figureOf_j58 (S7 : MS) : Option (Int32 × MS) := bd (α := Int32) (if (S7.1 22) = (-9) then (S7.1 21) else (S7.1 22)) (fun (v8 : Int32) => bd (sI S7 22 v8) (fun (S10 : MS) => some (0, S10)))
def f7_figureOf (S : MS) (x1 : Int32) : Option (Int32 × MS) := (if (S.1 22) = (-9) then if (S.1 20) ≤ (S.1 21) then some (-9) else (zrd (S.2.1 19) 60 (S.1 21)).bind fun v6 => some (v6 - 48) else some (-9) : Option Int32).bind fun v1 => if (f7_in ((v1).toInt64) 0 9) = 0 then f7_figureOf_j58 S else if (f7_has x1 v1) = 0 then f7_figureOf_j58 S else bd (sI S 21 ((S.1 21) + 1)) (fun (S13 : MS) => some (v1, S13))
abbrev rmX7_figureOf : Room := { frames := 1, cells := 0, slots := 0, locals := 25 }
set_option maxHeartbeats 4000000 in
set_option maxRecDepth 100000 in
theorem c7_figureOf (l : Launch) (g : zG) (q : Nat → Nat) (S : MS) (x1 : Int32) (ro : Int32) (S_o : MS) (hF : f7_figureOf S x1 = some (ro, S_o)) : zRW l g yX7_figureOf wsX7_figureOf rmX7_figureOf [.ref (q 0), .int x1] (MW g q S) (some (.int ro)) (MW g q S_o) := by
  refine zRW_of (cc := cX7_figureOf) (maxL := 3) (ret := (some .int)) (by decide) rfl (Nat.le_of_ble_eq_true rfl) ?_
  intro p e s m args below meth c A H locs ls hx hb hr hml hts hown hlk hK hA hP hD hS hl
  have hown : s.vm.findClass RX7 = some m.cls := hown
  have hl : lv_has ls 3 [(0, .ref (q 0)), (1, .int x1)] := hl
  have inX7 : ∀ w ∈ wsX70, w ∈ wsX7_figureOf := fun _ h => List.mem_cons_of_mem _ (List.mem_append_right _ h)
  unfold f7_figureOf at hF
  refine lv_aload_n hx hb dX7_figureOf_0 rfl (lv_at hl 0 rfl) ?_
  refine z_get (ci := 7) (v := .int (S.1 22)) (C := RX7) (T := TX7) (N := 37) hx hb hts inX7 hown hK hP 0 rfl rfl 22 (by decide) (List.mem_of_getElem? (i := 1) rfl) rfl rfl dX7_figureOf_1 ?_
  refine lv_bipush (v := (-9)) hx hb dX7_figureOf_4 (by decide) ?_
  obtain ⟨v1, hVv1, hF⟩ := zob hF
  have Jv1 : W p l e (headSpec wsX7_figureOf rmX7_figureOf).room s m args below meth c H locs 0 0 (MQ below (zWQ g A (MW g q S_o) (some (.int ro))) args s 0 0 A) (F0 m 37 ls [.int v1]) := by
    refine lv_istore_n (lv' := [(2, .int v1), (0, .ref (q 0)), (1, .int x1)]) hx hb dX7_figureOf_37 rfl hl (by decide) rfl (fun ls hl => ?_)
    refine lv_iload_n hx hb dX7_figureOf_38 rfl (lv_at hl 0 rfl) ?_
    refine lv_i2l (v := (v1).toInt64) hx hb dX7_figureOf_39 rfl ?_
    refine lv_lconst (v := 0) hx hb dX7_figureOf_40 (by decide) ?_
    refine lv_ldc2 (own := RX7) (v := 9) hx hb hown (hts (.constantLong RX7 90 9) (List.mem_of_getElem? (i := 5) rfl)) dX7_figureOf_41 ?_
    refine z_rgo (va_runS (As := [.long ((v1).toInt64), .long 0, .long 9]) (rest := []) ⟨hx, hb, hml, hown, hts⟩ (c7_in l g   ((v1).toInt64) 0 9) (va_cwS 3 hts gX7_figureOf_X7_in rfl rfl rfl (by decide +kernel) ⟨Nat.le_of_ble_eq_true rfl, Nat.le_of_ble_eq_true rfl⟩) (z_rpre z_nil hK) rfl rfl hl.1 rfl (lv_room (Nat.le_of_ble_eq_true rfl)) dX7_figureOf_44 ⟨Nat.zero_le _, Nat.zero_le _⟩) ?_
    have L58 : ∀ (S7 : MS) (H : Heap) (locs : List Loc) (ls : Array Slot), f7_figureOf_j58 S7 = some (ro, S_o) → va_P (zD g) vwCl (MW g q S7) H → va_D A (MW g q S7) → va_S A s.heap H locs → lv_has ls 3 [(0, .ref (q 0))] → W p l e (headSpec wsX7_figureOf rmX7_figureOf).room s m args below meth c H locs 0 0 (MQ below (zWQ g A (MW g q S_o) (some (.int ro))) args s 0 0 A) (F0 m 58 ls []) := by
      intro S7 H locs ls hF hP hD hS hl
      unfold f7_figureOf_j58 at hF
      refine lv_aload_n hx hb dX7_figureOf_58 rfl (lv_at hl 0 rfl) ?_
      refine lv_aload_n hx hb dX7_figureOf_59 rfl (lv_at hl 0 rfl) ?_
      refine z_get (ci := 7) (v := .int (S7.1 22)) (C := RX7) (T := TX7) (N := 37) hx hb hts inX7 hown hK hP 0 rfl rfl 22 (by decide) (List.mem_of_getElem? (i := 1) rfl) rfl rfl dX7_figureOf_60 ?_
      refine lv_bipush (v := (-9)) hx hb dX7_figureOf_63 (by decide) ?_
      obtain ⟨v8, hVv8⟩ : ∃ y : Int32, (if (S7.1 22) = (-9) then (S7.1 21) else (S7.1 22) : Int32) = y := ⟨_, rfl⟩
      have hF := bd_eq hVv8.symm hF
      have Jv8 : W p l e (headSpec wsX7_figureOf rmX7_figureOf).room s m args below meth c H locs 0 0 (MQ below (zWQ g A (MW g q S_o) (some (.int ro))) args s 0 0 A) (F0 m 79 ls [.int v8, .ref (q 0)]) := by
        refine z_put (ci := 7) (v := .int v8) (C := RX7) (T := TX7) (N := 37) (ws' := MW g q (sI S7 22 v8)) hx hb hts inX7 tyX7 tyX7_ok nmX7 hown hK hP hD hS 0 rfl rfl 22 (by decide) (List.mem_of_getElem? (i := 1) rfl) rfl rfl rfl rfl (Nat.le_of_ble_eq_true rfl) rfl dX7_figureOf_79 (fun H locs hP hD hS => ?_)
        obtain ⟨S10, eS10⟩ : ∃ y : MS, y = (sI S7 22 v8) := ⟨_, rfl⟩
        rw [← eS10] at hP hD
        have hF := bd_eq eS10 hF
        refine lv_iconst (v := 0) hx hb dX7_figureOf_82 (by decide) ?_
        obtain ⟨e9a, e9b⟩ := Prod.mk.inj (zin hF)
        exact z_wi hx hb hr hlk hP hD hS (congrArg (fun z => some (Value.int z)) e9a) (by rw [e9b]) dX7_figureOf_83
      refine lv_icmp_ne (tgt := 75) hx hb dX7_figureOf_65 (by decide) (fun c9 => ?_) (fun c9 => ?_)
      · have hVv8 := zif c9 hVv8
        refine lv_aload_n hx hb dX7_figureOf_75 rfl (lv_at hl 0 rfl) ?_
        refine z_get (ci := 7) (v := .int (S7.1 22)) (C := RX7) (T := TX7) (N := 37) hx hb hts inX7 hown hK hP 0 rfl rfl 22 (by decide) (List.mem_of_getElem? (i := 1) rfl) rfl rfl dX7_figureOf_76 ?_
        subst hVv8
        exact Jv8
      · have hVv8 := zit c9 hVv8
        refine lv_aload_n hx hb dX7_figureOf_68 rfl (lv_at hl 0 rfl) ?_
        refine z_get (ci := 7) (v := .int (S7.1 21)) (C := RX7) (T := TX7) (N := 37) hx hb hts inX7 hown hK hP 0 rfl rfl 21 (by decide) (List.mem_of_getElem? (i := 2) rfl) rfl rfl dX7_figureOf_69 ?_
        refine lv_goto (tgt := 79) hx hb dX7_figureOf_72 (by decide) ?_
        subst hVv8
        exact Jv8
    refine lv_if_eq (tgt := 58) hx hb dX7_figureOf_47 (by decide) (fun c11 => ?_) (fun c11 => ?_)
    · have hF := zit c11 hF
      exact L58 S H locs ls hF hP hD hS (lv_sub hl [1] rfl)
    · have hF := zif c11 hF
      refine lv_iload_n hx hb dX7_figureOf_50 rfl (lv_at hl 2 rfl) ?_
      refine lv_iload_n hx hb dX7_figureOf_51 rfl (lv_at hl 0 rfl) ?_
      refine z_rgo (va_runS (As := [.int x1, .int v1]) (rest := []) ⟨hx, hb, hml, hown, hts⟩ (c7_has l g   x1 v1) (va_cwS 2 hts gX7_figureOf_X7_has rfl rfl rfl (by decide +kernel) ⟨Nat.le_of_ble_eq_true rfl, Nat.le_of_ble_eq_true rfl⟩) (z_rpre z_nil hK) rfl rfl hl.1 rfl (lv_room (Nat.le_of_ble_eq_true rfl)) dX7_figureOf_52 ⟨Nat.zero_le _, Nat.zero_le _⟩) ?_
      refine lv_if_ne (tgt := 84) hx hb dX7_figureOf_55 (by decide) (fun c12 => ?_) (fun c12 => ?_)
      · have hF := zif c12 hF
        refine lv_aload_n hx hb dX7_figureOf_84 rfl (lv_at hl 1 rfl) ?_
        refine lv_dup hx hb dX7_figureOf_85 rfl ?_
        refine z_get (ci := 7) (v := .int (S.1 21)) (C := RX7) (T := TX7) (N := 37) hx hb hts inX7 hown hK hP 0 rfl rfl 21 (by decide) (List.mem_of_getElem? (i := 2) rfl) rfl rfl dX7_figureOf_86 ?_
        refine lv_iconst (v := 1) hx hb dX7_figureOf_89 (by decide) ?_
        refine lv_iadd hx hb dX7_figureOf_90 ?_
        refine z_put (ci := 7) (v := .int ((S.1 21) + 1)) (C := RX7) (T := TX7) (N := 37) (ws' := MW g q (sI S 21 ((S.1 21) + 1))) hx hb hts inX7 tyX7 tyX7_ok nmX7 hown hK hP hD hS 0 rfl rfl 21 (by decide) (List.mem_of_getElem? (i := 2) rfl) rfl rfl rfl rfl (Nat.le_of_ble_eq_true rfl) rfl dX7_figureOf_91 (fun H locs hP hD hS => ?_)
        obtain ⟨S13, eS13⟩ : ∃ y : MS, y = (sI S 21 ((S.1 21) + 1)) := ⟨_, rfl⟩
        rw [← eS13] at hP hD
        have hF := bd_eq eS13 hF
        refine lv_iload_n hx hb dX7_figureOf_94 rfl (lv_at hl 0 rfl) ?_
        obtain ⟨e9a, e9b⟩ := Prod.mk.inj (zin hF)
        exact z_wi hx hb hr hlk hP hD hS (congrArg (fun z => some (Value.int z)) e9a) (by rw [e9b]) dX7_figureOf_95
      · have hF := zit c12 hF
        exact L58 S H locs ls hF hP hD hS (lv_sub hl [1] rfl)
  refine lv_icmp_ne (tgt := 35) hx hb dX7_figureOf_6 (by decide) (fun c4 => ?_) (fun c4 => ?_)
  · have hVv1 := zif c4 hVv1
    refine lv_bipush (v := (-9)) hx hb dX7_figureOf_35 (by decide) ?_
    have hVv1 := zin hVv1
    subst hVv1
    exact Jv1
  · have hVv1 := zit c4 hVv1
    refine lv_aload_n hx hb dX7_figureOf_9 rfl (lv_at hl 0 rfl) ?_
    refine z_get (ci := 7) (v := .int (S.1 21)) (C := RX7) (T := TX7) (N := 37) hx hb hts inX7 hown hK hP 0 rfl rfl 21 (by decide) (List.mem_of_getElem? (i := 2) rfl) rfl rfl dX7_figureOf_10 ?_
    refine lv_aload_n hx hb dX7_figureOf_13 rfl (lv_at hl 0 rfl) ?_
    refine z_get (ci := 7) (v := .int (S.1 20)) (C := RX7) (T := TX7) (N := 37) hx hb hts inX7 hown hK hP 0 rfl rfl 20 (by decide) (List.mem_of_getElem? (i := 3) rfl) rfl rfl dX7_figureOf_14 ?_
    refine lv_icmp_ge (tgt := 35) hx hb dX7_figureOf_17 (by decide) (fun c5 => ?_) (fun c5 => ?_)
    · have hVv1 := zit c5 hVv1
      refine lv_bipush (v := (-9)) hx hb dX7_figureOf_35 (by decide) ?_
      have hVv1 := zin hVv1
      subst hVv1
      exact Jv1
    · have hVv1 := zif c5 hVv1
      refine lv_aload_n hx hb dX7_figureOf_20 rfl (lv_at hl 0 rfl) ?_
      refine z_get (ci := 7) (v := .ref (q 12)) (C := RX7) (T := TX7) (N := 37) hx hb hts inX7 hown hK hP 0 rfl rfl 19 (by decide) (List.mem_of_getElem? (i := 4) rfl) rfl rfl dX7_figureOf_21 ?_
      refine lv_aload_n hx hb dX7_figureOf_24 rfl (lv_at hl 0 rfl) ?_
      refine z_get (ci := 7) (v := .int (S.1 21)) (C := RX7) (T := TX7) (N := 37) hx hb hts inX7 hown hK hP 0 rfl rfl 21 (by decide) (List.mem_of_getElem? (i := 2) rfl) rfl rfl dX7_figureOf_25 ?_
      obtain ⟨v6, hv6, hVv1⟩ := zob hVv1
      refine z_iald hx hb hK hP 12 rfl hv6 dX7_figureOf_28 ?_
      refine lv_bipush (v := 48) hx hb dX7_figureOf_29 (by decide) ?_
      refine lv_isub hx hb dX7_figureOf_31 ?_
      refine lv_goto (tgt := 37) hx hb dX7_figureOf_32 (by decide) ?_
      have hVv1 := zin hVv1
      subst hVv1
      exact Jv1
def f7_left (S : MS) (x1 : Int32) : Option (Int32) := (zrd (S.2.1 15) 6 x1).bind fun v1 => some (((((1 : Int32) <<< ((S.1 16) &&& 31)) - 1) &&& (v1 ^^^ (-1))) &&& (((1 : Int32) <<< (x1 &&& 31)) ^^^ (-1)))
abbrev rmX7_left : Room := { frames := 0, cells := 0, slots := 0, locals := 0 }
set_option maxHeartbeats 4000000 in
set_option maxRecDepth 100000 in
theorem c7_left (l : Launch) (g : zG) (q : Nat → Nat) (S : MS) (x1 : Int32) (ro : Int32) (hF : f7_left S x1 = some ro) : zRO l g yX7_left wsX7_left rmX7_left [.ref (q 0), .int x1] (MW g q S) (some (.int ro)) := by
  refine zRO_of (cc := cX7_left) (maxL := 2) (ret := (some .int)) (by decide) rfl (Nat.le_of_ble_eq_true rfl) ?_
  intro p e s m args below meth c ls hx hb hr hml hts hown hlk hK hP hl
  have hown : s.vm.findClass RX7 = some m.cls := hown
  have hl : lv_has ls 2 [(0, .ref (q 0)), (1, .int x1)] := hl
  have inX7 : ∀ w ∈ wsX70, w ∈ wsX7_left := fun _ h => List.mem_cons_of_mem _ (List.mem_append_right _ h)
  unfold f7_left at hF
  refine lv_iconst (v := 1) hx hb dX7_left_0 (by decide) ?_
  refine lv_aload_n hx hb dX7_left_1 rfl (lv_at hl 0 rfl) ?_
  refine z_get (ci := 7) (v := .int (S.1 16)) (C := RX7) (T := TX7) (N := 37) hx hb hts inX7 hown hK hP 0 rfl rfl 16 (by decide) (List.mem_of_getElem? (i := 1) rfl) rfl rfl dX7_left_2 ?_
  refine lv_ishl hx hb dX7_left_5 ?_
  refine lv_iconst (v := 1) hx hb dX7_left_6 (by decide) ?_
  refine lv_isub hx hb dX7_left_7 ?_
  refine lv_aload_n hx hb dX7_left_8 rfl (lv_at hl 0 rfl) ?_
  refine z_get (ci := 7) (v := .ref (q 11)) (C := RX7) (T := TX7) (N := 37) hx hb hts inX7 hown hK hP 0 rfl rfl 15 (by decide) (List.mem_of_getElem? (i := 2) rfl) rfl rfl dX7_left_9 ?_
  refine lv_iload_n hx hb dX7_left_12 rfl (lv_at hl 1 rfl) ?_
  obtain ⟨v1, hv1, hF⟩ := zob hF
  refine z_iald hx hb hK hP 11 rfl hv1 dX7_left_13 ?_
  refine lv_iconst (v := (-1)) hx hb dX7_left_14 (by decide) ?_
  refine lv_ixor hx hb dX7_left_15 ?_
  refine lv_iand hx hb dX7_left_16 ?_
  refine lv_iconst (v := 1) hx hb dX7_left_17 (by decide) ?_
  refine lv_iload_n hx hb dX7_left_18 rfl (lv_at hl 1 rfl) ?_
  refine lv_ishl hx hb dX7_left_19 ?_
  refine lv_iconst (v := (-1)) hx hb dX7_left_20 (by decide) ?_
  refine lv_ixor hx hb dX7_left_21 ?_
  refine lv_iand hx hb dX7_left_22 ?_
  have e9a := zin hF
  exact z_ri hx hb hr hlk (congrArg (fun z => some (Value.int z)) e9a) dX7_left_23
def f7_firstsLeft_l4 (S : MS) : Nat → Int32 → Int32 → Option (Int32)
  | 0, _, _ => none
  | n4 + 1, y1, y2 => if (S.1 16) ≤ y2 then some y1 else (f7_left S y2).bind fun v4 => bd (α := Int32) (if v4 = 0 then 0 else ((1 : Int32) <<< (y2 &&& 31))) (fun (v5 : Int32) => bd (α := Int32) (y1 ||| v5) (fun (v7 : Int32) => f7_firstsLeft_l4 S n4 v7 (y2 + 1)))
def f7_firstsLeft (S : MS) : Option (Int32) := f7_firstsLeft_l4 S FU 0 0
abbrev rmX7_firstsLeft : Room := { frames := 1, cells := 0, slots := 0, locals := 21 }
set_option maxHeartbeats 4000000 in
set_option maxRecDepth 100000 in
theorem c7_firstsLeft (l : Launch) (g : zG) (q : Nat → Nat) (S : MS) (ro : Int32) (hF : f7_firstsLeft S = some ro) : zRO l g yX7_firstsLeft wsX7_firstsLeft rmX7_firstsLeft [.ref (q 0)] (MW g q S) (some (.int ro)) := by
  refine zRO_of (cc := cX7_firstsLeft) (maxL := 3) (ret := (some .int)) (by decide) rfl (Nat.le_of_ble_eq_true rfl) ?_
  intro p e s m args below meth c ls hx hb hr hml hts hown hlk hK hP hl
  have hown : s.vm.findClass RX7 = some m.cls := hown
  have hl : lv_has ls 3 [(0, .ref (q 0))] := hl
  have inX7 : ∀ w ∈ wsX70, w ∈ wsX7_firstsLeft := fun _ h => List.mem_cons_of_mem _ (List.mem_append_right _ h)
  unfold f7_firstsLeft at hF
  refine lv_iconst (v := 0) hx hb dX7_firstsLeft_0 (by decide) ?_
  refine lv_istore_n (lv' := [(1, .int 0), (0, .ref (q 0))]) hx hb dX7_firstsLeft_1 rfl hl (by decide) rfl (fun ls hl => ?_)
  refine lv_iconst (v := 0) hx hb dX7_firstsLeft_2 (by decide) ?_
  refine lv_istore_n (lv' := [(2, .int 0), (1, .int 0), (0, .ref (q 0))]) hx hb dX7_firstsLeft_3 rfl hl (by decide) rfl (fun ls hl => ?_)
  have L4 : ∀ (n4 : Nat) (y1 : Int32) (y2 : Int32) (ls : Array Slot), f7_firstsLeft_l4 S n4 y1 y2 = some ro → lv_has ls 3 [(0, .ref (q 0)), (1, .int y1), (2, .int y2)] → W p l e (headSpec wsX7_firstsLeft rmX7_firstsLeft).room s m args below meth c s.heap [] 0 0 (MQ below (zRQ (some (.int ro))) args s 0 0 (fun _ => False)) (F0 m 4 ls []) := by
    intro n4
    induction n4 with
    | zero =>
      intro y1 y2 ls hF hl
      exact absurd (show (none : Option (Int32)) = some _ from hF) (fun h9 => by cases h9)
    | succ n4 ih4 =>
      intro y1 y2 ls hF hl
      rw [f7_firstsLeft_l4] at hF
      refine lv_iload_n hx hb dX7_firstsLeft_4 rfl (lv_at hl 2 rfl) ?_
      refine lv_aload_n hx hb dX7_firstsLeft_5 rfl (lv_at hl 0 rfl) ?_
      refine z_get (ci := 7) (v := .int (S.1 16)) (C := RX7) (T := TX7) (N := 37) hx hb hts inX7 hown hK hP 0 rfl rfl 16 (by decide) (List.mem_of_getElem? (i := 1) rfl) rfl rfl dX7_firstsLeft_6 ?_
      refine lv_icmp_ge (tgt := 36) hx hb dX7_firstsLeft_9 (by decide) (fun c3 => ?_) (fun c3 => ?_)
      · have hF := zit c3 hF
        refine lv_iload_n hx hb dX7_firstsLeft_36 rfl (lv_at hl 1 rfl) ?_
        have e9a := zin hF
        exact z_ri hx hb hr hlk (congrArg (fun z => some (Value.int z)) e9a) dX7_firstsLeft_37
      · have hF := zif c3 hF
        refine lv_iload_n hx hb dX7_firstsLeft_12 rfl (lv_at hl 1 rfl) ?_
        refine lv_aload_n hx hb dX7_firstsLeft_13 rfl (lv_at hl 0 rfl) ?_
        refine lv_iload_n hx hb dX7_firstsLeft_14 rfl (lv_at hl 2 rfl) ?_
        obtain ⟨v4, hv4, hF⟩ := zob hF
        refine z_rgo (va_runV (As := [.int y2]) (rest := [.int y1]) ⟨hx, hb, hml, hown, hts⟩ (c7_left l g q S y2 v4 hv4) (cwV 1 hts gX7_firstsLeft_X7_left rfl rfl rfl (by decide +kernel) ⟨Nat.le_of_ble_eq_true rfl, Nat.le_of_ble_eq_true rfl⟩) (z_rpreV (ci := 7) (q := (RX7, TX7, 37)) (q0 := 0) hP hK rfl rfl) rfl rfl hl.1 rfl (lv_room (Nat.le_of_ble_eq_true rfl)) dX7_firstsLeft_15 ⟨Nat.zero_le _, Nat.zero_le _⟩) ?_
        obtain ⟨v5, hVv5⟩ : ∃ y : Int32, (if v4 = 0 then 0 else ((1 : Int32) <<< (y2 &&& 31)) : Int32) = y := ⟨_, rfl⟩
        have hF := bd_eq hVv5.symm hF
        have Jv5 : W p l e (headSpec wsX7_firstsLeft rmX7_firstsLeft).room s m args below meth c s.heap [] 0 0 (MQ below (zRQ (some (.int ro))) args s 0 0 (fun _ => False)) (F0 m 28 ls [.int v5, .int y1]) := by
          refine lv_ior hx hb dX7_firstsLeft_28 ?_
          refine lv_topi (fun v7 ev7 => ?_)
          have hF := bd_eq ev7 hF
          refine lv_istore_n (lv' := [(1, .int v7), (0, .ref (q 0)), (2, .int y2)]) hx hb dX7_firstsLeft_29 rfl hl (by decide) rfl (fun ls hl => ?_)
          refine lv_iinc (v := (y2 + 1)) (lv' := [(2, .int (y2 + 1)), (1, .int v7), (0, .ref (q 0))]) hx hb dX7_firstsLeft_30 hl (k := 2) rfl rfl (by decide) rfl (fun ls hl => ?_)
          refine lv_goto (tgt := 4) hx hb dX7_firstsLeft_33 (by decide) ?_
          exact ih4 v7 (y2 + 1) ls hF (lv_sub hl [2, 1, 0] rfl)
        refine lv_if_eq (tgt := 27) hx hb dX7_firstsLeft_18 (by decide) (fun c6 => ?_) (fun c6 => ?_)
        · have hVv5 := zit c6 hVv5
          refine lv_iconst (v := 0) hx hb dX7_firstsLeft_27 (by decide) ?_
          subst hVv5
          exact Jv5
        · have hVv5 := zif c6 hVv5
          refine lv_iconst (v := 1) hx hb dX7_firstsLeft_21 (by decide) ?_
          refine lv_iload_n hx hb dX7_firstsLeft_22 rfl (lv_at hl 2 rfl) ?_
          refine lv_ishl hx hb dX7_firstsLeft_23 ?_
          refine lv_goto (tgt := 28) hx hb dX7_firstsLeft_24 (by decide) ?_
          subst hVv5
          exact Jv5
  exact L4 FU 0 0 ls hF (lv_sub hl [2, 1, 0] rfl)
def f7_readPart_j214 (x1 : Int32) (S2 : MS) : Option (MS) := if x1 = 87 then if 4 ≤ (S2.1 18) then bd (sI S2 22 (S2.1 21)) (fun (S6 : MS) => some S6) else if (S2.1 16) ≤ 0 then bd (sI S2 22 (S2.1 21)) (fun (S8 : MS) => some S8) else bd (sI S2 21 ((S2.1 21) + 1)) (fun (S9 : MS) => (f7_figureOf S9 (((1 : Int32) <<< ((S9.1 16) &&& 31)) - 1)).bind fun (v11, S10) => (zwr (S10.2.1 14) 16 (4 * (S9.1 18)) v11).bind fun f12 => bd (mA S10 14 f12) (fun (S13 : MS) => (f7_figureOf S13 1022).bind fun (v15, S14) => (zwr (S14.2.1 14) 16 ((4 * (S13.1 18)) + 1) v15).bind fun f16 => bd (mA S14 14 f16) (fun (S17 : MS) => (f7_figureOf S17 15).bind fun (v19, S18) => (zwr (S18.2.1 14) 16 ((4 * (S17.1 18)) + 2) v19).bind fun f20 => bd (mA S18 14 f20) (fun (S21 : MS) => (f7_figureOf S21 (((1 : Int32) <<< ((S21.1 16) &&& 31)) - 1)).bind fun (v23, S22) => (zwr (S22.2.1 14) 16 ((4 * (S21.1 18)) + 3) v23).bind fun f24 => bd (mA S22 14 f24) (fun (S25 : MS) => bd (sI S25 18 ((S25.1 18) + 1)) (fun (S26 : MS) => some S26)))))) else bd (sI S2 22 (S2.1 21)) (fun (S4 : MS) => some S4)
def f7_readPart_j74 (x1 : Int32) (S1 : MS) : Option (MS) := if x1 = 80 then if 8 ≤ (S1.1 17) then f7_readPart_j214 x1 S1 else (f7_firstsLeft S1).bind fun v29 => if v29 = 0 then f7_readPart_j214 x1 S1 else bd (sI S1 21 ((S1.1 21) + 1)) (fun (S31 : MS) => (f7_firstsLeft S31).bind fun v32 => (f7_figureOf S31 v32).bind fun (v34, S33) => (f7_left S33 v34).bind fun v35 => (f7_figureOf S33 v35).bind fun (v37, S36) => (zrd (S36.2.1 15) 6 v34).bind fun v38 => bd (α := Int32) (if (S36.1 22) = (-9) then ((1 : Int32) <<< (v37 &&& 31)) else 0) (fun (v39 : Int32) => (zwr (S36.2.1 15) 6 v34 (v38 ||| v39)).bind fun f41 => bd (mA S36 15 f41) (fun (S42 : MS) => (zrd (S42.2.1 15) 6 v37).bind fun v43 => bd (α := Int32) (if (S42.1 22) = (-9) then ((1 : Int32) <<< (v34 &&& 31)) else 0) (fun (v44 : Int32) => (zwr (S42.2.1 15) 6 v37 (v43 ||| v44)).bind fun f46 => bd (mA S42 15 f46) (fun (S47 : MS) => (zwr (S47.2.1 13) 16 (2 * (S47.1 17)) v34).bind fun f48 => bd (mA S47 13 f48) (fun (S49 : MS) => (zwr (S49.2.1 13) 16 ((2 * (S49.1 17)) + 1) v37).bind fun f50 => bd (mA S49 13 f50) (fun (S51 : MS) => bd (sI S51 17 ((S51.1 17) + 1)) (fun (S52 : MS) => some S52)))))))) else f7_readPart_j214 x1 S1
def f7_readPart (S : MS) (x1 : Int32) : Option (MS) := if x1 = 74 then if 6 ≤ (S.1 16) then f7_readPart_j74 x1 S else bd (sI S 21 ((S.1 21) + 1)) (fun (S55 : MS) => (f7_figureOf S55 1023).bind fun (v57, S56) => (zwr (S56.2.1 12) 12 (2 * (S55.1 16)) v57).bind fun f58 => bd (mA S56 12 f58) (fun (S59 : MS) => (f7_figureOf S59 3).bind fun (v61, S60) => (zwr (S60.2.1 12) 12 ((2 * (S59.1 16)) + 1) v61).bind fun f62 => bd (mA S60 12 f62) (fun (S63 : MS) => bd (sI S63 16 ((S63.1 16) + 1)) (fun (S64 : MS) => some S64)))) else f7_readPart_j74 x1 S
abbrev rmX7_readPart : Room := { frames := 2, cells := 0, slots := 0, locals := 47 }
set_option maxHeartbeats 4000000 in
set_option maxRecDepth 100000 in
theorem c7_readPart (l : Launch) (g : zG) (q : Nat → Nat) (S : MS) (x1 : Int32) (S_o : MS) (hF : f7_readPart S x1 = some S_o) : zRW l g yX7_readPart wsX7_readPart rmX7_readPart [.ref (q 0), .int x1] (MW g q S) none (MW g q S_o) := by
  refine zRW_of (cc := cX7_readPart) (maxL := 4) (ret := none) (by decide) rfl (Nat.le_of_ble_eq_true rfl) ?_
  intro p e s m args below meth c A H locs ls hx hb hr hml hts hown hlk hK hA hP hD hS hl
  have hown : s.vm.findClass RX7 = some m.cls := hown
  have hl : lv_has ls 4 [(0, .ref (q 0)), (1, .int x1)] := hl
  have inX7 : ∀ w ∈ wsX70, w ∈ wsX7_readPart := fun _ h => List.mem_cons_of_mem _ (List.mem_append_right _ h)
  unfold f7_readPart at hF
  refine lv_iload_n hx hb dX7_readPart_0 rfl (lv_at hl 1 rfl) ?_
  refine lv_bipush (v := 74) hx hb dX7_readPart_1 (by decide) ?_
  have L74 : ∀ (S1 : MS) (H : Heap) (locs : List Loc) (ls : Array Slot), f7_readPart_j74 x1 S1 = some S_o → va_P (zD g) vwCl (MW g q S1) H → va_D A (MW g q S1) → va_S A s.heap H locs → lv_has ls 4 [(0, .ref (q 0)), (1, .int x1)] → W p l e (headSpec wsX7_readPart rmX7_readPart).room s m args below meth c H locs 0 0 (MQ below (zWQ g A (MW g q S_o) none) args s 0 0 A) (F0 m 74 ls []) := by
    intro S1 H locs ls hF hP hD hS hl
    unfold f7_readPart_j74 at hF
    refine lv_iload_n hx hb dX7_readPart_74 rfl (lv_at hl 1 rfl) ?_
    refine lv_bipush (v := 80) hx hb dX7_readPart_75 (by decide) ?_
    have L214 : ∀ (S2 : MS) (H : Heap) (locs : List Loc) (ls : Array Slot), f7_readPart_j214 x1 S2 = some S_o → va_P (zD g) vwCl (MW g q S2) H → va_D A (MW g q S2) → va_S A s.heap H locs → lv_has ls 4 [(0, .ref (q 0)), (1, .int x1)] → W p l e (headSpec wsX7_readPart rmX7_readPart).room s m args below meth c H locs 0 0 (MQ below (zWQ g A (MW g q S_o) none) args s 0 0 A) (F0 m 214 ls []) := by
      intro S2 H locs ls hF hP hD hS hl
      unfold f7_readPart_j214 at hF
      refine lv_iload_n hx hb dX7_readPart_214 rfl (lv_at hl 1 rfl) ?_
      refine lv_bipush (v := 87) hx hb dX7_readPart_215 (by decide) ?_
      refine lv_icmp_ne (tgt := 345) hx hb dX7_readPart_217 (by decide) (fun c3 => ?_) (fun c3 => ?_)
      · have hF := zif c3 hF
        refine lv_aload_n hx hb dX7_readPart_345 rfl (lv_at hl 0 rfl) ?_
        refine lv_aload_n hx hb dX7_readPart_346 rfl (lv_at hl 0 rfl) ?_
        refine z_get (ci := 7) (v := .int (S2.1 21)) (C := RX7) (T := TX7) (N := 37) hx hb hts inX7 hown hK hP 0 rfl rfl 21 (by decide) (List.mem_of_getElem? (i := 2) rfl) rfl rfl dX7_readPart_347 ?_
        refine z_put (ci := 7) (v := .int (S2.1 21)) (C := RX7) (T := TX7) (N := 37) (ws' := MW g q (sI S2 22 (S2.1 21))) hx hb hts inX7 tyX7 tyX7_ok nmX7 hown hK hP hD hS 0 rfl rfl 22 (by decide) (List.mem_of_getElem? (i := 6) rfl) rfl rfl rfl rfl (Nat.le_of_ble_eq_true rfl) rfl dX7_readPart_350 (fun H locs hP hD hS => ?_)
        obtain ⟨S4, eS4⟩ : ∃ y : MS, y = (sI S2 22 (S2.1 21)) := ⟨_, rfl⟩
        rw [← eS4] at hP hD
        have hF := bd_eq eS4 hF
        have e9b := zin hF
        exact z_wv hx hb hr hlk hP hD hS (by rw [e9b]) dX7_readPart_353
      · have hF := zit c3 hF
        refine lv_aload_n hx hb dX7_readPart_220 rfl (lv_at hl 0 rfl) ?_
        refine z_get (ci := 7) (v := .int (S2.1 18)) (C := RX7) (T := TX7) (N := 37) hx hb hts inX7 hown hK hP 0 rfl rfl 18 (by decide) (List.mem_of_getElem? (i := 8) rfl) rfl rfl dX7_readPart_221 ?_
        refine lv_iconst (v := 4) hx hb dX7_readPart_224 (by decide) ?_
        refine lv_icmp_ge (tgt := 345) hx hb dX7_readPart_225 (by decide) (fun c5 => ?_) (fun c5 => ?_)
        · have hF := zit c5 hF
          refine lv_aload_n hx hb dX7_readPart_345 rfl (lv_at hl 0 rfl) ?_
          refine lv_aload_n hx hb dX7_readPart_346 rfl (lv_at hl 0 rfl) ?_
          refine z_get (ci := 7) (v := .int (S2.1 21)) (C := RX7) (T := TX7) (N := 37) hx hb hts inX7 hown hK hP 0 rfl rfl 21 (by decide) (List.mem_of_getElem? (i := 2) rfl) rfl rfl dX7_readPart_347 ?_
          refine z_put (ci := 7) (v := .int (S2.1 21)) (C := RX7) (T := TX7) (N := 37) (ws' := MW g q (sI S2 22 (S2.1 21))) hx hb hts inX7 tyX7 tyX7_ok nmX7 hown hK hP hD hS 0 rfl rfl 22 (by decide) (List.mem_of_getElem? (i := 6) rfl) rfl rfl rfl rfl (Nat.le_of_ble_eq_true rfl) rfl dX7_readPart_350 (fun H locs hP hD hS => ?_)
          obtain ⟨S6, eS6⟩ : ∃ y : MS, y = (sI S2 22 (S2.1 21)) := ⟨_, rfl⟩
          rw [← eS6] at hP hD
          have hF := bd_eq eS6 hF
          have e9b := zin hF
          exact z_wv hx hb hr hlk hP hD hS (by rw [e9b]) dX7_readPart_353
        · have hF := zif c5 hF
          refine lv_aload_n hx hb dX7_readPart_228 rfl (lv_at hl 0 rfl) ?_
          refine z_get (ci := 7) (v := .int (S2.1 16)) (C := RX7) (T := TX7) (N := 37) hx hb hts inX7 hown hK hP 0 rfl rfl 16 (by decide) (List.mem_of_getElem? (i := 1) rfl) rfl rfl dX7_readPart_229 ?_
          refine lv_if_le (tgt := 345) hx hb dX7_readPart_232 (by decide) (fun c7 => ?_) (fun c7 => ?_)
          · have hF := zit c7 hF
            refine lv_aload_n hx hb dX7_readPart_345 rfl (lv_at hl 0 rfl) ?_
            refine lv_aload_n hx hb dX7_readPart_346 rfl (lv_at hl 0 rfl) ?_
            refine z_get (ci := 7) (v := .int (S2.1 21)) (C := RX7) (T := TX7) (N := 37) hx hb hts inX7 hown hK hP 0 rfl rfl 21 (by decide) (List.mem_of_getElem? (i := 2) rfl) rfl rfl dX7_readPart_347 ?_
            refine z_put (ci := 7) (v := .int (S2.1 21)) (C := RX7) (T := TX7) (N := 37) (ws' := MW g q (sI S2 22 (S2.1 21))) hx hb hts inX7 tyX7 tyX7_ok nmX7 hown hK hP hD hS 0 rfl rfl 22 (by decide) (List.mem_of_getElem? (i := 6) rfl) rfl rfl rfl rfl (Nat.le_of_ble_eq_true rfl) rfl dX7_readPart_350 (fun H locs hP hD hS => ?_)
            obtain ⟨S8, eS8⟩ : ∃ y : MS, y = (sI S2 22 (S2.1 21)) := ⟨_, rfl⟩
            rw [← eS8] at hP hD
            have hF := bd_eq eS8 hF
            have e9b := zin hF
            exact z_wv hx hb hr hlk hP hD hS (by rw [e9b]) dX7_readPart_353
          · have hF := zif c7 hF
            refine lv_aload_n hx hb dX7_readPart_235 rfl (lv_at hl 0 rfl) ?_
            refine lv_dup hx hb dX7_readPart_236 rfl ?_
            refine z_get (ci := 7) (v := .int (S2.1 21)) (C := RX7) (T := TX7) (N := 37) hx hb hts inX7 hown hK hP 0 rfl rfl 21 (by decide) (List.mem_of_getElem? (i := 2) rfl) rfl rfl dX7_readPart_237 ?_
            refine lv_iconst (v := 1) hx hb dX7_readPart_240 (by decide) ?_
            refine lv_iadd hx hb dX7_readPart_241 ?_
            refine z_put (ci := 7) (v := .int ((S2.1 21) + 1)) (C := RX7) (T := TX7) (N := 37) (ws' := MW g q (sI S2 21 ((S2.1 21) + 1))) hx hb hts inX7 tyX7 tyX7_ok nmX7 hown hK hP hD hS 0 rfl rfl 21 (by decide) (List.mem_of_getElem? (i := 2) rfl) rfl rfl rfl rfl (Nat.le_of_ble_eq_true rfl) rfl dX7_readPart_242 (fun H locs hP hD hS => ?_)
            obtain ⟨S9, eS9⟩ : ∃ y : MS, y = (sI S2 21 ((S2.1 21) + 1)) := ⟨_, rfl⟩
            rw [← eS9] at hP hD
            have hF := bd_eq eS9 hF
            refine lv_aload_n hx hb dX7_readPart_245 rfl (lv_at hl 0 rfl) ?_
            refine z_get (ci := 7) (v := .ref (q 10)) (C := RX7) (T := TX7) (N := 37) hx hb hts inX7 hown hK hP 0 rfl rfl 14 (by decide) (List.mem_of_getElem? (i := 9) rfl) rfl rfl dX7_readPart_246 ?_
            refine lv_iconst (v := 4) hx hb dX7_readPart_249 (by decide) ?_
            refine lv_aload_n hx hb dX7_readPart_250 rfl (lv_at hl 0 rfl) ?_
            refine z_get (ci := 7) (v := .int (S9.1 18)) (C := RX7) (T := TX7) (N := 37) hx hb hts inX7 hown hK hP 0 rfl rfl 18 (by decide) (List.mem_of_getElem? (i := 8) rfl) rfl rfl dX7_readPart_251 ?_
            refine lv_imul hx hb dX7_readPart_254 ?_
            refine lv_aload_n hx hb dX7_readPart_255 rfl (lv_at hl 0 rfl) ?_
            refine lv_iconst (v := 1) hx hb dX7_readPart_256 (by decide) ?_
            refine lv_aload_n hx hb dX7_readPart_257 rfl (lv_at hl 0 rfl) ?_
            refine z_get (ci := 7) (v := .int (S9.1 16)) (C := RX7) (T := TX7) (N := 37) hx hb hts inX7 hown hK hP 0 rfl rfl 16 (by decide) (List.mem_of_getElem? (i := 1) rfl) rfl rfl dX7_readPart_258 ?_
            refine lv_ishl hx hb dX7_readPart_261 ?_
            refine lv_iconst (v := 1) hx hb dX7_readPart_262 (by decide) ?_
            refine lv_isub hx hb dX7_readPart_263 ?_
            obtain ⟨⟨v11, S10⟩, hS10, hF⟩ := zob hF
            refine z_wgoW (va_runV (As := [.int (((1 : Int32) <<< ((S9.1 16) &&& 31)) - 1)]) (rest := [.int (4 * (S9.1 18)), .ref (q 10)]) ⟨hx, hb, hml, hown, hts⟩ ((c7_figureOf l g q S9 (((1 : Int32) <<< ((S9.1 16) &&& 31)) - 1) v11  S10 hS10) H.size) (cwV 1 hts gX7_readPart_X7_figureOf rfl rfl rfl (by decide +kernel) ⟨Nat.le_of_ble_eq_true rfl, Nat.le_of_ble_eq_true rfl⟩) (z_wpreV (ci := 7) (q := (RX7, TX7, 37)) (q0 := 0) hP hK (z_any hD) rfl rfl) rfl rfl hl.1 rfl (lv_room (Nat.le_of_ble_eq_true rfl)) dX7_readPart_264 ⟨Nat.zero_le _, Nat.zero_le _⟩) hP hD hS hA (fun H locs hP hD hS => ?_)
            show W p l e (headSpec wsX7_readPart rmX7_readPart).room s m args below meth c H locs 0 0 (MQ below (zWQ g A (MW g q S_o) none) args s 0 0 A) (F0 m 267 ls [.int v11, .int (4 * (S9.1 18)), .ref (q 10)])
            obtain ⟨f12, hf12, hF⟩ := zob hF
            refine z_iast (ws' := MW g q (mA S10 14 f12)) hx hb hK hP hD hS 10 rfl hf12 rfl dX7_readPart_267 (fun H locs hP hD hS => ?_)
            obtain ⟨S13, eS13⟩ : ∃ y : MS, y = (mA S10 14 f12) := ⟨_, rfl⟩
            rw [← eS13] at hP hD
            have hF := bd_eq eS13 hF
            refine lv_aload_n hx hb dX7_readPart_268 rfl (lv_at hl 0 rfl) ?_
            refine z_get (ci := 7) (v := .ref (q 10)) (C := RX7) (T := TX7) (N := 37) hx hb hts inX7 hown hK hP 0 rfl rfl 14 (by decide) (List.mem_of_getElem? (i := 9) rfl) rfl rfl dX7_readPart_269 ?_
            refine lv_iconst (v := 4) hx hb dX7_readPart_272 (by decide) ?_
            refine lv_aload_n hx hb dX7_readPart_273 rfl (lv_at hl 0 rfl) ?_
            refine z_get (ci := 7) (v := .int (S13.1 18)) (C := RX7) (T := TX7) (N := 37) hx hb hts inX7 hown hK hP 0 rfl rfl 18 (by decide) (List.mem_of_getElem? (i := 8) rfl) rfl rfl dX7_readPart_274 ?_
            refine lv_imul hx hb dX7_readPart_277 ?_
            refine lv_iconst (v := 1) hx hb dX7_readPart_278 (by decide) ?_
            refine lv_iadd hx hb dX7_readPart_279 ?_
            refine lv_aload_n hx hb dX7_readPart_280 rfl (lv_at hl 0 rfl) ?_
            refine lv_sipush (v := 1022) hx hb dX7_readPart_281 (by decide) ?_
            obtain ⟨⟨v15, S14⟩, hS14, hF⟩ := zob hF
            refine z_wgoW (va_runV (As := [.int 1022]) (rest := [.int ((4 * (S13.1 18)) + 1), .ref (q 10)]) ⟨hx, hb, hml, hown, hts⟩ ((c7_figureOf l g q S13 1022 v15  S14 hS14) H.size) (cwV 1 hts gX7_readPart_X7_figureOf rfl rfl rfl (by decide +kernel) ⟨Nat.le_of_ble_eq_true rfl, Nat.le_of_ble_eq_true rfl⟩) (z_wpreV (ci := 7) (q := (RX7, TX7, 37)) (q0 := 0) hP hK (z_any hD) rfl rfl) rfl rfl hl.1 rfl (lv_room (Nat.le_of_ble_eq_true rfl)) dX7_readPart_284 ⟨Nat.zero_le _, Nat.zero_le _⟩) hP hD hS hA (fun H locs hP hD hS => ?_)
            show W p l e (headSpec wsX7_readPart rmX7_readPart).room s m args below meth c H locs 0 0 (MQ below (zWQ g A (MW g q S_o) none) args s 0 0 A) (F0 m 287 ls [.int v15, .int ((4 * (S13.1 18)) + 1), .ref (q 10)])
            obtain ⟨f16, hf16, hF⟩ := zob hF
            refine z_iast (ws' := MW g q (mA S14 14 f16)) hx hb hK hP hD hS 10 rfl hf16 rfl dX7_readPart_287 (fun H locs hP hD hS => ?_)
            obtain ⟨S17, eS17⟩ : ∃ y : MS, y = (mA S14 14 f16) := ⟨_, rfl⟩
            rw [← eS17] at hP hD
            have hF := bd_eq eS17 hF
            refine lv_aload_n hx hb dX7_readPart_288 rfl (lv_at hl 0 rfl) ?_
            refine z_get (ci := 7) (v := .ref (q 10)) (C := RX7) (T := TX7) (N := 37) hx hb hts inX7 hown hK hP 0 rfl rfl 14 (by decide) (List.mem_of_getElem? (i := 9) rfl) rfl rfl dX7_readPart_289 ?_
            refine lv_iconst (v := 4) hx hb dX7_readPart_292 (by decide) ?_
            refine lv_aload_n hx hb dX7_readPart_293 rfl (lv_at hl 0 rfl) ?_
            refine z_get (ci := 7) (v := .int (S17.1 18)) (C := RX7) (T := TX7) (N := 37) hx hb hts inX7 hown hK hP 0 rfl rfl 18 (by decide) (List.mem_of_getElem? (i := 8) rfl) rfl rfl dX7_readPart_294 ?_
            refine lv_imul hx hb dX7_readPart_297 ?_
            refine lv_iconst (v := 2) hx hb dX7_readPart_298 (by decide) ?_
            refine lv_iadd hx hb dX7_readPart_299 ?_
            refine lv_aload_n hx hb dX7_readPart_300 rfl (lv_at hl 0 rfl) ?_
            refine lv_bipush (v := 15) hx hb dX7_readPart_301 (by decide) ?_
            obtain ⟨⟨v19, S18⟩, hS18, hF⟩ := zob hF
            refine z_wgoW (va_runV (As := [.int 15]) (rest := [.int ((4 * (S17.1 18)) + 2), .ref (q 10)]) ⟨hx, hb, hml, hown, hts⟩ ((c7_figureOf l g q S17 15 v19  S18 hS18) H.size) (cwV 1 hts gX7_readPart_X7_figureOf rfl rfl rfl (by decide +kernel) ⟨Nat.le_of_ble_eq_true rfl, Nat.le_of_ble_eq_true rfl⟩) (z_wpreV (ci := 7) (q := (RX7, TX7, 37)) (q0 := 0) hP hK (z_any hD) rfl rfl) rfl rfl hl.1 rfl (lv_room (Nat.le_of_ble_eq_true rfl)) dX7_readPart_303 ⟨Nat.zero_le _, Nat.zero_le _⟩) hP hD hS hA (fun H locs hP hD hS => ?_)
            show W p l e (headSpec wsX7_readPart rmX7_readPart).room s m args below meth c H locs 0 0 (MQ below (zWQ g A (MW g q S_o) none) args s 0 0 A) (F0 m 306 ls [.int v19, .int ((4 * (S17.1 18)) + 2), .ref (q 10)])
            obtain ⟨f20, hf20, hF⟩ := zob hF
            refine z_iast (ws' := MW g q (mA S18 14 f20)) hx hb hK hP hD hS 10 rfl hf20 rfl dX7_readPart_306 (fun H locs hP hD hS => ?_)
            obtain ⟨S21, eS21⟩ : ∃ y : MS, y = (mA S18 14 f20) := ⟨_, rfl⟩
            rw [← eS21] at hP hD
            have hF := bd_eq eS21 hF
            refine lv_aload_n hx hb dX7_readPart_307 rfl (lv_at hl 0 rfl) ?_
            refine z_get (ci := 7) (v := .ref (q 10)) (C := RX7) (T := TX7) (N := 37) hx hb hts inX7 hown hK hP 0 rfl rfl 14 (by decide) (List.mem_of_getElem? (i := 9) rfl) rfl rfl dX7_readPart_308 ?_
            refine lv_iconst (v := 4) hx hb dX7_readPart_311 (by decide) ?_
            refine lv_aload_n hx hb dX7_readPart_312 rfl (lv_at hl 0 rfl) ?_
            refine z_get (ci := 7) (v := .int (S21.1 18)) (C := RX7) (T := TX7) (N := 37) hx hb hts inX7 hown hK hP 0 rfl rfl 18 (by decide) (List.mem_of_getElem? (i := 8) rfl) rfl rfl dX7_readPart_313 ?_
            refine lv_imul hx hb dX7_readPart_316 ?_
            refine lv_iconst (v := 3) hx hb dX7_readPart_317 (by decide) ?_
            refine lv_iadd hx hb dX7_readPart_318 ?_
            refine lv_aload_n hx hb dX7_readPart_319 rfl (lv_at hl 0 rfl) ?_
            refine lv_iconst (v := 1) hx hb dX7_readPart_320 (by decide) ?_
            refine lv_aload_n hx hb dX7_readPart_321 rfl (lv_at hl 0 rfl) ?_
            refine z_get (ci := 7) (v := .int (S21.1 16)) (C := RX7) (T := TX7) (N := 37) hx hb hts inX7 hown hK hP 0 rfl rfl 16 (by decide) (List.mem_of_getElem? (i := 1) rfl) rfl rfl dX7_readPart_322 ?_
            refine lv_ishl hx hb dX7_readPart_325 ?_
            refine lv_iconst (v := 1) hx hb dX7_readPart_326 (by decide) ?_
            refine lv_isub hx hb dX7_readPart_327 ?_
            obtain ⟨⟨v23, S22⟩, hS22, hF⟩ := zob hF
            refine z_wgoW (va_runV (As := [.int (((1 : Int32) <<< ((S21.1 16) &&& 31)) - 1)]) (rest := [.int ((4 * (S21.1 18)) + 3), .ref (q 10)]) ⟨hx, hb, hml, hown, hts⟩ ((c7_figureOf l g q S21 (((1 : Int32) <<< ((S21.1 16) &&& 31)) - 1) v23  S22 hS22) H.size) (cwV 1 hts gX7_readPart_X7_figureOf rfl rfl rfl (by decide +kernel) ⟨Nat.le_of_ble_eq_true rfl, Nat.le_of_ble_eq_true rfl⟩) (z_wpreV (ci := 7) (q := (RX7, TX7, 37)) (q0 := 0) hP hK (z_any hD) rfl rfl) rfl rfl hl.1 rfl (lv_room (Nat.le_of_ble_eq_true rfl)) dX7_readPart_328 ⟨Nat.zero_le _, Nat.zero_le _⟩) hP hD hS hA (fun H locs hP hD hS => ?_)
            show W p l e (headSpec wsX7_readPart rmX7_readPart).room s m args below meth c H locs 0 0 (MQ below (zWQ g A (MW g q S_o) none) args s 0 0 A) (F0 m 331 ls [.int v23, .int ((4 * (S21.1 18)) + 3), .ref (q 10)])
            obtain ⟨f24, hf24, hF⟩ := zob hF
            refine z_iast (ws' := MW g q (mA S22 14 f24)) hx hb hK hP hD hS 10 rfl hf24 rfl dX7_readPart_331 (fun H locs hP hD hS => ?_)
            obtain ⟨S25, eS25⟩ : ∃ y : MS, y = (mA S22 14 f24) := ⟨_, rfl⟩
            rw [← eS25] at hP hD
            have hF := bd_eq eS25 hF
            refine lv_aload_n hx hb dX7_readPart_332 rfl (lv_at hl 0 rfl) ?_
            refine lv_dup hx hb dX7_readPart_333 rfl ?_
            refine z_get (ci := 7) (v := .int (S25.1 18)) (C := RX7) (T := TX7) (N := 37) hx hb hts inX7 hown hK hP 0 rfl rfl 18 (by decide) (List.mem_of_getElem? (i := 8) rfl) rfl rfl dX7_readPart_334 ?_
            refine lv_iconst (v := 1) hx hb dX7_readPart_337 (by decide) ?_
            refine lv_iadd hx hb dX7_readPart_338 ?_
            refine z_put (ci := 7) (v := .int ((S25.1 18) + 1)) (C := RX7) (T := TX7) (N := 37) (ws' := MW g q (sI S25 18 ((S25.1 18) + 1))) hx hb hts inX7 tyX7 tyX7_ok nmX7 hown hK hP hD hS 0 rfl rfl 18 (by decide) (List.mem_of_getElem? (i := 8) rfl) rfl rfl rfl rfl (Nat.le_of_ble_eq_true rfl) rfl dX7_readPart_339 (fun H locs hP hD hS => ?_)
            obtain ⟨S26, eS26⟩ : ∃ y : MS, y = (sI S25 18 ((S25.1 18) + 1)) := ⟨_, rfl⟩
            rw [← eS26] at hP hD
            have hF := bd_eq eS26 hF
            refine lv_goto (tgt := 353) hx hb dX7_readPart_342 (by decide) ?_
            have e9b := zin hF
            exact z_wv hx hb hr hlk hP hD hS (by rw [e9b]) dX7_readPart_353
    refine lv_icmp_ne (tgt := 214) hx hb dX7_readPart_77 (by decide) (fun c27 => ?_) (fun c27 => ?_)
    · have hF := zif c27 hF
      exact L214 S1 H locs ls hF hP hD hS (lv_sub hl [0, 1] rfl)
    · have hF := zit c27 hF
      refine lv_aload_n hx hb dX7_readPart_80 rfl (lv_at hl 0 rfl) ?_
      refine z_get (ci := 7) (v := .int (S1.1 17)) (C := RX7) (T := TX7) (N := 37) hx hb hts inX7 hown hK hP 0 rfl rfl 17 (by decide) (List.mem_of_getElem? (i := 4) rfl) rfl rfl dX7_readPart_81 ?_
      refine lv_bipush (v := 8) hx hb dX7_readPart_84 (by decide) ?_
      refine lv_icmp_ge (tgt := 214) hx hb dX7_readPart_86 (by decide) (fun c28 => ?_) (fun c28 => ?_)
      · have hF := zit c28 hF
        exact L214 S1 H locs ls hF hP hD hS (lv_sub hl [0, 1] rfl)
      · have hF := zif c28 hF
        refine lv_aload_n hx hb dX7_readPart_89 rfl (lv_at hl 0 rfl) ?_
        obtain ⟨v29, hv29, hF⟩ := zob hF
        refine z_rgo (va_runV (As := []) (rest := []) ⟨hx, hb, hml, hown, hts⟩ (c7_firstsLeft l g q S1  v29 hv29) (cwV 0 hts gX7_readPart_X7_firstsLeft rfl rfl rfl (by decide +kernel) ⟨Nat.le_of_ble_eq_true rfl, Nat.le_of_ble_eq_true rfl⟩) (z_rpreV (ci := 7) (q := (RX7, TX7, 37)) (q0 := 0) hP hK rfl rfl) rfl rfl hl.1 rfl (lv_room (Nat.le_of_ble_eq_true rfl)) dX7_readPart_90 ⟨Nat.zero_le _, Nat.zero_le _⟩) ?_
        refine lv_if_eq (tgt := 214) hx hb dX7_readPart_93 (by decide) (fun c30 => ?_) (fun c30 => ?_)
        · have hF := zit c30 hF
          exact L214 S1 H locs ls hF hP hD hS (lv_sub hl [0, 1] rfl)
        · have hF := zif c30 hF
          refine lv_aload_n hx hb dX7_readPart_96 rfl (lv_at hl 0 rfl) ?_
          refine lv_dup hx hb dX7_readPart_97 rfl ?_
          refine z_get (ci := 7) (v := .int (S1.1 21)) (C := RX7) (T := TX7) (N := 37) hx hb hts inX7 hown hK hP 0 rfl rfl 21 (by decide) (List.mem_of_getElem? (i := 2) rfl) rfl rfl dX7_readPart_98 ?_
          refine lv_iconst (v := 1) hx hb dX7_readPart_101 (by decide) ?_
          refine lv_iadd hx hb dX7_readPart_102 ?_
          refine z_put (ci := 7) (v := .int ((S1.1 21) + 1)) (C := RX7) (T := TX7) (N := 37) (ws' := MW g q (sI S1 21 ((S1.1 21) + 1))) hx hb hts inX7 tyX7 tyX7_ok nmX7 hown hK hP hD hS 0 rfl rfl 21 (by decide) (List.mem_of_getElem? (i := 2) rfl) rfl rfl rfl rfl (Nat.le_of_ble_eq_true rfl) rfl dX7_readPart_103 (fun H locs hP hD hS => ?_)
          obtain ⟨S31, eS31⟩ : ∃ y : MS, y = (sI S1 21 ((S1.1 21) + 1)) := ⟨_, rfl⟩
          rw [← eS31] at hP hD
          have hF := bd_eq eS31 hF
          refine lv_aload_n hx hb dX7_readPart_106 rfl (lv_at hl 0 rfl) ?_
          refine lv_aload_n hx hb dX7_readPart_107 rfl (lv_at hl 0 rfl) ?_
          obtain ⟨v32, hv32, hF⟩ := zob hF
          refine z_rgo (va_runV (As := []) (rest := [.ref (q 0)]) ⟨hx, hb, hml, hown, hts⟩ (c7_firstsLeft l g q S31  v32 hv32) (cwV 0 hts gX7_readPart_X7_firstsLeft rfl rfl rfl (by decide +kernel) ⟨Nat.le_of_ble_eq_true rfl, Nat.le_of_ble_eq_true rfl⟩) (z_rpreV (ci := 7) (q := (RX7, TX7, 37)) (q0 := 0) hP hK rfl rfl) rfl rfl hl.1 rfl (lv_room (Nat.le_of_ble_eq_true rfl)) dX7_readPart_108 ⟨Nat.zero_le _, Nat.zero_le _⟩) ?_
          obtain ⟨⟨v34, S33⟩, hS33, hF⟩ := zob hF
          refine z_wgoW (va_runV (As := [.int v32]) (rest := []) ⟨hx, hb, hml, hown, hts⟩ ((c7_figureOf l g q S31 v32 v34  S33 hS33) H.size) (cwV 1 hts gX7_readPart_X7_figureOf rfl rfl rfl (by decide +kernel) ⟨Nat.le_of_ble_eq_true rfl, Nat.le_of_ble_eq_true rfl⟩) (z_wpreV (ci := 7) (q := (RX7, TX7, 37)) (q0 := 0) hP hK (z_any hD) rfl rfl) rfl rfl hl.1 rfl (lv_room (Nat.le_of_ble_eq_true rfl)) dX7_readPart_111 ⟨Nat.zero_le _, Nat.zero_le _⟩) hP hD hS hA (fun H locs hP hD hS => ?_)
          show W p l e (headSpec wsX7_readPart rmX7_readPart).room s m args below meth c H locs 0 0 (MQ below (zWQ g A (MW g q S_o) none) args s 0 0 A) (F0 m 114 ls [.int v34])
          refine lv_istore_n (lv' := [(2, .int v34), (0, .ref (q 0)), (1, .int x1)]) hx hb dX7_readPart_114 rfl hl (by decide) rfl (fun ls hl => ?_)
          refine lv_aload_n hx hb dX7_readPart_115 rfl (lv_at hl 1 rfl) ?_
          refine lv_aload_n hx hb dX7_readPart_116 rfl (lv_at hl 1 rfl) ?_
          refine lv_iload_n hx hb dX7_readPart_117 rfl (lv_at hl 0 rfl) ?_
          obtain ⟨v35, hv35, hF⟩ := zob hF
          refine z_rgo (va_runV (As := [.int v34]) (rest := [.ref (q 0)]) ⟨hx, hb, hml, hown, hts⟩ (c7_left l g q S33 v34 v35 hv35) (cwV 1 hts gX7_readPart_X7_left rfl rfl rfl (by decide +kernel) ⟨Nat.le_of_ble_eq_true rfl, Nat.le_of_ble_eq_true rfl⟩) (z_rpreV (ci := 7) (q := (RX7, TX7, 37)) (q0 := 0) hP hK rfl rfl) rfl rfl hl.1 rfl (lv_room (Nat.le_of_ble_eq_true rfl)) dX7_readPart_118 ⟨Nat.zero_le _, Nat.zero_le _⟩) ?_
          obtain ⟨⟨v37, S36⟩, hS36, hF⟩ := zob hF
          refine z_wgoW (va_runV (As := [.int v35]) (rest := []) ⟨hx, hb, hml, hown, hts⟩ ((c7_figureOf l g q S33 v35 v37  S36 hS36) H.size) (cwV 1 hts gX7_readPart_X7_figureOf rfl rfl rfl (by decide +kernel) ⟨Nat.le_of_ble_eq_true rfl, Nat.le_of_ble_eq_true rfl⟩) (z_wpreV (ci := 7) (q := (RX7, TX7, 37)) (q0 := 0) hP hK (z_any hD) rfl rfl) rfl rfl hl.1 rfl (lv_room (Nat.le_of_ble_eq_true rfl)) dX7_readPart_121 ⟨Nat.zero_le _, Nat.zero_le _⟩) hP hD hS hA (fun H locs hP hD hS => ?_)
          show W p l e (headSpec wsX7_readPart rmX7_readPart).room s m args below meth c H locs 0 0 (MQ below (zWQ g A (MW g q S_o) none) args s 0 0 A) (F0 m 124 ls [.int v37])
          refine lv_istore_n (lv' := [(3, .int v37), (2, .int v34), (0, .ref (q 0)), (1, .int x1)]) hx hb dX7_readPart_124 rfl hl (by decide) rfl (fun ls hl => ?_)
          refine lv_aload_n hx hb dX7_readPart_125 rfl (lv_at hl 2 rfl) ?_
          refine z_get (ci := 7) (v := .ref (q 11)) (C := RX7) (T := TX7) (N := 37) hx hb hts inX7 hown hK hP 0 rfl rfl 15 (by decide) (List.mem_of_getElem? (i := 5) rfl) rfl rfl dX7_readPart_126 ?_
          refine lv_iload_n hx hb dX7_readPart_129 rfl (lv_at hl 1 rfl) ?_
          refine lv_dup2_11 hx hb dX7_readPart_130 rfl rfl ?_
          obtain ⟨v38, hv38, hF⟩ := zob hF
          refine z_iald hx hb hK hP 11 rfl hv38 dX7_readPart_131 ?_
          refine lv_aload_n hx hb dX7_readPart_132 rfl (lv_at hl 2 rfl) ?_
          refine z_get (ci := 7) (v := .int (S36.1 22)) (C := RX7) (T := TX7) (N := 37) hx hb hts inX7 hown hK hP 0 rfl rfl 22 (by decide) (List.mem_of_getElem? (i := 6) rfl) rfl rfl dX7_readPart_133 ?_
          refine lv_bipush (v := (-9)) hx hb dX7_readPart_136 (by decide) ?_
          obtain ⟨v39, hVv39⟩ : ∃ y : Int32, (if (S36.1 22) = (-9) then ((1 : Int32) <<< (v37 &&& 31)) else 0 : Int32) = y := ⟨_, rfl⟩
          have hF := bd_eq hVv39.symm hF
          have Jv39 : W p l e (headSpec wsX7_readPart rmX7_readPart).room s m args below meth c H locs 0 0 (MQ below (zWQ g A (MW g q S_o) none) args s 0 0 A) (F0 m 148 ls [.int v39, .int v38, .int v34, .ref (q 11)]) := by
            refine lv_ior hx hb dX7_readPart_148 ?_
            obtain ⟨f41, hf41, hF⟩ := zob hF
            refine z_iast (ws' := MW g q (mA S36 15 f41)) hx hb hK hP hD hS 11 rfl hf41 rfl dX7_readPart_149 (fun H locs hP hD hS => ?_)
            obtain ⟨S42, eS42⟩ : ∃ y : MS, y = (mA S36 15 f41) := ⟨_, rfl⟩
            rw [← eS42] at hP hD
            have hF := bd_eq eS42 hF
            refine lv_aload_n hx hb dX7_readPart_150 rfl (lv_at hl 2 rfl) ?_
            refine z_get (ci := 7) (v := .ref (q 11)) (C := RX7) (T := TX7) (N := 37) hx hb hts inX7 hown hK hP 0 rfl rfl 15 (by decide) (List.mem_of_getElem? (i := 5) rfl) rfl rfl dX7_readPart_151 ?_
            refine lv_iload_n hx hb dX7_readPart_154 rfl (lv_at hl 0 rfl) ?_
            refine lv_dup2_11 hx hb dX7_readPart_155 rfl rfl ?_
            obtain ⟨v43, hv43, hF⟩ := zob hF
            refine z_iald hx hb hK hP 11 rfl hv43 dX7_readPart_156 ?_
            refine lv_aload_n hx hb dX7_readPart_157 rfl (lv_at hl 2 rfl) ?_
            refine z_get (ci := 7) (v := .int (S42.1 22)) (C := RX7) (T := TX7) (N := 37) hx hb hts inX7 hown hK hP 0 rfl rfl 22 (by decide) (List.mem_of_getElem? (i := 6) rfl) rfl rfl dX7_readPart_158 ?_
            refine lv_bipush (v := (-9)) hx hb dX7_readPart_161 (by decide) ?_
            obtain ⟨v44, hVv44⟩ : ∃ y : Int32, (if (S42.1 22) = (-9) then ((1 : Int32) <<< (v34 &&& 31)) else 0 : Int32) = y := ⟨_, rfl⟩
            have hF := bd_eq hVv44.symm hF
            have Jv44 : W p l e (headSpec wsX7_readPart rmX7_readPart).room s m args below meth c H locs 0 0 (MQ below (zWQ g A (MW g q S_o) none) args s 0 0 A) (F0 m 173 ls [.int v44, .int v43, .int v37, .ref (q 11)]) := by
              refine lv_ior hx hb dX7_readPart_173 ?_
              obtain ⟨f46, hf46, hF⟩ := zob hF
              refine z_iast (ws' := MW g q (mA S42 15 f46)) hx hb hK hP hD hS 11 rfl hf46 rfl dX7_readPart_174 (fun H locs hP hD hS => ?_)
              obtain ⟨S47, eS47⟩ : ∃ y : MS, y = (mA S42 15 f46) := ⟨_, rfl⟩
              rw [← eS47] at hP hD
              have hF := bd_eq eS47 hF
              refine lv_aload_n hx hb dX7_readPart_175 rfl (lv_at hl 2 rfl) ?_
              refine z_get (ci := 7) (v := .ref (q 9)) (C := RX7) (T := TX7) (N := 37) hx hb hts inX7 hown hK hP 0 rfl rfl 13 (by decide) (List.mem_of_getElem? (i := 7) rfl) rfl rfl dX7_readPart_176 ?_
              refine lv_iconst (v := 2) hx hb dX7_readPart_179 (by decide) ?_
              refine lv_aload_n hx hb dX7_readPart_180 rfl (lv_at hl 2 rfl) ?_
              refine z_get (ci := 7) (v := .int (S47.1 17)) (C := RX7) (T := TX7) (N := 37) hx hb hts inX7 hown hK hP 0 rfl rfl 17 (by decide) (List.mem_of_getElem? (i := 4) rfl) rfl rfl dX7_readPart_181 ?_
              refine lv_imul hx hb dX7_readPart_184 ?_
              refine lv_iload_n hx hb dX7_readPart_185 rfl (lv_at hl 1 rfl) ?_
              obtain ⟨f48, hf48, hF⟩ := zob hF
              refine z_iast (ws' := MW g q (mA S47 13 f48)) hx hb hK hP hD hS 9 rfl hf48 rfl dX7_readPart_186 (fun H locs hP hD hS => ?_)
              obtain ⟨S49, eS49⟩ : ∃ y : MS, y = (mA S47 13 f48) := ⟨_, rfl⟩
              rw [← eS49] at hP hD
              have hF := bd_eq eS49 hF
              refine lv_aload_n hx hb dX7_readPart_187 rfl (lv_at hl 2 rfl) ?_
              refine z_get (ci := 7) (v := .ref (q 9)) (C := RX7) (T := TX7) (N := 37) hx hb hts inX7 hown hK hP 0 rfl rfl 13 (by decide) (List.mem_of_getElem? (i := 7) rfl) rfl rfl dX7_readPart_188 ?_
              refine lv_iconst (v := 2) hx hb dX7_readPart_191 (by decide) ?_
              refine lv_aload_n hx hb dX7_readPart_192 rfl (lv_at hl 2 rfl) ?_
              refine z_get (ci := 7) (v := .int (S49.1 17)) (C := RX7) (T := TX7) (N := 37) hx hb hts inX7 hown hK hP 0 rfl rfl 17 (by decide) (List.mem_of_getElem? (i := 4) rfl) rfl rfl dX7_readPart_193 ?_
              refine lv_imul hx hb dX7_readPart_196 ?_
              refine lv_iconst (v := 1) hx hb dX7_readPart_197 (by decide) ?_
              refine lv_iadd hx hb dX7_readPart_198 ?_
              refine lv_iload_n hx hb dX7_readPart_199 rfl (lv_at hl 0 rfl) ?_
              obtain ⟨f50, hf50, hF⟩ := zob hF
              refine z_iast (ws' := MW g q (mA S49 13 f50)) hx hb hK hP hD hS 9 rfl hf50 rfl dX7_readPart_200 (fun H locs hP hD hS => ?_)
              obtain ⟨S51, eS51⟩ : ∃ y : MS, y = (mA S49 13 f50) := ⟨_, rfl⟩
              rw [← eS51] at hP hD
              have hF := bd_eq eS51 hF
              refine lv_aload_n hx hb dX7_readPart_201 rfl (lv_at hl 2 rfl) ?_
              refine lv_dup hx hb dX7_readPart_202 rfl ?_
              refine z_get (ci := 7) (v := .int (S51.1 17)) (C := RX7) (T := TX7) (N := 37) hx hb hts inX7 hown hK hP 0 rfl rfl 17 (by decide) (List.mem_of_getElem? (i := 4) rfl) rfl rfl dX7_readPart_203 ?_
              refine lv_iconst (v := 1) hx hb dX7_readPart_206 (by decide) ?_
              refine lv_iadd hx hb dX7_readPart_207 ?_
              refine z_put (ci := 7) (v := .int ((S51.1 17) + 1)) (C := RX7) (T := TX7) (N := 37) (ws' := MW g q (sI S51 17 ((S51.1 17) + 1))) hx hb hts inX7 tyX7 tyX7_ok nmX7 hown hK hP hD hS 0 rfl rfl 17 (by decide) (List.mem_of_getElem? (i := 4) rfl) rfl rfl rfl rfl (Nat.le_of_ble_eq_true rfl) rfl dX7_readPart_208 (fun H locs hP hD hS => ?_)
              obtain ⟨S52, eS52⟩ : ∃ y : MS, y = (sI S51 17 ((S51.1 17) + 1)) := ⟨_, rfl⟩
              rw [← eS52] at hP hD
              have hF := bd_eq eS52 hF
              refine lv_goto (tgt := 353) hx hb dX7_readPart_211 (by decide) ?_
              have e9b := zin hF
              exact z_wv hx hb hr hlk hP hD hS (by rw [e9b]) dX7_readPart_353
            refine lv_icmp_ne (tgt := 172) hx hb dX7_readPart_163 (by decide) (fun c45 => ?_) (fun c45 => ?_)
            · have hVv44 := zif c45 hVv44
              refine lv_iconst (v := 0) hx hb dX7_readPart_172 (by decide) ?_
              subst hVv44
              exact Jv44
            · have hVv44 := zit c45 hVv44
              refine lv_iconst (v := 1) hx hb dX7_readPart_166 (by decide) ?_
              refine lv_iload_n hx hb dX7_readPart_167 rfl (lv_at hl 1 rfl) ?_
              refine lv_ishl hx hb dX7_readPart_168 ?_
              refine lv_goto (tgt := 173) hx hb dX7_readPart_169 (by decide) ?_
              subst hVv44
              exact Jv44
          refine lv_icmp_ne (tgt := 147) hx hb dX7_readPart_138 (by decide) (fun c40 => ?_) (fun c40 => ?_)
          · have hVv39 := zif c40 hVv39
            refine lv_iconst (v := 0) hx hb dX7_readPart_147 (by decide) ?_
            subst hVv39
            exact Jv39
          · have hVv39 := zit c40 hVv39
            refine lv_iconst (v := 1) hx hb dX7_readPart_141 (by decide) ?_
            refine lv_iload_n hx hb dX7_readPart_142 rfl (lv_at hl 0 rfl) ?_
            refine lv_ishl hx hb dX7_readPart_143 ?_
            refine lv_goto (tgt := 148) hx hb dX7_readPart_144 (by decide) ?_
            subst hVv39
            exact Jv39
  refine lv_icmp_ne (tgt := 74) hx hb dX7_readPart_3 (by decide) (fun c53 => ?_) (fun c53 => ?_)
  · have hF := zif c53 hF
    exact L74 S H locs ls hF hP hD hS (lv_sub hl [0, 1] rfl)
  · have hF := zit c53 hF
    refine lv_aload_n hx hb dX7_readPart_6 rfl (lv_at hl 0 rfl) ?_
    refine z_get (ci := 7) (v := .int (S.1 16)) (C := RX7) (T := TX7) (N := 37) hx hb hts inX7 hown hK hP 0 rfl rfl 16 (by decide) (List.mem_of_getElem? (i := 1) rfl) rfl rfl dX7_readPart_7 ?_
    refine lv_bipush (v := 6) hx hb dX7_readPart_10 (by decide) ?_
    refine lv_icmp_ge (tgt := 74) hx hb dX7_readPart_12 (by decide) (fun c54 => ?_) (fun c54 => ?_)
    · have hF := zit c54 hF
      exact L74 S H locs ls hF hP hD hS (lv_sub hl [0, 1] rfl)
    · have hF := zif c54 hF
      refine lv_aload_n hx hb dX7_readPart_15 rfl (lv_at hl 0 rfl) ?_
      refine lv_dup hx hb dX7_readPart_16 rfl ?_
      refine z_get (ci := 7) (v := .int (S.1 21)) (C := RX7) (T := TX7) (N := 37) hx hb hts inX7 hown hK hP 0 rfl rfl 21 (by decide) (List.mem_of_getElem? (i := 2) rfl) rfl rfl dX7_readPart_17 ?_
      refine lv_iconst (v := 1) hx hb dX7_readPart_20 (by decide) ?_
      refine lv_iadd hx hb dX7_readPart_21 ?_
      refine z_put (ci := 7) (v := .int ((S.1 21) + 1)) (C := RX7) (T := TX7) (N := 37) (ws' := MW g q (sI S 21 ((S.1 21) + 1))) hx hb hts inX7 tyX7 tyX7_ok nmX7 hown hK hP hD hS 0 rfl rfl 21 (by decide) (List.mem_of_getElem? (i := 2) rfl) rfl rfl rfl rfl (Nat.le_of_ble_eq_true rfl) rfl dX7_readPart_22 (fun H locs hP hD hS => ?_)
      obtain ⟨S55, eS55⟩ : ∃ y : MS, y = (sI S 21 ((S.1 21) + 1)) := ⟨_, rfl⟩
      rw [← eS55] at hP hD
      have hF := bd_eq eS55 hF
      refine lv_aload_n hx hb dX7_readPart_25 rfl (lv_at hl 0 rfl) ?_
      refine z_get (ci := 7) (v := .ref (q 8)) (C := RX7) (T := TX7) (N := 37) hx hb hts inX7 hown hK hP 0 rfl rfl 12 (by decide) (List.mem_of_getElem? (i := 3) rfl) rfl rfl dX7_readPart_26 ?_
      refine lv_iconst (v := 2) hx hb dX7_readPart_29 (by decide) ?_
      refine lv_aload_n hx hb dX7_readPart_30 rfl (lv_at hl 0 rfl) ?_
      refine z_get (ci := 7) (v := .int (S55.1 16)) (C := RX7) (T := TX7) (N := 37) hx hb hts inX7 hown hK hP 0 rfl rfl 16 (by decide) (List.mem_of_getElem? (i := 1) rfl) rfl rfl dX7_readPart_31 ?_
      refine lv_imul hx hb dX7_readPart_34 ?_
      refine lv_aload_n hx hb dX7_readPart_35 rfl (lv_at hl 0 rfl) ?_
      refine lv_sipush (v := 1023) hx hb dX7_readPart_36 (by decide) ?_
      obtain ⟨⟨v57, S56⟩, hS56, hF⟩ := zob hF
      refine z_wgoW (va_runV (As := [.int 1023]) (rest := [.int (2 * (S55.1 16)), .ref (q 8)]) ⟨hx, hb, hml, hown, hts⟩ ((c7_figureOf l g q S55 1023 v57  S56 hS56) H.size) (cwV 1 hts gX7_readPart_X7_figureOf rfl rfl rfl (by decide +kernel) ⟨Nat.le_of_ble_eq_true rfl, Nat.le_of_ble_eq_true rfl⟩) (z_wpreV (ci := 7) (q := (RX7, TX7, 37)) (q0 := 0) hP hK (z_any hD) rfl rfl) rfl rfl hl.1 rfl (lv_room (Nat.le_of_ble_eq_true rfl)) dX7_readPart_39 ⟨Nat.zero_le _, Nat.zero_le _⟩) hP hD hS hA (fun H locs hP hD hS => ?_)
      show W p l e (headSpec wsX7_readPart rmX7_readPart).room s m args below meth c H locs 0 0 (MQ below (zWQ g A (MW g q S_o) none) args s 0 0 A) (F0 m 42 ls [.int v57, .int (2 * (S55.1 16)), .ref (q 8)])
      obtain ⟨f58, hf58, hF⟩ := zob hF
      refine z_iast (ws' := MW g q (mA S56 12 f58)) hx hb hK hP hD hS 8 rfl hf58 rfl dX7_readPart_42 (fun H locs hP hD hS => ?_)
      obtain ⟨S59, eS59⟩ : ∃ y : MS, y = (mA S56 12 f58) := ⟨_, rfl⟩
      rw [← eS59] at hP hD
      have hF := bd_eq eS59 hF
      refine lv_aload_n hx hb dX7_readPart_43 rfl (lv_at hl 0 rfl) ?_
      refine z_get (ci := 7) (v := .ref (q 8)) (C := RX7) (T := TX7) (N := 37) hx hb hts inX7 hown hK hP 0 rfl rfl 12 (by decide) (List.mem_of_getElem? (i := 3) rfl) rfl rfl dX7_readPart_44 ?_
      refine lv_iconst (v := 2) hx hb dX7_readPart_47 (by decide) ?_
      refine lv_aload_n hx hb dX7_readPart_48 rfl (lv_at hl 0 rfl) ?_
      refine z_get (ci := 7) (v := .int (S59.1 16)) (C := RX7) (T := TX7) (N := 37) hx hb hts inX7 hown hK hP 0 rfl rfl 16 (by decide) (List.mem_of_getElem? (i := 1) rfl) rfl rfl dX7_readPart_49 ?_
      refine lv_imul hx hb dX7_readPart_52 ?_
      refine lv_iconst (v := 1) hx hb dX7_readPart_53 (by decide) ?_
      refine lv_iadd hx hb dX7_readPart_54 ?_
      refine lv_aload_n hx hb dX7_readPart_55 rfl (lv_at hl 0 rfl) ?_
      refine lv_iconst (v := 3) hx hb dX7_readPart_56 (by decide) ?_
      obtain ⟨⟨v61, S60⟩, hS60, hF⟩ := zob hF
      refine z_wgoW (va_runV (As := [.int 3]) (rest := [.int ((2 * (S59.1 16)) + 1), .ref (q 8)]) ⟨hx, hb, hml, hown, hts⟩ ((c7_figureOf l g q S59 3 v61  S60 hS60) H.size) (cwV 1 hts gX7_readPart_X7_figureOf rfl rfl rfl (by decide +kernel) ⟨Nat.le_of_ble_eq_true rfl, Nat.le_of_ble_eq_true rfl⟩) (z_wpreV (ci := 7) (q := (RX7, TX7, 37)) (q0 := 0) hP hK (z_any hD) rfl rfl) rfl rfl hl.1 rfl (lv_room (Nat.le_of_ble_eq_true rfl)) dX7_readPart_57 ⟨Nat.zero_le _, Nat.zero_le _⟩) hP hD hS hA (fun H locs hP hD hS => ?_)
      show W p l e (headSpec wsX7_readPart rmX7_readPart).room s m args below meth c H locs 0 0 (MQ below (zWQ g A (MW g q S_o) none) args s 0 0 A) (F0 m 60 ls [.int v61, .int ((2 * (S59.1 16)) + 1), .ref (q 8)])
      obtain ⟨f62, hf62, hF⟩ := zob hF
      refine z_iast (ws' := MW g q (mA S60 12 f62)) hx hb hK hP hD hS 8 rfl hf62 rfl dX7_readPart_60 (fun H locs hP hD hS => ?_)
      obtain ⟨S63, eS63⟩ : ∃ y : MS, y = (mA S60 12 f62) := ⟨_, rfl⟩
      rw [← eS63] at hP hD
      have hF := bd_eq eS63 hF
      refine lv_aload_n hx hb dX7_readPart_61 rfl (lv_at hl 0 rfl) ?_
      refine lv_dup hx hb dX7_readPart_62 rfl ?_
      refine z_get (ci := 7) (v := .int (S63.1 16)) (C := RX7) (T := TX7) (N := 37) hx hb hts inX7 hown hK hP 0 rfl rfl 16 (by decide) (List.mem_of_getElem? (i := 1) rfl) rfl rfl dX7_readPart_63 ?_
      refine lv_iconst (v := 1) hx hb dX7_readPart_66 (by decide) ?_
      refine lv_iadd hx hb dX7_readPart_67 ?_
      refine z_put (ci := 7) (v := .int ((S63.1 16) + 1)) (C := RX7) (T := TX7) (N := 37) (ws' := MW g q (sI S63 16 ((S63.1 16) + 1))) hx hb hts inX7 tyX7 tyX7_ok nmX7 hown hK hP hD hS 0 rfl rfl 16 (by decide) (List.mem_of_getElem? (i := 1) rfl) rfl rfl rfl rfl (Nat.le_of_ble_eq_true rfl) rfl dX7_readPart_68 (fun H locs hP hD hS => ?_)
      obtain ⟨S64, eS64⟩ : ∃ y : MS, y = (sI S63 16 ((S63.1 16) + 1)) := ⟨_, rfl⟩
      rw [← eS64] at hP hD
      have hF := bd_eq eS64 hF
      refine lv_goto (tgt := 353) hx hb dX7_readPart_71 (by decide) ?_
      have e9b := zin hF
      exact z_wv hx hb hr hlk hP hD hS (by rw [e9b]) dX7_readPart_353
def f7_readText_l88 : Nat → MS → Option (Int32 × MS)
  | 0, _ => none
  | n88 + 1, S17 => if (S17.1 22) = (-9) then if (S17.1 20) ≤ (S17.1 21) then some ((S17.1 22), S17) else (zrd (S17.2.1 19) 60 (S17.1 21)).bind fun v20 => (f7_readPart S17 v20).bind fun S21 => f7_readText_l88 n88 S21 else some ((S17.1 22), S17)
def f7_readText_l28 : Nat → Int32 → MS → Option (Int32 × MS)
  | 0, _, _ => none
  | n28 + 1, y6, S7 => if 6 ≤ y6 then if (S7.1 20) = 0 then some (0, S7) else (zrd (S7.2.1 19) 60 0).bind fun v10 => if v10 = 66 then bd (sI S7 21 1) (fun (S12 : MS) => (f7_figureOf S12 1023).bind fun (v14, S13) => (f7_figureOf S13 1023).bind fun (v16, S15) => f7_readText_l88 FU S15) else some (0, S7) else (zwr (S7.2.1 15) 6 y6 0).bind fun f22 => bd (mA S7 15 f22) (fun (S23 : MS) => f7_readText_l28 n28 (y6 + 1) S23)
def f7_readText (S : MS) : Option (Int32 × MS) := bd (sI S 21 0) (fun (S1 : MS) => bd (sI S1 22 (-9)) (fun (S2 : MS) => bd (sI S2 16 0) (fun (S3 : MS) => bd (sI S3 17 0) (fun (S4 : MS) => bd (sI S4 18 0) (fun (S5 : MS) => f7_readText_l28 FU 0 S5)))))
abbrev rmX7_readText : Room := { frames := 3, cells := 0, slots := 0, locals := 70 }
set_option maxHeartbeats 4000000 in
set_option maxRecDepth 100000 in
theorem c7_readText (l : Launch) (g : zG) (q : Nat → Nat) (S : MS) (ro : Int32) (S_o : MS) (hF : f7_readText S = some (ro, S_o)) : zRW l g yX7_readText wsX7_readText rmX7_readText [.ref (q 0)] (MW g q S) (some (.int ro)) (MW g q S_o) := by
  refine zRW_of (cc := cX7_readText) (maxL := 2) (ret := (some .int)) (by decide) rfl (Nat.le_of_ble_eq_true rfl) ?_
  intro p e s m args below meth c A H locs ls hx hb hr hml hts hown hlk hK hA hP hD hS hl
  have hown : s.vm.findClass RX7 = some m.cls := hown
  have hl : lv_has ls 2 [(0, .ref (q 0))] := hl
  have inX7 : ∀ w ∈ wsX70, w ∈ wsX7_readText := fun _ h => List.mem_cons_of_mem _ (List.mem_append_right _ h)
  unfold f7_readText at hF
  refine lv_aload_n hx hb dX7_readText_0 rfl (lv_at hl 0 rfl) ?_
  refine lv_iconst (v := 0) hx hb dX7_readText_1 (by decide) ?_
  refine z_put (ci := 7) (v := .int 0) (C := RX7) (T := TX7) (N := 37) (ws' := MW g q (sI S 21 0)) hx hb hts inX7 tyX7 tyX7_ok nmX7 hown hK hP hD hS 0 rfl rfl 21 (by decide) (List.mem_of_getElem? (i := 1) rfl) rfl rfl rfl rfl (Nat.le_of_ble_eq_true rfl) rfl dX7_readText_2 (fun H locs hP hD hS => ?_)
  obtain ⟨S1, eS1⟩ : ∃ y : MS, y = (sI S 21 0) := ⟨_, rfl⟩
  rw [← eS1] at hP hD
  have hF := bd_eq eS1 hF
  refine lv_aload_n hx hb dX7_readText_5 rfl (lv_at hl 0 rfl) ?_
  refine lv_bipush (v := (-9)) hx hb dX7_readText_6 (by decide) ?_
  refine z_put (ci := 7) (v := .int (-9)) (C := RX7) (T := TX7) (N := 37) (ws' := MW g q (sI S1 22 (-9))) hx hb hts inX7 tyX7 tyX7_ok nmX7 hown hK hP hD hS 0 rfl rfl 22 (by decide) (List.mem_of_getElem? (i := 2) rfl) rfl rfl rfl rfl (Nat.le_of_ble_eq_true rfl) rfl dX7_readText_8 (fun H locs hP hD hS => ?_)
  obtain ⟨S2, eS2⟩ : ∃ y : MS, y = (sI S1 22 (-9)) := ⟨_, rfl⟩
  rw [← eS2] at hP hD
  have hF := bd_eq eS2 hF
  refine lv_aload_n hx hb dX7_readText_11 rfl (lv_at hl 0 rfl) ?_
  refine lv_iconst (v := 0) hx hb dX7_readText_12 (by decide) ?_
  refine z_put (ci := 7) (v := .int 0) (C := RX7) (T := TX7) (N := 37) (ws' := MW g q (sI S2 16 0)) hx hb hts inX7 tyX7 tyX7_ok nmX7 hown hK hP hD hS 0 rfl rfl 16 (by decide) (List.mem_of_getElem? (i := 3) rfl) rfl rfl rfl rfl (Nat.le_of_ble_eq_true rfl) rfl dX7_readText_13 (fun H locs hP hD hS => ?_)
  obtain ⟨S3, eS3⟩ : ∃ y : MS, y = (sI S2 16 0) := ⟨_, rfl⟩
  rw [← eS3] at hP hD
  have hF := bd_eq eS3 hF
  refine lv_aload_n hx hb dX7_readText_16 rfl (lv_at hl 0 rfl) ?_
  refine lv_iconst (v := 0) hx hb dX7_readText_17 (by decide) ?_
  refine z_put (ci := 7) (v := .int 0) (C := RX7) (T := TX7) (N := 37) (ws' := MW g q (sI S3 17 0)) hx hb hts inX7 tyX7 tyX7_ok nmX7 hown hK hP hD hS 0 rfl rfl 17 (by decide) (List.mem_of_getElem? (i := 4) rfl) rfl rfl rfl rfl (Nat.le_of_ble_eq_true rfl) rfl dX7_readText_18 (fun H locs hP hD hS => ?_)
  obtain ⟨S4, eS4⟩ : ∃ y : MS, y = (sI S3 17 0) := ⟨_, rfl⟩
  rw [← eS4] at hP hD
  have hF := bd_eq eS4 hF
  refine lv_aload_n hx hb dX7_readText_21 rfl (lv_at hl 0 rfl) ?_
  refine lv_iconst (v := 0) hx hb dX7_readText_22 (by decide) ?_
  refine z_put (ci := 7) (v := .int 0) (C := RX7) (T := TX7) (N := 37) (ws' := MW g q (sI S4 18 0)) hx hb hts inX7 tyX7 tyX7_ok nmX7 hown hK hP hD hS 0 rfl rfl 18 (by decide) (List.mem_of_getElem? (i := 5) rfl) rfl rfl rfl rfl (Nat.le_of_ble_eq_true rfl) rfl dX7_readText_23 (fun H locs hP hD hS => ?_)
  obtain ⟨S5, eS5⟩ : ∃ y : MS, y = (sI S4 18 0) := ⟨_, rfl⟩
  rw [← eS5] at hP hD
  have hF := bd_eq eS5 hF
  refine lv_iconst (v := 0) hx hb dX7_readText_26 (by decide) ?_
  refine lv_istore_n (lv' := [(1, .int 0), (0, .ref (q 0))]) hx hb dX7_readText_27 rfl hl (by decide) rfl (fun ls hl => ?_)
  have L28 : ∀ (n28 : Nat) (y6 : Int32) (S7 : MS) (H : Heap) (locs : List Loc) (ls : Array Slot), f7_readText_l28 n28 y6 S7 = some (ro, S_o) → va_P (zD g) vwCl (MW g q S7) H → va_D A (MW g q S7) → va_S A s.heap H locs → lv_has ls 2 [(0, .ref (q 0)), (1, .int y6)] → W p l e (headSpec wsX7_readText rmX7_readText).room s m args below meth c H locs 0 0 (MQ below (zWQ g A (MW g q S_o) (some (.int ro))) args s 0 0 A) (F0 m 28 ls []) := by
    intro n28
    induction n28 with
    | zero =>
      intro y6 S7 H locs ls hF hP hD hS hl
      exact absurd (show (none : Option (Int32 × MS)) = some _ from hF) (fun h9 => by cases h9)
    | succ n28 ih28 =>
      intro y6 S7 H locs ls hF hP hD hS hl
      rw [f7_readText_l28] at hF
      refine lv_iload_n hx hb dX7_readText_28 rfl (lv_at hl 1 rfl) ?_
      refine lv_bipush (v := 6) hx hb dX7_readText_29 (by decide) ?_
      refine lv_icmp_ge (tgt := 47) hx hb dX7_readText_31 (by decide) (fun c8 => ?_) (fun c8 => ?_)
      · have hF := zit c8 hF
        refine lv_aload_n hx hb dX7_readText_47 rfl (lv_at hl 0 rfl) ?_
        refine z_get (ci := 7) (v := .int (S7.1 20)) (C := RX7) (T := TX7) (N := 37) hx hb hts inX7 hown hK hP 0 rfl rfl 20 (by decide) (List.mem_of_getElem? (i := 7) rfl) rfl rfl dX7_readText_48 ?_
        refine lv_if_eq (tgt := 65) hx hb dX7_readText_51 (by decide) (fun c9 => ?_) (fun c9 => ?_)
        · have hF := zit c9 hF
          refine lv_iconst (v := 0) hx hb dX7_readText_65 (by decide) ?_
          obtain ⟨e9a, e9b⟩ := Prod.mk.inj (zin hF)
          exact z_wi hx hb hr hlk hP hD hS (congrArg (fun z => some (Value.int z)) e9a) (by rw [e9b]) dX7_readText_66
        · have hF := zif c9 hF
          refine lv_aload_n hx hb dX7_readText_54 rfl (lv_at hl 0 rfl) ?_
          refine z_get (ci := 7) (v := .ref (q 12)) (C := RX7) (T := TX7) (N := 37) hx hb hts inX7 hown hK hP 0 rfl rfl 19 (by decide) (List.mem_of_getElem? (i := 8) rfl) rfl rfl dX7_readText_55 ?_
          refine lv_iconst (v := 0) hx hb dX7_readText_58 (by decide) ?_
          obtain ⟨v10, hv10, hF⟩ := zob hF
          refine z_iald hx hb hK hP 12 rfl hv10 dX7_readText_59 ?_
          refine lv_bipush (v := 66) hx hb dX7_readText_60 (by decide) ?_
          refine lv_icmp_eq (tgt := 67) hx hb dX7_readText_62 (by decide) (fun c11 => ?_) (fun c11 => ?_)
          · have hF := zit c11 hF
            refine lv_aload_n hx hb dX7_readText_67 rfl (lv_at hl 0 rfl) ?_
            refine lv_iconst (v := 1) hx hb dX7_readText_68 (by decide) ?_
            refine z_put (ci := 7) (v := .int 1) (C := RX7) (T := TX7) (N := 37) (ws' := MW g q (sI S7 21 1)) hx hb hts inX7 tyX7 tyX7_ok nmX7 hown hK hP hD hS 0 rfl rfl 21 (by decide) (List.mem_of_getElem? (i := 1) rfl) rfl rfl rfl rfl (Nat.le_of_ble_eq_true rfl) rfl dX7_readText_69 (fun H locs hP hD hS => ?_)
            obtain ⟨S12, eS12⟩ : ∃ y : MS, y = (sI S7 21 1) := ⟨_, rfl⟩
            rw [← eS12] at hP hD
            have hF := bd_eq eS12 hF
            refine lv_aload_n hx hb dX7_readText_72 rfl (lv_at hl 0 rfl) ?_
            refine lv_sipush (v := 1023) hx hb dX7_readText_73 (by decide) ?_
            obtain ⟨⟨v14, S13⟩, hS13, hF⟩ := zob hF
            refine z_wgoW (va_runV (As := [.int 1023]) (rest := []) ⟨hx, hb, hml, hown, hts⟩ ((c7_figureOf l g q S12 1023 v14  S13 hS13) H.size) (cwV 1 hts gX7_readText_X7_figureOf rfl rfl rfl (by decide +kernel) ⟨Nat.le_of_ble_eq_true rfl, Nat.le_of_ble_eq_true rfl⟩) (z_wpreV (ci := 7) (q := (RX7, TX7, 37)) (q0 := 0) hP hK (z_any hD) rfl rfl) rfl rfl hl.1 rfl (lv_room (Nat.le_of_ble_eq_true rfl)) dX7_readText_76 ⟨Nat.zero_le _, Nat.zero_le _⟩) hP hD hS hA (fun H locs hP hD hS => ?_)
            show W p l e (headSpec wsX7_readText rmX7_readText).room s m args below meth c H locs 0 0 (MQ below (zWQ g A (MW g q S_o) (some (.int ro))) args s 0 0 A) (F0 m 79 ls [.int v14])
            refine lv_pop hx hb dX7_readText_79 rfl ?_
            refine lv_aload_n hx hb dX7_readText_80 rfl (lv_at hl 0 rfl) ?_
            refine lv_sipush (v := 1023) hx hb dX7_readText_81 (by decide) ?_
            obtain ⟨⟨v16, S15⟩, hS15, hF⟩ := zob hF
            refine z_wgoW (va_runV (As := [.int 1023]) (rest := []) ⟨hx, hb, hml, hown, hts⟩ ((c7_figureOf l g q S13 1023 v16  S15 hS15) H.size) (cwV 1 hts gX7_readText_X7_figureOf rfl rfl rfl (by decide +kernel) ⟨Nat.le_of_ble_eq_true rfl, Nat.le_of_ble_eq_true rfl⟩) (z_wpreV (ci := 7) (q := (RX7, TX7, 37)) (q0 := 0) hP hK (z_any hD) rfl rfl) rfl rfl hl.1 rfl (lv_room (Nat.le_of_ble_eq_true rfl)) dX7_readText_84 ⟨Nat.zero_le _, Nat.zero_le _⟩) hP hD hS hA (fun H locs hP hD hS => ?_)
            show W p l e (headSpec wsX7_readText rmX7_readText).room s m args below meth c H locs 0 0 (MQ below (zWQ g A (MW g q S_o) (some (.int ro))) args s 0 0 A) (F0 m 87 ls [.int v16])
            refine lv_pop hx hb dX7_readText_87 rfl ?_
            have L88 : ∀ (n88 : Nat) (S17 : MS) (H : Heap) (locs : List Loc) (ls : Array Slot), f7_readText_l88 n88 S17 = some (ro, S_o) → va_P (zD g) vwCl (MW g q S17) H → va_D A (MW g q S17) → va_S A s.heap H locs → lv_has ls 2 [(0, .ref (q 0))] → W p l e (headSpec wsX7_readText rmX7_readText).room s m args below meth c H locs 0 0 (MQ below (zWQ g A (MW g q S_o) (some (.int ro))) args s 0 0 A) (F0 m 88 ls []) := by
              intro n88
              induction n88 with
              | zero =>
                intro S17 H locs ls hF hP hD hS hl
                exact absurd (show (none : Option (Int32 × MS)) = some _ from hF) (fun h9 => by cases h9)
              | succ n88 ih88 =>
                intro S17 H locs ls hF hP hD hS hl
                rw [f7_readText_l88] at hF
                refine lv_aload_n hx hb dX7_readText_88 rfl (lv_at hl 0 rfl) ?_
                refine z_get (ci := 7) (v := .int (S17.1 22)) (C := RX7) (T := TX7) (N := 37) hx hb hts inX7 hown hK hP 0 rfl rfl 22 (by decide) (List.mem_of_getElem? (i := 2) rfl) rfl rfl dX7_readText_89 ?_
                refine lv_bipush (v := (-9)) hx hb dX7_readText_92 (by decide) ?_
                refine lv_icmp_ne (tgt := 124) hx hb dX7_readText_94 (by decide) (fun c18 => ?_) (fun c18 => ?_)
                · have hF := zif c18 hF
                  refine lv_aload_n hx hb dX7_readText_124 rfl (lv_at hl 0 rfl) ?_
                  refine z_get (ci := 7) (v := .int (S17.1 22)) (C := RX7) (T := TX7) (N := 37) hx hb hts inX7 hown hK hP 0 rfl rfl 22 (by decide) (List.mem_of_getElem? (i := 2) rfl) rfl rfl dX7_readText_125 ?_
                  obtain ⟨e9a, e9b⟩ := Prod.mk.inj (zin hF)
                  exact z_wi hx hb hr hlk hP hD hS (congrArg (fun z => some (Value.int z)) e9a) (by rw [e9b]) dX7_readText_128
                · have hF := zit c18 hF
                  refine lv_aload_n hx hb dX7_readText_97 rfl (lv_at hl 0 rfl) ?_
                  refine z_get (ci := 7) (v := .int (S17.1 21)) (C := RX7) (T := TX7) (N := 37) hx hb hts inX7 hown hK hP 0 rfl rfl 21 (by decide) (List.mem_of_getElem? (i := 1) rfl) rfl rfl dX7_readText_98 ?_
                  refine lv_aload_n hx hb dX7_readText_101 rfl (lv_at hl 0 rfl) ?_
                  refine z_get (ci := 7) (v := .int (S17.1 20)) (C := RX7) (T := TX7) (N := 37) hx hb hts inX7 hown hK hP 0 rfl rfl 20 (by decide) (List.mem_of_getElem? (i := 7) rfl) rfl rfl dX7_readText_102 ?_
                  refine lv_icmp_ge (tgt := 124) hx hb dX7_readText_105 (by decide) (fun c19 => ?_) (fun c19 => ?_)
                  · have hF := zit c19 hF
                    refine lv_aload_n hx hb dX7_readText_124 rfl (lv_at hl 0 rfl) ?_
                    refine z_get (ci := 7) (v := .int (S17.1 22)) (C := RX7) (T := TX7) (N := 37) hx hb hts inX7 hown hK hP 0 rfl rfl 22 (by decide) (List.mem_of_getElem? (i := 2) rfl) rfl rfl dX7_readText_125 ?_
                    obtain ⟨e9a, e9b⟩ := Prod.mk.inj (zin hF)
                    exact z_wi hx hb hr hlk hP hD hS (congrArg (fun z => some (Value.int z)) e9a) (by rw [e9b]) dX7_readText_128
                  · have hF := zif c19 hF
                    refine lv_aload_n hx hb dX7_readText_108 rfl (lv_at hl 0 rfl) ?_
                    refine lv_aload_n hx hb dX7_readText_109 rfl (lv_at hl 0 rfl) ?_
                    refine z_get (ci := 7) (v := .ref (q 12)) (C := RX7) (T := TX7) (N := 37) hx hb hts inX7 hown hK hP 0 rfl rfl 19 (by decide) (List.mem_of_getElem? (i := 8) rfl) rfl rfl dX7_readText_110 ?_
                    refine lv_aload_n hx hb dX7_readText_113 rfl (lv_at hl 0 rfl) ?_
                    refine z_get (ci := 7) (v := .int (S17.1 21)) (C := RX7) (T := TX7) (N := 37) hx hb hts inX7 hown hK hP 0 rfl rfl 21 (by decide) (List.mem_of_getElem? (i := 1) rfl) rfl rfl dX7_readText_114 ?_
                    obtain ⟨v20, hv20, hF⟩ := zob hF
                    refine z_iald hx hb hK hP 12 rfl hv20 dX7_readText_117 ?_
                    obtain ⟨S21, hS21, hF⟩ := zob hF
                    refine z_wgoW (va_runV (As := [.int v20]) (rest := []) ⟨hx, hb, hml, hown, hts⟩ ((c7_readPart l g q S17 v20  S21 hS21) H.size) (cwV 1 hts gX7_readText_X7_readPart rfl rfl rfl (by decide +kernel) ⟨Nat.le_of_ble_eq_true rfl, Nat.le_of_ble_eq_true rfl⟩) (z_wpreV (ci := 7) (q := (RX7, TX7, 37)) (q0 := 0) hP hK (z_any hD) rfl rfl) rfl rfl hl.1 rfl (lv_room (Nat.le_of_ble_eq_true rfl)) dX7_readText_118 ⟨Nat.zero_le _, Nat.zero_le _⟩) hP hD hS hA (fun H locs hP hD hS => ?_)
                    show W p l e (headSpec wsX7_readText rmX7_readText).room s m args below meth c H locs 0 0 (MQ below (zWQ g A (MW g q S_o) (some (.int ro))) args s 0 0 A) (F0 m 121 ls [])
                    refine lv_goto (tgt := 88) hx hb dX7_readText_121 (by decide) ?_
                    exact ih88 S21 H locs ls hF hP hD hS (lv_sub hl [0] rfl)
            exact L88 FU S15 H locs ls hF hP hD hS (lv_sub hl [0] rfl)
          · have hF := zif c11 hF
            refine lv_iconst (v := 0) hx hb dX7_readText_65 (by decide) ?_
            obtain ⟨e9a, e9b⟩ := Prod.mk.inj (zin hF)
            exact z_wi hx hb hr hlk hP hD hS (congrArg (fun z => some (Value.int z)) e9a) (by rw [e9b]) dX7_readText_66
      · have hF := zif c8 hF
        refine lv_aload_n hx hb dX7_readText_34 rfl (lv_at hl 0 rfl) ?_
        refine z_get (ci := 7) (v := .ref (q 11)) (C := RX7) (T := TX7) (N := 37) hx hb hts inX7 hown hK hP 0 rfl rfl 15 (by decide) (List.mem_of_getElem? (i := 6) rfl) rfl rfl dX7_readText_35 ?_
        refine lv_iload_n hx hb dX7_readText_38 rfl (lv_at hl 1 rfl) ?_
        refine lv_iconst (v := 0) hx hb dX7_readText_39 (by decide) ?_
        obtain ⟨f22, hf22, hF⟩ := zob hF
        refine z_iast (ws' := MW g q (mA S7 15 f22)) hx hb hK hP hD hS 11 rfl hf22 rfl dX7_readText_40 (fun H locs hP hD hS => ?_)
        obtain ⟨S23, eS23⟩ : ∃ y : MS, y = (mA S7 15 f22) := ⟨_, rfl⟩
        rw [← eS23] at hP hD
        have hF := bd_eq eS23 hF
        refine lv_iinc (v := (y6 + 1)) (lv' := [(1, .int (y6 + 1)), (0, .ref (q 0))]) hx hb dX7_readText_41 hl (k := 1) rfl rfl (by decide) rfl (fun ls hl => ?_)
        refine lv_goto (tgt := 28) hx hb dX7_readText_44 (by decide) ?_
        exact ih28 (y6 + 1) S23 H locs ls hF hP hD hS (lv_sub hl [1, 0] rfl)
  exact L28 FU 0 S5 H locs ls hF hP hD hS (lv_sub hl [1, 0] rfl)
def f7_fault (S : MS) : Option (Int32 × MS) := (f7_readText S).bind fun (v2, S1) => some (v2, S1)
abbrev rmX7_fault : Room := { frames := 4, cells := 0, slots := 0, locals := 91 }
set_option maxHeartbeats 4000000 in
set_option maxRecDepth 100000 in
theorem c7_fault (l : Launch) (g : zG) (q : Nat → Nat) (S : MS) (ro : Int32) (S_o : MS) (hF : f7_fault S = some (ro, S_o)) : zRW l g yX7_fault wsX7_fault rmX7_fault [.ref (q 0)] (MW g q S) (some (.int ro)) (MW g q S_o) := by
  refine zRW_of (cc := cX7_fault) (maxL := 1) (ret := (some .int)) (by decide) rfl (Nat.le_of_ble_eq_true rfl) ?_
  intro p e s m args below meth c A H locs ls hx hb hr hml hts hown hlk hK hA hP hD hS hl
  have hown : s.vm.findClass RX7 = some m.cls := hown
  have hl : lv_has ls 1 [(0, .ref (q 0))] := hl
  unfold f7_fault at hF
  refine lv_aload_n hx hb dX7_fault_0 rfl (lv_at hl 0 rfl) ?_
  obtain ⟨⟨v2, S1⟩, hS1, hF⟩ := zob hF
  refine z_wgoW (va_runV (As := []) (rest := []) ⟨hx, hb, hml, hown, hts⟩ ((c7_readText l g q S  v2  S1 hS1) H.size) (cwV 0 hts gX7_fault_X7_readText rfl rfl rfl (by decide +kernel) ⟨Nat.le_of_ble_eq_true rfl, Nat.le_of_ble_eq_true rfl⟩) (z_wpreV (ci := 7) (q := (RX7, TX7, 37)) (q0 := 0) hP hK (z_any hD) rfl rfl) rfl rfl hl.1 rfl (lv_room (Nat.le_of_ble_eq_true rfl)) dX7_fault_1 ⟨Nat.zero_le _, Nat.zero_le _⟩) hP hD hS hA (fun H locs hP hD hS => ?_)
  show W p l e (headSpec wsX7_fault rmX7_fault).room s m args below meth c H locs 0 0 (MQ below (zWQ g A (MW g q S_o) (some (.int ro))) args s 0 0 A) (F0 m 4 ls [.int v2])
  obtain ⟨e9a, e9b⟩ := Prod.mk.inj (zin hF)
  exact z_wi hx hb hr hlk hP hD hS (congrArg (fun z => some (Value.int z)) e9a) (by rw [e9b]) dX7_fault_4
def f7_ones_l4 (x0 : Int32) : Nat → Int32 → Int32 → Option (Int32)
  | 0, _, _ => none
  | n4 + 1, y1, y2 => if 8 ≤ y2 then some y1 else bd (α := Int32) (y1 + ((x0 >>> (y2 &&& 31)) &&& 1)) (fun (v4 : Int32) => f7_ones_l4 x0 n4 v4 (y2 + 1))
def f7_ones (x0 : Int32) : Option (Int32) := f7_ones_l4 x0 FU 0 0
abbrev rmX7_ones : Room := { frames := 0, cells := 0, slots := 0, locals := 0 }
set_option maxHeartbeats 4000000 in
set_option maxRecDepth 100000 in
theorem c7_ones (l : Launch) (g : zG)  (x0 : Int32) (ro : Int32) (hF : f7_ones x0 = some ro) : zRO l g yX7_ones wsX7_ones rmX7_ones [.int x0] [] (some (.int ro)) := by
  refine zRO_of (cc := cX7_ones) (maxL := 3) (ret := (some .int)) (by decide) rfl (Nat.le_of_ble_eq_true rfl) ?_
  intro p e s m args below meth c ls hx hb hr hml hts hown hlk hK hP hl
  have hown : s.vm.findClass RX7 = some m.cls := hown
  have hl : lv_has ls 3 [(0, .int x0)] := hl
  unfold f7_ones at hF
  refine lv_iconst (v := 0) hx hb dX7_ones_0 (by decide) ?_
  refine lv_istore_n (lv' := [(1, .int 0), (0, .int x0)]) hx hb dX7_ones_1 rfl hl (by decide) rfl (fun ls hl => ?_)
  refine lv_iconst (v := 0) hx hb dX7_ones_2 (by decide) ?_
  refine lv_istore_n (lv' := [(2, .int 0), (1, .int 0), (0, .int x0)]) hx hb dX7_ones_3 rfl hl (by decide) rfl (fun ls hl => ?_)
  have L4 : ∀ (n4 : Nat) (y1 : Int32) (y2 : Int32) (ls : Array Slot), f7_ones_l4 x0 n4 y1 y2 = some ro → lv_has ls 3 [(0, .int x0), (1, .int y1), (2, .int y2)] → W p l e (headSpec wsX7_ones rmX7_ones).room s m args below meth c s.heap [] 0 0 (MQ below (zRQ (some (.int ro))) args s 0 0 (fun _ => False)) (F0 m 4 ls []) := by
    intro n4
    induction n4 with
    | zero =>
      intro y1 y2 ls hF hl
      exact absurd (show (none : Option (Int32)) = some _ from hF) (fun h9 => by cases h9)
    | succ n4 ih4 =>
      intro y1 y2 ls hF hl
      rw [f7_ones_l4] at hF
      refine lv_iload_n hx hb dX7_ones_4 rfl (lv_at hl 2 rfl) ?_
      refine lv_bipush (v := 8) hx hb dX7_ones_5 (by decide) ?_
      refine lv_icmp_ge (tgt := 24) hx hb dX7_ones_7 (by decide) (fun c3 => ?_) (fun c3 => ?_)
      · have hF := zit c3 hF
        refine lv_iload_n hx hb dX7_ones_24 rfl (lv_at hl 1 rfl) ?_
        have e9a := zin hF
        exact z_ri hx hb hr hlk (congrArg (fun z => some (Value.int z)) e9a) dX7_ones_25
      · have hF := zif c3 hF
        refine lv_iload_n hx hb dX7_ones_10 rfl (lv_at hl 1 rfl) ?_
        refine lv_iload_n hx hb dX7_ones_11 rfl (lv_at hl 0 rfl) ?_
        refine lv_iload_n hx hb dX7_ones_12 rfl (lv_at hl 2 rfl) ?_
        refine lv_ishr hx hb dX7_ones_13 ?_
        refine lv_iconst (v := 1) hx hb dX7_ones_14 (by decide) ?_
        refine lv_iand hx hb dX7_ones_15 ?_
        refine lv_iadd hx hb dX7_ones_16 ?_
        refine lv_topi (fun v4 ev4 => ?_)
        have hF := bd_eq ev4 hF
        refine lv_istore_n (lv' := [(1, .int v4), (0, .int x0), (2, .int y2)]) hx hb dX7_ones_17 rfl hl (by decide) rfl (fun ls hl => ?_)
        refine lv_iinc (v := (y2 + 1)) (lv' := [(2, .int (y2 + 1)), (1, .int v4), (0, .int x0)]) hx hb dX7_ones_18 hl (k := 2) rfl rfl (by decide) rfl (fun ls hl => ?_)
        refine lv_goto (tgt := 4) hx hb dX7_ones_21 (by decide) ?_
        exact ih4 v4 (y2 + 1) ls hF (lv_sub hl [2, 1, 0] rfl)
  exact L4 FU 0 0 ls hF (lv_sub hl [2, 1, 0] rfl)
def f7_power_l4 (x0 : Int32) (x1 : Int32) : Nat → Int32 → Int32 → Option (Int32)
  | 0, _, _ => none
  | n4 + 1, y1, y2 => if x1 ≤ y2 then some y1 else bd (α := Int32) (y1 * x0) (fun (v4 : Int32) => f7_power_l4 x0 x1 n4 v4 (y2 + 1))
def f7_power (x0 : Int32) (x1 : Int32) : Option (Int32) := f7_power_l4 x0 x1 FU 1 0
abbrev rmX7_power : Room := { frames := 0, cells := 0, slots := 0, locals := 0 }
set_option maxHeartbeats 4000000 in
set_option maxRecDepth 100000 in
theorem c7_power (l : Launch) (g : zG)  (x0 : Int32) (x1 : Int32) (ro : Int32) (hF : f7_power x0 x1 = some ro) : zRO l g yX7_power wsX7_power rmX7_power [.int x0, .int x1] [] (some (.int ro)) := by
  refine zRO_of (cc := cX7_power) (maxL := 4) (ret := (some .int)) (by decide) rfl (Nat.le_of_ble_eq_true rfl) ?_
  intro p e s m args below meth c ls hx hb hr hml hts hown hlk hK hP hl
  have hown : s.vm.findClass RX7 = some m.cls := hown
  have hl : lv_has ls 4 [(0, .int x0), (1, .int x1)] := hl
  unfold f7_power at hF
  refine lv_iconst (v := 1) hx hb dX7_power_0 (by decide) ?_
  refine lv_istore_n (lv' := [(2, .int 1), (0, .int x0), (1, .int x1)]) hx hb dX7_power_1 rfl hl (by decide) rfl (fun ls hl => ?_)
  refine lv_iconst (v := 0) hx hb dX7_power_2 (by decide) ?_
  refine lv_istore_n (lv' := [(3, .int 0), (2, .int 1), (0, .int x0), (1, .int x1)]) hx hb dX7_power_3 rfl hl (by decide) rfl (fun ls hl => ?_)
  have L4 : ∀ (n4 : Nat) (y1 : Int32) (y2 : Int32) (ls : Array Slot), f7_power_l4 x0 x1 n4 y1 y2 = some ro → lv_has ls 4 [(0, .int x0), (1, .int x1), (2, .int y1), (3, .int y2)] → W p l e (headSpec wsX7_power rmX7_power).room s m args below meth c s.heap [] 0 0 (MQ below (zRQ (some (.int ro))) args s 0 0 (fun _ => False)) (F0 m 4 ls []) := by
    intro n4
    induction n4 with
    | zero =>
      intro y1 y2 ls hF hl
      exact absurd (show (none : Option (Int32)) = some _ from hF) (fun h9 => by cases h9)
    | succ n4 ih4 =>
      intro y1 y2 ls hF hl
      rw [f7_power_l4] at hF
      refine lv_iload_n hx hb dX7_power_4 rfl (lv_at hl 3 rfl) ?_
      refine lv_iload_n hx hb dX7_power_5 rfl (lv_at hl 1 rfl) ?_
      refine lv_icmp_ge (tgt := 19) hx hb dX7_power_6 (by decide) (fun c3 => ?_) (fun c3 => ?_)
      · have hF := zit c3 hF
        refine lv_iload_n hx hb dX7_power_19 rfl (lv_at hl 2 rfl) ?_
        have e9a := zin hF
        exact z_ri hx hb hr hlk (congrArg (fun z => some (Value.int z)) e9a) dX7_power_20
      · have hF := zif c3 hF
        refine lv_iload_n hx hb dX7_power_9 rfl (lv_at hl 2 rfl) ?_
        refine lv_iload_n hx hb dX7_power_10 rfl (lv_at hl 0 rfl) ?_
        refine lv_imul hx hb dX7_power_11 ?_
        refine lv_topi (fun v4 ev4 => ?_)
        have hF := bd_eq ev4 hF
        refine lv_istore_n (lv' := [(2, .int v4), (0, .int x0), (1, .int x1), (3, .int y2)]) hx hb dX7_power_12 rfl hl (by decide) rfl (fun ls hl => ?_)
        refine lv_iinc (v := (y2 + 1)) (lv' := [(3, .int (y2 + 1)), (2, .int v4), (0, .int x0), (1, .int x1)]) hx hb dX7_power_13 hl (k := 3) rfl rfl (by decide) rfl (fun ls hl => ?_)
        refine lv_goto (tgt := 4) hx hb dX7_power_16 (by decide) ?_
        exact ih4 v4 (y2 + 1) ls hF (lv_sub hl [2, 3, 1, 0] rfl)
  exact L4 FU 1 0 ls hF (lv_sub hl [2, 3, 1, 0] rfl)
def f7_flood_l61 (x1 : Int32) (x2 : Int32) (x3 : Int32) (y4 : Int32) (y5 : Int32) (y6 : Int32) (k46 : (Int32 → Int32 → Int32 → MS → Option (Int32 × MS))) : Nat → Int32 → MS → Option (Int32 × MS)
  | 0, _, _ => none
  | n61 + 1, y14, S15 => if x2 ≤ y14 then (f7_ones y6).bind fun v17 => (f7_power x3 v17).bind fun v18 => (f7_ones y6).bind fun v19 => (f7_power (10 - x3) (x2 - v19)).bind fun v20 => bd (α := Int32) (v18 * v20) (fun (v21 : Int32) => bd (α := Int32) (y5 + v21) (fun (v22 : Int32) => (f7_isOut S15 1 x1).bind fun v23 => bd (α := Int32) (if v23 = 0 then 0 else v21) (fun (v24 : Int32) => bd (α := Int32) (y4 + v24) (fun (v26 : Int32) => k46 v26 v22 (y6 + 1) S15)))) else bd (α := Int32) (if (f7_has y6 y14) = 0 then (S15.1 4) else (S15.1 3)) (fun (v27 : Int32) => (f7_stepBy S15 1 v27).bind fun (v30, S29) => f7_flood_l61 x1 x2 x3 y4 y5 y6 k46 n61 (y14 + 1) S29)
def f7_flood_l46 (x1 : Int32) (x2 : Int32) (x3 : Int32) (x4 : Int32) : Nat → Int32 → Int32 → Int32 → MS → Option (Int32 × MS)
  | 0, _, _, _, _ => none
  | n46 + 1, y4, y5, y6, S7 => if ((1 : Int32) <<< (x2 &&& 31)) ≤ y6 then (f7_common y4 y5).bind fun v9 => if x4 = 0 then (zdv y5 v9).bind fun v11 => some (v11, S7) else (zdv y4 v9).bind fun v12 => some (v12, S7) else (f7_layTrial S7).bind fun S13 => f7_flood_l61 x1 x2 x3 y4 y5 y6 (fun y4 y5 y6 S7 => f7_flood_l46 x1 x2 x3 x4 n46 y4 y5 y6 S7) FU 0 S13
def f7_flood (S : MS) (x1 : Int32) (x2 : Int32) (x3 : Int32) (x4 : Int32) : Option (Int32 × MS) := if (f7_isWalker S x1) = 0 then some ((-1), S) else if (f7_in ((x2).toInt64) 1 6) = 0 then some ((-2), S) else if (f7_in ((x3).toInt64) 0 10) = 0 then some ((-2), S) else f7_flood_l46 x1 x2 x3 x4 FU 0 0 0 S
abbrev rmX7_flood : Room := { frames := 4, cells := 0, slots := 0, locals := 104 }
set_option maxHeartbeats 4000000 in
set_option maxRecDepth 100000 in
theorem c7_flood (l : Launch) (g : zG) (q : Nat → Nat) (S : MS) (x1 : Int32) (x2 : Int32) (x3 : Int32) (x4 : Int32) (ro : Int32) (S_o : MS) (hF : f7_flood S x1 x2 x3 x4 = some (ro, S_o)) : zRW l g yX7_flood wsX7_flood rmX7_flood [.ref (q 0), .int x1, .int x2, .int x3, .int x4] (MW g q S) (some (.int ro)) (MW g q S_o) := by
  refine zRW_of (cc := cX7_flood) (maxL := 9) (ret := (some .int)) (by decide) rfl (Nat.le_of_ble_eq_true rfl) ?_
  intro p e s m args below meth c A H locs ls hx hb hr hml hts hown hlk hK hA hP hD hS hl
  have hown : s.vm.findClass RX7 = some m.cls := hown
  have hl : lv_has ls 9 [(0, .ref (q 0)), (1, .int x1), (2, .int x2), (3, .int x3), (4, .int x4)] := hl
  have inX7 : ∀ w ∈ wsX70, w ∈ wsX7_flood := fun _ h => List.mem_cons_of_mem _ (List.mem_append_right _ h)
  unfold f7_flood at hF
  refine lv_aload_n hx hb dX7_flood_0 rfl (lv_at hl 0 rfl) ?_
  refine lv_iload_n hx hb dX7_flood_1 rfl (lv_at hl 1 rfl) ?_
  refine z_rgo (va_runV (As := [.int x1]) (rest := []) ⟨hx, hb, hml, hown, hts⟩ (c7_isWalker l g q S x1) (cwV 1 hts gX7_flood_X7_isWalker rfl rfl rfl (by decide +kernel) ⟨Nat.le_of_ble_eq_true rfl, Nat.le_of_ble_eq_true rfl⟩) (z_rpreV (ci := 7) (q := (RX7, TX7, 37)) (q0 := 0) hP hK rfl rfl) rfl rfl hl.1 rfl (lv_room (Nat.le_of_ble_eq_true rfl)) dX7_flood_2 ⟨Nat.zero_le _, Nat.zero_le _⟩) ?_
  refine lv_if_ne (tgt := 10) hx hb dX7_flood_5 (by decide) (fun c1 => ?_) (fun c1 => ?_)
  · have hF := zif c1 hF
    refine lv_iload_n hx hb dX7_flood_10 rfl (lv_at hl 2 rfl) ?_
    refine lv_i2l (v := (x2).toInt64) hx hb dX7_flood_11 rfl ?_
    refine lv_lconst (v := 1) hx hb dX7_flood_12 (by decide) ?_
    refine lv_ldc2 (own := RX7) (v := 6) hx hb hown (hts (.constantLong RX7 235 6) (List.mem_of_getElem? (i := 1) rfl)) dX7_flood_13 ?_
    refine z_rgo (va_runS (As := [.long ((x2).toInt64), .long 1, .long 6]) (rest := []) ⟨hx, hb, hml, hown, hts⟩ (c7_in l g   ((x2).toInt64) 1 6) (va_cwS 3 hts gX7_flood_X7_in rfl rfl rfl (by decide +kernel) ⟨Nat.le_of_ble_eq_true rfl, Nat.le_of_ble_eq_true rfl⟩) (z_rpre z_nil hK) rfl rfl hl.1 rfl (lv_room (Nat.le_of_ble_eq_true rfl)) dX7_flood_16 ⟨Nat.zero_le _, Nat.zero_le _⟩) ?_
    refine lv_if_eq (tgt := 34) hx hb dX7_flood_19 (by decide) (fun c2 => ?_) (fun c2 => ?_)
    · have hF := zit c2 hF
      refine lv_bipush (v := (-2)) hx hb dX7_flood_34 (by decide) ?_
      obtain ⟨e9a, e9b⟩ := Prod.mk.inj (zin hF)
      exact z_wi hx hb hr hlk hP hD hS (congrArg (fun z => some (Value.int z)) e9a) (by rw [e9b]) dX7_flood_36
    · have hF := zif c2 hF
      refine lv_iload_n hx hb dX7_flood_22 rfl (lv_at hl 3 rfl) ?_
      refine lv_i2l (v := (x3).toInt64) hx hb dX7_flood_23 rfl ?_
      refine lv_lconst (v := 0) hx hb dX7_flood_24 (by decide) ?_
      refine lv_ldc2 (own := RX7) (v := 10) hx hb hown (hts (.constantLong RX7 237 10) (List.mem_of_getElem? (i := 2) rfl)) dX7_flood_25 ?_
      refine z_rgo (va_runS (As := [.long ((x3).toInt64), .long 0, .long 10]) (rest := []) ⟨hx, hb, hml, hown, hts⟩ (c7_in l g   ((x3).toInt64) 0 10) (va_cwS 3 hts gX7_flood_X7_in rfl rfl rfl (by decide +kernel) ⟨Nat.le_of_ble_eq_true rfl, Nat.le_of_ble_eq_true rfl⟩) (z_rpre z_nil hK) rfl rfl hl.1 rfl (lv_room (Nat.le_of_ble_eq_true rfl)) dX7_flood_28 ⟨Nat.zero_le _, Nat.zero_le _⟩) ?_
      refine lv_if_ne (tgt := 37) hx hb dX7_flood_31 (by decide) (fun c3 => ?_) (fun c3 => ?_)
      · have hF := zif c3 hF
        refine lv_iconst (v := 0) hx hb dX7_flood_37 (by decide) ?_
        refine lv_istore (lv' := [(5, .int 0), (0, .ref (q 0)), (1, .int x1), (2, .int x2), (3, .int x3), (4, .int x4)]) hx hb dX7_flood_38 hl (by decide) rfl (fun ls hl => ?_)
        refine lv_iconst (v := 0) hx hb dX7_flood_40 (by decide) ?_
        refine lv_istore (lv' := [(6, .int 0), (5, .int 0), (0, .ref (q 0)), (1, .int x1), (2, .int x2), (3, .int x3), (4, .int x4)]) hx hb dX7_flood_41 hl (by decide) rfl (fun ls hl => ?_)
        refine lv_iconst (v := 0) hx hb dX7_flood_43 (by decide) ?_
        refine lv_istore (lv' := [(7, .int 0), (6, .int 0), (5, .int 0), (0, .ref (q 0)), (1, .int x1), (2, .int x2), (3, .int x3), (4, .int x4)]) hx hb dX7_flood_44 hl (by decide) rfl (fun ls hl => ?_)
        have L46 : ∀ (n46 : Nat) (y4 : Int32) (y5 : Int32) (y6 : Int32) (S7 : MS) (H : Heap) (locs : List Loc) (ls : Array Slot), f7_flood_l46 x1 x2 x3 x4 n46 y4 y5 y6 S7 = some (ro, S_o) → va_P (zD g) vwCl (MW g q S7) H → va_D A (MW g q S7) → va_S A s.heap H locs → lv_has ls 9 [(0, .ref (q 0)), (1, .int x1), (2, .int x2), (3, .int x3), (4, .int x4), (5, .int y4), (6, .int y5), (7, .int y6)] → W p l e (headSpec wsX7_flood rmX7_flood).room s m args below meth c H locs 0 0 (MQ below (zWQ g A (MW g q S_o) (some (.int ro))) args s 0 0 A) (F0 m 46 ls []) := by
          intro n46
          induction n46 with
          | zero =>
            intro y4 y5 y6 S7 H locs ls hF hP hD hS hl
            exact absurd (show (none : Option (Int32 × MS)) = some _ from hF) (fun h9 => by cases h9)
          | succ n46 ih46 =>
            intro y4 y5 y6 S7 H locs ls hF hP hD hS hl
            rw [f7_flood_l46] at hF
            refine lv_iload hx hb dX7_flood_46 (lv_at hl 7 rfl) ?_
            refine lv_iconst (v := 1) hx hb dX7_flood_48 (by decide) ?_
            refine lv_iload_n hx hb dX7_flood_49 rfl (lv_at hl 2 rfl) ?_
            refine lv_ishl hx hb dX7_flood_50 ?_
            refine lv_icmp_ge (tgt := 159) hx hb dX7_flood_51 (by decide) (fun c8 => ?_) (fun c8 => ?_)
            · have hF := zit c8 hF
              refine lv_iload hx hb dX7_flood_159 (lv_at hl 5 rfl) ?_
              refine lv_iload hx hb dX7_flood_161 (lv_at hl 6 rfl) ?_
              obtain ⟨v9, hv9, hF⟩ := zob hF
              refine z_rgo (va_runS (As := [.int y4, .int y5]) (rest := []) ⟨hx, hb, hml, hown, hts⟩ (c7_common l g   y4 y5 v9 hv9) (va_cwS 2 hts gX7_flood_X7_common rfl rfl rfl (by decide +kernel) ⟨Nat.le_of_ble_eq_true rfl, Nat.le_of_ble_eq_true rfl⟩) (z_rpre z_nil hK) rfl rfl hl.1 rfl (lv_room (Nat.le_of_ble_eq_true rfl)) dX7_flood_163 ⟨Nat.zero_le _, Nat.zero_le _⟩) ?_
              refine lv_istore (lv' := [(7, .int v9), (0, .ref (q 0)), (1, .int x1), (2, .int x2), (3, .int x3), (4, .int x4), (5, .int y4), (6, .int y5)]) hx hb dX7_flood_166 hl (by decide) rfl (fun ls hl => ?_)
              refine lv_iload hx hb dX7_flood_168 (lv_at hl 5 rfl) ?_
              refine lv_if_eq (tgt := 181) hx hb dX7_flood_170 (by decide) (fun c10 => ?_) (fun c10 => ?_)
              · have hF := zit c10 hF
                refine lv_iload hx hb dX7_flood_181 (lv_at hl 7 rfl) ?_
                refine lv_iload hx hb dX7_flood_183 (lv_at hl 0 rfl) ?_
                obtain ⟨v11, hv11, hF⟩ := zob hF
                refine z_idiv hx hb dX7_flood_185 hv11 ?_
                obtain ⟨e9a, e9b⟩ := Prod.mk.inj (zin hF)
                exact z_wi hx hb hr hlk hP hD hS (congrArg (fun z => some (Value.int z)) e9a) (by rw [e9b]) dX7_flood_186
              · have hF := zif c10 hF
                refine lv_iload hx hb dX7_flood_173 (lv_at hl 6 rfl) ?_
                refine lv_iload hx hb dX7_flood_175 (lv_at hl 0 rfl) ?_
                obtain ⟨v12, hv12, hF⟩ := zob hF
                refine z_idiv hx hb dX7_flood_177 hv12 ?_
                refine lv_goto (tgt := 186) hx hb dX7_flood_178 (by decide) ?_
                obtain ⟨e9a, e9b⟩ := Prod.mk.inj (zin hF)
                exact z_wi hx hb hr hlk hP hD hS (congrArg (fun z => some (Value.int z)) e9a) (by rw [e9b]) dX7_flood_186
            · have hF := zif c8 hF
              refine lv_aload_n hx hb dX7_flood_54 rfl (lv_at hl 0 rfl) ?_
              obtain ⟨S13, hS13, hF⟩ := zob hF
              refine z_wgoW (va_runV (As := []) (rest := []) ⟨hx, hb, hml, hown, hts⟩ ((c7_layTrial l g q S7   S13 hS13) H.size) (cwV 0 hts gX7_flood_X7_layTrial rfl rfl rfl (by decide +kernel) ⟨Nat.le_of_ble_eq_true rfl, Nat.le_of_ble_eq_true rfl⟩) (z_wpreV (ci := 7) (q := (RX7, TX7, 37)) (q0 := 0) hP hK (z_any hD) rfl rfl) rfl rfl hl.1 rfl (lv_room (Nat.le_of_ble_eq_true rfl)) dX7_flood_55 ⟨Nat.zero_le _, Nat.zero_le _⟩) hP hD hS hA (fun H locs hP hD hS => ?_)
              show W p l e (headSpec wsX7_flood rmX7_flood).room s m args below meth c H locs 0 0 (MQ below (zWQ g A (MW g q S_o) (some (.int ro))) args s 0 0 A) (F0 m 58 ls [])
              refine lv_iconst (v := 0) hx hb dX7_flood_58 (by decide) ?_
              refine lv_istore (lv' := [(8, .int 0), (0, .ref (q 0)), (1, .int x1), (2, .int x2), (3, .int x3), (4, .int x4), (5, .int y4), (6, .int y5), (7, .int y6)]) hx hb dX7_flood_59 hl (by decide) rfl (fun ls hl => ?_)
              have L61 : ∀ (n61 : Nat) (y14 : Int32) (S15 : MS) (H : Heap) (locs : List Loc) (ls : Array Slot), f7_flood_l61 x1 x2 x3 y4 y5 y6 (fun y4 y5 y6 S7 => f7_flood_l46 x1 x2 x3 x4 n46 y4 y5 y6 S7) n61 y14 S15 = some (ro, S_o) → va_P (zD g) vwCl (MW g q S15) H → va_D A (MW g q S15) → va_S A s.heap H locs → lv_has ls 9 [(0, .ref (q 0)), (1, .int x1), (2, .int x2), (3, .int x3), (4, .int x4), (5, .int y4), (6, .int y5), (7, .int y6), (8, .int y14)] → W p l e (headSpec wsX7_flood rmX7_flood).room s m args below meth c H locs 0 0 (MQ below (zWQ g A (MW g q S_o) (some (.int ro))) args s 0 0 A) (F0 m 61 ls []) := by
                intro n61
                induction n61 with
                | zero =>
                  intro y14 S15 H locs ls hF hP hD hS hl
                  exact absurd (show (none : Option (Int32 × MS)) = some _ from hF) (fun h9 => by cases h9)
                | succ n61 ih61 =>
                  intro y14 S15 H locs ls hF hP hD hS hl
                  rw [f7_flood_l61] at hF
                  refine lv_iload hx hb dX7_flood_61 (lv_at hl 8 rfl) ?_
                  refine lv_iload_n hx hb dX7_flood_63 rfl (lv_at hl 2 rfl) ?_
                  refine lv_icmp_ge (tgt := 100) hx hb dX7_flood_64 (by decide) (fun c16 => ?_) (fun c16 => ?_)
                  · have hF := zit c16 hF
                    refine lv_iload_n hx hb dX7_flood_100 rfl (lv_at hl 3 rfl) ?_
                    refine lv_iload hx hb dX7_flood_101 (lv_at hl 7 rfl) ?_
                    obtain ⟨v17, hv17, hF⟩ := zob hF
                    refine z_rgo (va_runS (As := [.int y6]) (rest := [.int x3]) ⟨hx, hb, hml, hown, hts⟩ (c7_ones l g   y6 v17 hv17) (va_cwS 1 hts gX7_flood_X7_ones rfl rfl rfl (by decide +kernel) ⟨Nat.le_of_ble_eq_true rfl, Nat.le_of_ble_eq_true rfl⟩) (z_rpre z_nil hK) rfl rfl hl.1 rfl (lv_room (Nat.le_of_ble_eq_true rfl)) dX7_flood_103 ⟨Nat.zero_le _, Nat.zero_le _⟩) ?_
                    obtain ⟨v18, hv18, hF⟩ := zob hF
                    refine z_rgo (va_runS (As := [.int x3, .int v17]) (rest := []) ⟨hx, hb, hml, hown, hts⟩ (c7_power l g   x3 v17 v18 hv18) (va_cwS 2 hts gX7_flood_X7_power rfl rfl rfl (by decide +kernel) ⟨Nat.le_of_ble_eq_true rfl, Nat.le_of_ble_eq_true rfl⟩) (z_rpre z_nil hK) rfl rfl hl.1 rfl (lv_room (Nat.le_of_ble_eq_true rfl)) dX7_flood_106 ⟨Nat.zero_le _, Nat.zero_le _⟩) ?_
                    refine lv_bipush (v := 10) hx hb dX7_flood_109 (by decide) ?_
                    refine lv_iload_n hx hb dX7_flood_111 rfl (lv_at hl 3 rfl) ?_
                    refine lv_isub hx hb dX7_flood_112 ?_
                    refine lv_iload_n hx hb dX7_flood_113 rfl (lv_at hl 2 rfl) ?_
                    refine lv_iload hx hb dX7_flood_114 (lv_at hl 7 rfl) ?_
                    obtain ⟨v19, hv19, hF⟩ := zob hF
                    refine z_rgo (va_runS (As := [.int y6]) (rest := [.int x2, .int (10 - x3), .int v18]) ⟨hx, hb, hml, hown, hts⟩ (c7_ones l g   y6 v19 hv19) (va_cwS 1 hts gX7_flood_X7_ones rfl rfl rfl (by decide +kernel) ⟨Nat.le_of_ble_eq_true rfl, Nat.le_of_ble_eq_true rfl⟩) (z_rpre z_nil hK) rfl rfl hl.1 rfl (lv_room (Nat.le_of_ble_eq_true rfl)) dX7_flood_116 ⟨Nat.zero_le _, Nat.zero_le _⟩) ?_
                    refine lv_isub hx hb dX7_flood_119 ?_
                    obtain ⟨v20, hv20, hF⟩ := zob hF
                    refine z_rgo (va_runS (As := [.int (10 - x3), .int (x2 - v19)]) (rest := [.int v18]) ⟨hx, hb, hml, hown, hts⟩ (c7_power l g   (10 - x3) (x2 - v19) v20 hv20) (va_cwS 2 hts gX7_flood_X7_power rfl rfl rfl (by decide +kernel) ⟨Nat.le_of_ble_eq_true rfl, Nat.le_of_ble_eq_true rfl⟩) (z_rpre z_nil hK) rfl rfl hl.1 rfl (lv_room (Nat.le_of_ble_eq_true rfl)) dX7_flood_120 ⟨Nat.zero_le _, Nat.zero_le _⟩) ?_
                    refine lv_imul hx hb dX7_flood_123 ?_
                    refine lv_topi (fun v21 ev21 => ?_)
                    have hF := bd_eq ev21 hF
                    refine lv_istore (lv' := [(8, .int v21), (0, .ref (q 0)), (1, .int x1), (2, .int x2), (3, .int x3), (4, .int x4), (5, .int y4), (6, .int y5), (7, .int y6)]) hx hb dX7_flood_124 hl (by decide) rfl (fun ls hl => ?_)
                    refine lv_iload hx hb dX7_flood_126 (lv_at hl 7 rfl) ?_
                    refine lv_iload hx hb dX7_flood_128 (lv_at hl 0 rfl) ?_
                    refine lv_iadd hx hb dX7_flood_130 ?_
                    refine lv_topi (fun v22 ev22 => ?_)
                    have hF := bd_eq ev22 hF
                    refine lv_istore (lv' := [(6, .int v22), (8, .int v21), (0, .ref (q 0)), (1, .int x1), (2, .int x2), (3, .int x3), (4, .int x4), (5, .int y4), (7, .int y6)]) hx hb dX7_flood_131 hl (by decide) rfl (fun ls hl => ?_)
                    refine lv_iload hx hb dX7_flood_133 (lv_at hl 7 rfl) ?_
                    refine lv_aload_n hx hb dX7_flood_135 rfl (lv_at hl 2 rfl) ?_
                    refine lv_iconst (v := 1) hx hb dX7_flood_136 (by decide) ?_
                    refine lv_iload_n hx hb dX7_flood_137 rfl (lv_at hl 3 rfl) ?_
                    obtain ⟨v23, hv23, hF⟩ := zob hF
                    refine z_rgo (va_runV (As := [.int 1, .int x1]) (rest := [.int y4]) ⟨hx, hb, hml, hown, hts⟩ (c7_isOut l g q S15 1 x1 v23 hv23) (cwV 2 hts gX7_flood_X7_isOut rfl rfl rfl (by decide +kernel) ⟨Nat.le_of_ble_eq_true rfl, Nat.le_of_ble_eq_true rfl⟩) (z_rpreV (ci := 7) (q := (RX7, TX7, 37)) (q0 := 0) hP hK rfl rfl) rfl rfl hl.1 rfl (lv_room (Nat.le_of_ble_eq_true rfl)) dX7_flood_138 ⟨Nat.zero_le _, Nat.zero_le _⟩) ?_
                    obtain ⟨v24, hVv24⟩ : ∃ y : Int32, (if v23 = 0 then 0 else v21 : Int32) = y := ⟨_, rfl⟩
                    have hF := bd_eq hVv24.symm hF
                    have Jv24 : W p l e (headSpec wsX7_flood rmX7_flood).room s m args below meth c H locs 0 0 (MQ below (zWQ g A (MW g q S_o) (some (.int ro))) args s 0 0 A) (F0 m 150 ls [.int v24, .int y4]) := by
                      refine lv_iadd hx hb dX7_flood_150 ?_
                      refine lv_topi (fun v26 ev26 => ?_)
                      have hF := bd_eq ev26 hF
                      refine lv_istore (lv' := [(5, .int v26), (6, .int v22), (8, .int v21), (0, .ref (q 0)), (1, .int x1), (2, .int x2), (3, .int x3), (4, .int x4), (7, .int y6)]) hx hb dX7_flood_151 hl (by decide) rfl (fun ls hl => ?_)
                      refine lv_iinc (v := (y6 + 1)) (lv' := [(7, .int (y6 + 1)), (5, .int v26), (6, .int v22), (8, .int v21), (0, .ref (q 0)), (1, .int x1), (2, .int x2), (3, .int x3), (4, .int x4)]) hx hb dX7_flood_153 hl (k := 8) rfl rfl (by decide) rfl (fun ls hl => ?_)
                      refine lv_goto (tgt := 46) hx hb dX7_flood_156 (by decide) ?_
                      exact ih46 v26 v22 (y6 + 1) S15 H locs ls hF hP hD hS (lv_sub hl [4, 5, 6, 7, 8, 1, 2, 0] rfl)
                    refine lv_if_eq (tgt := 149) hx hb dX7_flood_141 (by decide) (fun c25 => ?_) (fun c25 => ?_)
                    · have hVv24 := zit c25 hVv24
                      refine lv_iconst (v := 0) hx hb dX7_flood_149 (by decide) ?_
                      subst hVv24
                      exact Jv24
                    · have hVv24 := zif c25 hVv24
                      refine lv_iload hx hb dX7_flood_144 (lv_at hl 1 rfl) ?_
                      refine lv_goto (tgt := 150) hx hb dX7_flood_146 (by decide) ?_
                      subst hVv24
                      exact Jv24
                  · have hF := zif c16 hF
                    refine lv_aload_n hx hb dX7_flood_67 rfl (lv_at hl 0 rfl) ?_
                    refine lv_iconst (v := 1) hx hb dX7_flood_68 (by decide) ?_
                    refine lv_iload hx hb dX7_flood_69 (lv_at hl 7 rfl) ?_
                    refine lv_iload hx hb dX7_flood_71 (lv_at hl 8 rfl) ?_
                    refine z_rgo (va_runS (As := [.int y6, .int y14]) (rest := [.int 1, .ref (q 0)]) ⟨hx, hb, hml, hown, hts⟩ (c7_has l g   y6 y14) (va_cwS 2 hts gX7_flood_X7_has rfl rfl rfl (by decide +kernel) ⟨Nat.le_of_ble_eq_true rfl, Nat.le_of_ble_eq_true rfl⟩) (z_rpre z_nil hK) rfl rfl hl.1 rfl (lv_room (Nat.le_of_ble_eq_true rfl)) dX7_flood_73 ⟨Nat.zero_le _, Nat.zero_le _⟩) ?_
                    obtain ⟨v27, hVv27⟩ : ∃ y : Int32, (if (f7_has y6 y14) = 0 then (S15.1 4) else (S15.1 3) : Int32) = y := ⟨_, rfl⟩
                    have hF := bd_eq hVv27.symm hF
                    have Jv27 : W p l e (headSpec wsX7_flood rmX7_flood).room s m args below meth c H locs 0 0 (MQ below (zWQ g A (MW g q S_o) (some (.int ro))) args s 0 0 A) (F0 m 90 ls [.int v27, .int 1, .ref (q 0)]) := by
                      obtain ⟨⟨v30, S29⟩, hS29, hF⟩ := zob hF
                      refine z_wgoW (va_runV (As := [.int 1, .int v27]) (rest := []) ⟨hx, hb, hml, hown, hts⟩ ((c7_stepBy l g q S15 1 v27 v30  S29 hS29) H.size) (cwV 2 hts gX7_flood_X7_stepBy rfl rfl rfl (by decide +kernel) ⟨Nat.le_of_ble_eq_true rfl, Nat.le_of_ble_eq_true rfl⟩) (z_wpreV (ci := 7) (q := (RX7, TX7, 37)) (q0 := 0) hP hK (z_any hD) rfl rfl) rfl rfl hl.1 rfl (lv_room (Nat.le_of_ble_eq_true rfl)) dX7_flood_90 ⟨Nat.zero_le _, Nat.zero_le _⟩) hP hD hS hA (fun H locs hP hD hS => ?_)
                      show W p l e (headSpec wsX7_flood rmX7_flood).room s m args below meth c H locs 0 0 (MQ below (zWQ g A (MW g q S_o) (some (.int ro))) args s 0 0 A) (F0 m 93 ls [.int v30])
                      refine lv_pop hx hb dX7_flood_93 rfl ?_
                      refine lv_iinc (v := (y14 + 1)) (lv' := [(8, .int (y14 + 1)), (0, .ref (q 0)), (1, .int x1), (2, .int x2), (3, .int x3), (4, .int x4), (5, .int y4), (6, .int y5), (7, .int y6)]) hx hb dX7_flood_94 hl (k := 8) rfl rfl (by decide) rfl (fun ls hl => ?_)
                      refine lv_goto (tgt := 61) hx hb dX7_flood_97 (by decide) ?_
                      exact ih61 (y14 + 1) S29 H locs ls hF hP hD hS (lv_sub hl [1, 2, 3, 4, 5, 6, 7, 8, 0] rfl)
                    refine lv_if_eq (tgt := 86) hx hb dX7_flood_76 (by decide) (fun c28 => ?_) (fun c28 => ?_)
                    · have hVv27 := zit c28 hVv27
                      refine lv_aload_n hx hb dX7_flood_86 rfl (lv_at hl 0 rfl) ?_
                      refine z_get (ci := 7) (v := .int (S15.1 4)) (C := RX7) (T := TX7) (N := 37) hx hb hts inX7 hown hK hP 0 rfl rfl 4 (by decide) (List.mem_of_getElem? (i := 4) rfl) rfl rfl dX7_flood_87 ?_
                      subst hVv27
                      exact Jv27
                    · have hVv27 := zif c28 hVv27
                      refine lv_aload_n hx hb dX7_flood_79 rfl (lv_at hl 0 rfl) ?_
                      refine z_get (ci := 7) (v := .int (S15.1 3)) (C := RX7) (T := TX7) (N := 37) hx hb hts inX7 hown hK hP 0 rfl rfl 3 (by decide) (List.mem_of_getElem? (i := 3) rfl) rfl rfl dX7_flood_80 ?_
                      refine lv_goto (tgt := 90) hx hb dX7_flood_83 (by decide) ?_
                      subst hVv27
                      exact Jv27
              exact L61 FU 0 S13 H locs ls hF hP hD hS (lv_sub hl [1, 2, 3, 4, 5, 6, 7, 8, 0] rfl)
        exact L46 FU 0 0 0 S H locs ls hF hP hD hS (lv_sub hl [3, 4, 5, 6, 7, 2, 1, 0] rfl)
      · have hF := zit c3 hF
        refine lv_bipush (v := (-2)) hx hb dX7_flood_34 (by decide) ?_
        obtain ⟨e9a, e9b⟩ := Prod.mk.inj (zin hF)
        exact z_wi hx hb hr hlk hP hD hS (congrArg (fun z => some (Value.int z)) e9a) (by rw [e9b]) dX7_flood_36
  · have hF := zit c1 hF
    refine lv_iconst (v := (-1)) hx hb dX7_flood_8 (by decide) ?_
    obtain ⟨e9a, e9b⟩ := Prod.mk.inj (zin hF)
    exact z_wi hx hb hr hlk hP hD hS (congrArg (fun z => some (Value.int z)) e9a) (by rw [e9b]) dX7_flood_9
def f7_gain (S : MS) (x1 : Int32) (x2 : Int32) (x3 : Int32) (x4 : Int32) : Option (Int32) := bd (α := Int32) (if x3 = x4 then (-1) else 0) (fun (v1 : Int32) => (f7_isOut S 1 x1).bind fun v3 => (if v3 = 0 then some 0 else (zrd (S.2.1 11) 38 (19 + x1)).bind fun v7 => if v7 = x3 then some 3 else some 0 : Option Int32).bind fun v4 => bd (α := Int32) (v1 + v4) (fun (v9 : Int32) => (f7_isOut S 1 x2).bind fun v10 => (if v10 = 0 then some 0 else (zrd (S.2.1 11) 38 (19 + x2)).bind fun v14 => if v14 = x3 then some 2 else some 0 : Option Int32).bind fun v11 => some (v9 + v11)))
abbrev rmX7_gain : Room := { frames := 1, cells := 0, slots := 0, locals := 22 }
set_option maxHeartbeats 4000000 in
set_option maxRecDepth 100000 in
theorem c7_gain (l : Launch) (g : zG) (q : Nat → Nat) (S : MS) (x1 : Int32) (x2 : Int32) (x3 : Int32) (x4 : Int32) (ro : Int32) (hF : f7_gain S x1 x2 x3 x4 = some ro) : zRO l g yX7_gain wsX7_gain rmX7_gain [.ref (q 0), .int x1, .int x2, .int x3, .int x4] (MW g q S) (some (.int ro)) := by
  refine zRO_of (cc := cX7_gain) (maxL := 6) (ret := (some .int)) (by decide) rfl (Nat.le_of_ble_eq_true rfl) ?_
  intro p e s m args below meth c ls hx hb hr hml hts hown hlk hK hP hl
  have hown : s.vm.findClass RX7 = some m.cls := hown
  have hl : lv_has ls 6 [(0, .ref (q 0)), (1, .int x1), (2, .int x2), (3, .int x3), (4, .int x4)] := hl
  have inX7 : ∀ w ∈ wsX70, w ∈ wsX7_gain := fun _ h => List.mem_cons_of_mem _ (List.mem_append_right _ h)
  unfold f7_gain at hF
  refine lv_iload_n hx hb dX7_gain_0 rfl (lv_at hl 3 rfl) ?_
  refine lv_iload hx hb dX7_gain_1 (lv_at hl 4 rfl) ?_
  obtain ⟨v1, hVv1⟩ : ∃ y : Int32, (if x3 = x4 then (-1) else 0 : Int32) = y := ⟨_, rfl⟩
  have hF := bd_eq hVv1.symm hF
  have Jv1 : W p l e (headSpec wsX7_gain rmX7_gain).room s m args below meth c s.heap [] 0 0 (MQ below (zRQ (some (.int ro))) args s 0 0 (fun _ => False)) (F0 m 11 ls [.int v1]) := by
    refine lv_istore (lv' := [(5, .int v1), (0, .ref (q 0)), (1, .int x1), (2, .int x2), (3, .int x3), (4, .int x4)]) hx hb dX7_gain_11 hl (by decide) rfl (fun ls hl => ?_)
    refine lv_iload hx hb dX7_gain_13 (lv_at hl 0 rfl) ?_
    refine lv_aload_n hx hb dX7_gain_15 rfl (lv_at hl 1 rfl) ?_
    refine lv_iconst (v := 1) hx hb dX7_gain_16 (by decide) ?_
    refine lv_iload_n hx hb dX7_gain_17 rfl (lv_at hl 2 rfl) ?_
    obtain ⟨v3, hv3, hF⟩ := zob hF
    refine z_rgo (va_runV (As := [.int 1, .int x1]) (rest := [.int v1]) ⟨hx, hb, hml, hown, hts⟩ (c7_isOut l g q S 1 x1 v3 hv3) (cwV 2 hts gX7_gain_X7_isOut rfl rfl rfl (by decide +kernel) ⟨Nat.le_of_ble_eq_true rfl, Nat.le_of_ble_eq_true rfl⟩) (z_rpreV (ci := 7) (q := (RX7, TX7, 37)) (q0 := 0) hP hK rfl rfl) rfl rfl hl.1 rfl (lv_room (Nat.le_of_ble_eq_true rfl)) dX7_gain_18 ⟨Nat.zero_le _, Nat.zero_le _⟩) ?_
    obtain ⟨v4, hVv4, hF⟩ := zob hF
    have Jv4 : W p l e (headSpec wsX7_gain rmX7_gain).room s m args below meth c s.heap [] 0 0 (MQ below (zRQ (some (.int ro))) args s 0 0 (fun _ => False)) (F0 m 42 ls [.int v4, .int v1]) := by
      refine lv_iadd hx hb dX7_gain_42 ?_
      refine lv_topi (fun v9 ev9 => ?_)
      have hF := bd_eq ev9 hF
      refine lv_istore (lv' := [(5, .int v9), (0, .ref (q 0)), (1, .int x1), (2, .int x2), (3, .int x3), (4, .int x4)]) hx hb dX7_gain_43 hl (by decide) rfl (fun ls hl => ?_)
      refine lv_iload hx hb dX7_gain_45 (lv_at hl 0 rfl) ?_
      refine lv_aload_n hx hb dX7_gain_47 rfl (lv_at hl 1 rfl) ?_
      refine lv_iconst (v := 1) hx hb dX7_gain_48 (by decide) ?_
      refine lv_iload_n hx hb dX7_gain_49 rfl (lv_at hl 3 rfl) ?_
      obtain ⟨v10, hv10, hF⟩ := zob hF
      refine z_rgo (va_runV (As := [.int 1, .int x2]) (rest := [.int v9]) ⟨hx, hb, hml, hown, hts⟩ (c7_isOut l g q S 1 x2 v10 hv10) (cwV 2 hts gX7_gain_X7_isOut rfl rfl rfl (by decide +kernel) ⟨Nat.le_of_ble_eq_true rfl, Nat.le_of_ble_eq_true rfl⟩) (z_rpreV (ci := 7) (q := (RX7, TX7, 37)) (q0 := 0) hP hK rfl rfl) rfl rfl hl.1 rfl (lv_room (Nat.le_of_ble_eq_true rfl)) dX7_gain_50 ⟨Nat.zero_le _, Nat.zero_le _⟩) ?_
      obtain ⟨v11, hVv11, hF⟩ := zob hF
      have Jv11 : W p l e (headSpec wsX7_gain rmX7_gain).room s m args below meth c s.heap [] 0 0 (MQ below (zRQ (some (.int ro))) args s 0 0 (fun _ => False)) (F0 m 74 ls [.int v11, .int v9]) := by
        refine lv_iadd hx hb dX7_gain_74 ?_
        have e9a := zin hF
        exact z_ri hx hb hr hlk (congrArg (fun z => some (Value.int z)) e9a) dX7_gain_75
      refine lv_if_eq (tgt := 73) hx hb dX7_gain_53 (by decide) (fun c13 => ?_) (fun c13 => ?_)
      · have hVv11 := zit c13 hVv11
        refine lv_iconst (v := 0) hx hb dX7_gain_73 (by decide) ?_
        have hVv11 := zin hVv11
        subst hVv11
        exact Jv11
      · have hVv11 := zif c13 hVv11
        refine lv_aload_n hx hb dX7_gain_56 rfl (lv_at hl 1 rfl) ?_
        refine z_get (ci := 7) (v := .ref (q 7)) (C := RX7) (T := TX7) (N := 37) hx hb hts inX7 hown hK hP 0 rfl rfl 11 (by decide) (List.mem_of_getElem? (i := 1) rfl) rfl rfl dX7_gain_57 ?_
        refine lv_bipush (v := 19) hx hb dX7_gain_60 (by decide) ?_
        refine lv_iload_n hx hb dX7_gain_62 rfl (lv_at hl 3 rfl) ?_
        refine lv_iadd hx hb dX7_gain_63 ?_
        obtain ⟨v14, hv14, hVv11⟩ := zob hVv11
        refine z_iald hx hb hK hP 7 rfl hv14 dX7_gain_64 ?_
        refine lv_iload_n hx hb dX7_gain_65 rfl (lv_at hl 4 rfl) ?_
        refine lv_icmp_ne (tgt := 73) hx hb dX7_gain_66 (by decide) (fun c15 => ?_) (fun c15 => ?_)
        · have hVv11 := zif c15 hVv11
          refine lv_iconst (v := 0) hx hb dX7_gain_73 (by decide) ?_
          have hVv11 := zin hVv11
          subst hVv11
          exact Jv11
        · have hVv11 := zit c15 hVv11
          refine lv_iconst (v := 2) hx hb dX7_gain_69 (by decide) ?_
          refine lv_goto (tgt := 74) hx hb dX7_gain_70 (by decide) ?_
          have hVv11 := zin hVv11
          subst hVv11
          exact Jv11
    refine lv_if_eq (tgt := 41) hx hb dX7_gain_21 (by decide) (fun c6 => ?_) (fun c6 => ?_)
    · have hVv4 := zit c6 hVv4
      refine lv_iconst (v := 0) hx hb dX7_gain_41 (by decide) ?_
      have hVv4 := zin hVv4
      subst hVv4
      exact Jv4
    · have hVv4 := zif c6 hVv4
      refine lv_aload_n hx hb dX7_gain_24 rfl (lv_at hl 1 rfl) ?_
      refine z_get (ci := 7) (v := .ref (q 7)) (C := RX7) (T := TX7) (N := 37) hx hb hts inX7 hown hK hP 0 rfl rfl 11 (by decide) (List.mem_of_getElem? (i := 1) rfl) rfl rfl dX7_gain_25 ?_
      refine lv_bipush (v := 19) hx hb dX7_gain_28 (by decide) ?_
      refine lv_iload_n hx hb dX7_gain_30 rfl (lv_at hl 2 rfl) ?_
      refine lv_iadd hx hb dX7_gain_31 ?_
      obtain ⟨v7, hv7, hVv4⟩ := zob hVv4
      refine z_iald hx hb hK hP 7 rfl hv7 dX7_gain_32 ?_
      refine lv_iload_n hx hb dX7_gain_33 rfl (lv_at hl 4 rfl) ?_
      refine lv_icmp_ne (tgt := 41) hx hb dX7_gain_34 (by decide) (fun c8 => ?_) (fun c8 => ?_)
      · have hVv4 := zif c8 hVv4
        refine lv_iconst (v := 0) hx hb dX7_gain_41 (by decide) ?_
        have hVv4 := zin hVv4
        subst hVv4
        exact Jv4
      · have hVv4 := zit c8 hVv4
        refine lv_iconst (v := 3) hx hb dX7_gain_37 (by decide) ?_
        refine lv_goto (tgt := 42) hx hb dX7_gain_38 (by decide) ?_
        have hVv4 := zin hVv4
        subst hVv4
        exact Jv4
  refine lv_icmp_ne (tgt := 10) hx hb dX7_gain_3 (by decide) (fun c2 => ?_) (fun c2 => ?_)
  · have hVv1 := zif c2 hVv1
    refine lv_iconst (v := 0) hx hb dX7_gain_10 (by decide) ?_
    subst hVv1
    exact Jv1
  · have hVv1 := zit c2 hVv1
    refine lv_iconst (v := (-1)) hx hb dX7_gain_6 (by decide) ?_
    refine lv_goto (tgt := 11) hx hb dX7_gain_7 (by decide) ?_
    subst hVv1
    exact Jv1
def f7_isJoint (S : MS) (x1 : Int32) : Int32 := (f7_in ((x1).toInt64) 0 ((((S.1 0) - 1)).toInt64))
abbrev rmX7_isJoint : Room := { frames := 1, cells := 0, slots := 0, locals := 25 }
set_option maxHeartbeats 4000000 in
set_option maxRecDepth 100000 in
theorem c7_isJoint (l : Launch) (g : zG) (q : Nat → Nat) (S : MS) (x1 : Int32) : zRO l g yX7_isJoint wsX7_isJoint rmX7_isJoint [.ref (q 0), .int x1] (MW g q S) (some (.int (f7_isJoint S x1))) := by
  obtain ⟨ro, hF⟩ : ∃ y : Int32, f7_isJoint S x1 = y := ⟨_, rfl⟩
  rw [hF]
  refine zRO_of (cc := cX7_isJoint) (maxL := 2) (ret := (some .boolean)) (by decide) rfl (Nat.le_of_ble_eq_true rfl) ?_
  intro p e s m args below meth c ls hx hb hr hml hts hown hlk hK hP hl
  have hown : s.vm.findClass RX7 = some m.cls := hown
  have hl : lv_has ls 2 [(0, .ref (q 0)), (1, .int x1)] := hl
  have inX7 : ∀ w ∈ wsX70, w ∈ wsX7_isJoint := fun _ h => List.mem_cons_of_mem _ (List.mem_append_right _ h)
  unfold f7_isJoint at hF
  refine lv_iload_n hx hb dX7_isJoint_0 rfl (lv_at hl 1 rfl) ?_
  refine lv_i2l (v := (x1).toInt64) hx hb dX7_isJoint_1 rfl ?_
  refine lv_lconst (v := 0) hx hb dX7_isJoint_2 (by decide) ?_
  refine lv_aload_n hx hb dX7_isJoint_3 rfl (lv_at hl 0 rfl) ?_
  refine z_get (ci := 7) (v := .int (S.1 0)) (C := RX7) (T := TX7) (N := 37) hx hb hts inX7 hown hK hP 0 rfl rfl 0 (by decide) (List.mem_of_getElem? (i := 1) rfl) rfl rfl dX7_isJoint_4 ?_
  refine lv_iconst (v := 1) hx hb dX7_isJoint_7 (by decide) ?_
  refine lv_isub hx hb dX7_isJoint_8 ?_
  refine lv_i2l (v := (((S.1 0) - 1)).toInt64) hx hb dX7_isJoint_9 rfl ?_
  refine z_rgo (va_runS (As := [.long ((x1).toInt64), .long 0, .long ((((S.1 0) - 1)).toInt64)]) (rest := []) ⟨hx, hb, hml, hown, hts⟩ (c7_in l g   ((x1).toInt64) 0 ((((S.1 0) - 1)).toInt64)) (va_cwS 3 hts gX7_isJoint_X7_in rfl rfl rfl (by decide +kernel) ⟨Nat.le_of_ble_eq_true rfl, Nat.le_of_ble_eq_true rfl⟩) (z_rpre z_nil hK) rfl rfl hl.1 rfl (lv_room (Nat.le_of_ble_eq_true rfl)) dX7_isJoint_10 ⟨Nat.zero_le _, Nat.zero_le _⟩) ?_
  exact z_rz hx hb hr hlk (b7_in ((x1).toInt64) 0 ((((S.1 0) - 1)).toInt64)) (congrArg (fun z => some (Value.int z)) hF) dX7_isJoint_13
theorem b7_isJoint (S : MS) (x1 : Int32) : narrow .boolean (.int (f7_isJoint S x1)) = .int (f7_isJoint S x1) := by
  unfold f7_isJoint
  repeat' split
  all_goals first | rfl | exact b7_in _ _ _
def f7_hear (S : MS) (x1 : Int32) (x2 : Int32) (x3 : Int32) : Option (Int32 × MS) := if (f7_isWalker S x1) = 0 then some ((-1), S) else if (f7_isJoint S x2) = 0 then some ((-1), S) else if (f7_in ((x3).toInt64) 1 9) = 0 then some ((-2), S) else if (S.1 30) = 6 then some ((-4), S) else (zwr (S.2.1 31) 6 (S.1 30) x1).bind fun f5 => bd (mA S 31 f5) (fun (S6 : MS) => (zwr (S6.2.1 32) 6 (S6.1 30) x2).bind fun f7 => bd (mA S6 32 f7) (fun (S8 : MS) => (zwr (S8.2.1 33) 6 (S8.1 30) x3).bind fun f9 => bd (mA S8 33 f9) (fun (S10 : MS) => bd (sI S10 30 ((S10.1 30) + 1)) (fun (S11 : MS) => some ((S11.1 30), S11)))))
abbrev rmX7_hear : Room := { frames := 2, cells := 0, slots := 0, locals := 46 }
set_option maxHeartbeats 4000000 in
set_option maxRecDepth 100000 in
theorem c7_hear (l : Launch) (g : zG) (q : Nat → Nat) (S : MS) (x1 : Int32) (x2 : Int32) (x3 : Int32) (ro : Int32) (S_o : MS) (hF : f7_hear S x1 x2 x3 = some (ro, S_o)) : zRW l g yX7_hear wsX7_hear rmX7_hear [.ref (q 0), .int x1, .int x2, .int x3] (MW g q S) (some (.int ro)) (MW g q S_o) := by
  refine zRW_of (cc := cX7_hear) (maxL := 4) (ret := (some .int)) (by decide) rfl (Nat.le_of_ble_eq_true rfl) ?_
  intro p e s m args below meth c A H locs ls hx hb hr hml hts hown hlk hK hA hP hD hS hl
  have hown : s.vm.findClass RX7 = some m.cls := hown
  have hl : lv_has ls 4 [(0, .ref (q 0)), (1, .int x1), (2, .int x2), (3, .int x3)] := hl
  have inX7 : ∀ w ∈ wsX70, w ∈ wsX7_hear := fun _ h => List.mem_cons_of_mem _ (List.mem_append_right _ h)
  unfold f7_hear at hF
  refine lv_aload_n hx hb dX7_hear_0 rfl (lv_at hl 0 rfl) ?_
  refine lv_iload_n hx hb dX7_hear_1 rfl (lv_at hl 1 rfl) ?_
  refine z_rgo (va_runV (As := [.int x1]) (rest := []) ⟨hx, hb, hml, hown, hts⟩ (c7_isWalker l g q S x1) (cwV 1 hts gX7_hear_X7_isWalker rfl rfl rfl (by decide +kernel) ⟨Nat.le_of_ble_eq_true rfl, Nat.le_of_ble_eq_true rfl⟩) (z_rpreV (ci := 7) (q := (RX7, TX7, 37)) (q0 := 0) hP hK rfl rfl) rfl rfl hl.1 rfl (lv_room (Nat.le_of_ble_eq_true rfl)) dX7_hear_2 ⟨Nat.zero_le _, Nat.zero_le _⟩) ?_
  refine lv_if_eq (tgt := 16) hx hb dX7_hear_5 (by decide) (fun c1 => ?_) (fun c1 => ?_)
  · have hF := zit c1 hF
    refine lv_iconst (v := (-1)) hx hb dX7_hear_16 (by decide) ?_
    obtain ⟨e9a, e9b⟩ := Prod.mk.inj (zin hF)
    exact z_wi hx hb hr hlk hP hD hS (congrArg (fun z => some (Value.int z)) e9a) (by rw [e9b]) dX7_hear_17
  · have hF := zif c1 hF
    refine lv_aload_n hx hb dX7_hear_8 rfl (lv_at hl 0 rfl) ?_
    refine lv_iload_n hx hb dX7_hear_9 rfl (lv_at hl 2 rfl) ?_
    refine z_rgo (va_runV (As := [.int x2]) (rest := []) ⟨hx, hb, hml, hown, hts⟩ (c7_isJoint l g q S x2) (cwV 1 hts gX7_hear_X7_isJoint rfl rfl rfl (by decide +kernel) ⟨Nat.le_of_ble_eq_true rfl, Nat.le_of_ble_eq_true rfl⟩) (z_rpreV (ci := 7) (q := (RX7, TX7, 37)) (q0 := 0) hP hK rfl rfl) rfl rfl hl.1 rfl (lv_room (Nat.le_of_ble_eq_true rfl)) dX7_hear_10 ⟨Nat.zero_le _, Nat.zero_le _⟩) ?_
    refine lv_if_ne (tgt := 18) hx hb dX7_hear_13 (by decide) (fun c2 => ?_) (fun c2 => ?_)
    · have hF := zif c2 hF
      refine lv_iload_n hx hb dX7_hear_18 rfl (lv_at hl 3 rfl) ?_
      refine lv_i2l (v := (x3).toInt64) hx hb dX7_hear_19 rfl ?_
      refine lv_lconst (v := 1) hx hb dX7_hear_20 (by decide) ?_
      refine lv_ldc2 (own := RX7) (v := 9) hx hb hown (hts (.constantLong RX7 90 9) (List.mem_of_getElem? (i := 1) rfl)) dX7_hear_21 ?_
      refine z_rgo (va_runS (As := [.long ((x3).toInt64), .long 1, .long 9]) (rest := []) ⟨hx, hb, hml, hown, hts⟩ (c7_in l g   ((x3).toInt64) 1 9) (va_cwS 3 hts gX7_hear_X7_in rfl rfl rfl (by decide +kernel) ⟨Nat.le_of_ble_eq_true rfl, Nat.le_of_ble_eq_true rfl⟩) (z_rpre z_nil hK) rfl rfl hl.1 rfl (lv_room (Nat.le_of_ble_eq_true rfl)) dX7_hear_24 ⟨Nat.zero_le _, Nat.zero_le _⟩) ?_
      refine lv_if_ne (tgt := 33) hx hb dX7_hear_27 (by decide) (fun c3 => ?_) (fun c3 => ?_)
      · have hF := zif c3 hF
        refine lv_aload_n hx hb dX7_hear_33 rfl (lv_at hl 0 rfl) ?_
        refine z_get (ci := 7) (v := .int (S.1 30)) (C := RX7) (T := TX7) (N := 37) hx hb hts inX7 hown hK hP 0 rfl rfl 30 (by decide) (List.mem_of_getElem? (i := 2) rfl) rfl rfl dX7_hear_34 ?_
        refine lv_bipush (v := 6) hx hb dX7_hear_37 (by decide) ?_
        refine lv_icmp_ne (tgt := 45) hx hb dX7_hear_39 (by decide) (fun c4 => ?_) (fun c4 => ?_)
        · have hF := zif c4 hF
          refine lv_aload_n hx hb dX7_hear_45 rfl (lv_at hl 0 rfl) ?_
          refine z_get (ci := 7) (v := .ref (q 15)) (C := RX7) (T := TX7) (N := 37) hx hb hts inX7 hown hK hP 0 rfl rfl 31 (by decide) (List.mem_of_getElem? (i := 3) rfl) rfl rfl dX7_hear_46 ?_
          refine lv_aload_n hx hb dX7_hear_49 rfl (lv_at hl 0 rfl) ?_
          refine z_get (ci := 7) (v := .int (S.1 30)) (C := RX7) (T := TX7) (N := 37) hx hb hts inX7 hown hK hP 0 rfl rfl 30 (by decide) (List.mem_of_getElem? (i := 2) rfl) rfl rfl dX7_hear_50 ?_
          refine lv_iload_n hx hb dX7_hear_53 rfl (lv_at hl 1 rfl) ?_
          obtain ⟨f5, hf5, hF⟩ := zob hF
          refine z_iast (ws' := MW g q (mA S 31 f5)) hx hb hK hP hD hS 15 rfl hf5 rfl dX7_hear_54 (fun H locs hP hD hS => ?_)
          obtain ⟨S6, eS6⟩ : ∃ y : MS, y = (mA S 31 f5) := ⟨_, rfl⟩
          rw [← eS6] at hP hD
          have hF := bd_eq eS6 hF
          refine lv_aload_n hx hb dX7_hear_55 rfl (lv_at hl 0 rfl) ?_
          refine z_get (ci := 7) (v := .ref (q 16)) (C := RX7) (T := TX7) (N := 37) hx hb hts inX7 hown hK hP 0 rfl rfl 32 (by decide) (List.mem_of_getElem? (i := 4) rfl) rfl rfl dX7_hear_56 ?_
          refine lv_aload_n hx hb dX7_hear_59 rfl (lv_at hl 0 rfl) ?_
          refine z_get (ci := 7) (v := .int (S6.1 30)) (C := RX7) (T := TX7) (N := 37) hx hb hts inX7 hown hK hP 0 rfl rfl 30 (by decide) (List.mem_of_getElem? (i := 2) rfl) rfl rfl dX7_hear_60 ?_
          refine lv_iload_n hx hb dX7_hear_63 rfl (lv_at hl 2 rfl) ?_
          obtain ⟨f7, hf7, hF⟩ := zob hF
          refine z_iast (ws' := MW g q (mA S6 32 f7)) hx hb hK hP hD hS 16 rfl hf7 rfl dX7_hear_64 (fun H locs hP hD hS => ?_)
          obtain ⟨S8, eS8⟩ : ∃ y : MS, y = (mA S6 32 f7) := ⟨_, rfl⟩
          rw [← eS8] at hP hD
          have hF := bd_eq eS8 hF
          refine lv_aload_n hx hb dX7_hear_65 rfl (lv_at hl 0 rfl) ?_
          refine z_get (ci := 7) (v := .ref (q 17)) (C := RX7) (T := TX7) (N := 37) hx hb hts inX7 hown hK hP 0 rfl rfl 33 (by decide) (List.mem_of_getElem? (i := 5) rfl) rfl rfl dX7_hear_66 ?_
          refine lv_aload_n hx hb dX7_hear_69 rfl (lv_at hl 0 rfl) ?_
          refine z_get (ci := 7) (v := .int (S8.1 30)) (C := RX7) (T := TX7) (N := 37) hx hb hts inX7 hown hK hP 0 rfl rfl 30 (by decide) (List.mem_of_getElem? (i := 2) rfl) rfl rfl dX7_hear_70 ?_
          refine lv_iload_n hx hb dX7_hear_73 rfl (lv_at hl 3 rfl) ?_
          obtain ⟨f9, hf9, hF⟩ := zob hF
          refine z_iast (ws' := MW g q (mA S8 33 f9)) hx hb hK hP hD hS 17 rfl hf9 rfl dX7_hear_74 (fun H locs hP hD hS => ?_)
          obtain ⟨S10, eS10⟩ : ∃ y : MS, y = (mA S8 33 f9) := ⟨_, rfl⟩
          rw [← eS10] at hP hD
          have hF := bd_eq eS10 hF
          refine lv_aload_n hx hb dX7_hear_75 rfl (lv_at hl 0 rfl) ?_
          refine lv_dup hx hb dX7_hear_76 rfl ?_
          refine z_get (ci := 7) (v := .int (S10.1 30)) (C := RX7) (T := TX7) (N := 37) hx hb hts inX7 hown hK hP 0 rfl rfl 30 (by decide) (List.mem_of_getElem? (i := 2) rfl) rfl rfl dX7_hear_77 ?_
          refine lv_iconst (v := 1) hx hb dX7_hear_80 (by decide) ?_
          refine lv_iadd hx hb dX7_hear_81 ?_
          refine z_put (ci := 7) (v := .int ((S10.1 30) + 1)) (C := RX7) (T := TX7) (N := 37) (ws' := MW g q (sI S10 30 ((S10.1 30) + 1))) hx hb hts inX7 tyX7 tyX7_ok nmX7 hown hK hP hD hS 0 rfl rfl 30 (by decide) (List.mem_of_getElem? (i := 2) rfl) rfl rfl rfl rfl (Nat.le_of_ble_eq_true rfl) rfl dX7_hear_82 (fun H locs hP hD hS => ?_)
          obtain ⟨S11, eS11⟩ : ∃ y : MS, y = (sI S10 30 ((S10.1 30) + 1)) := ⟨_, rfl⟩
          rw [← eS11] at hP hD
          have hF := bd_eq eS11 hF
          refine lv_aload_n hx hb dX7_hear_85 rfl (lv_at hl 0 rfl) ?_
          refine z_get (ci := 7) (v := .int (S11.1 30)) (C := RX7) (T := TX7) (N := 37) hx hb hts inX7 hown hK hP 0 rfl rfl 30 (by decide) (List.mem_of_getElem? (i := 2) rfl) rfl rfl dX7_hear_86 ?_
          obtain ⟨e9a, e9b⟩ := Prod.mk.inj (zin hF)
          exact z_wi hx hb hr hlk hP hD hS (congrArg (fun z => some (Value.int z)) e9a) (by rw [e9b]) dX7_hear_89
        · have hF := zit c4 hF
          refine lv_bipush (v := (-4)) hx hb dX7_hear_42 (by decide) ?_
          obtain ⟨e9a, e9b⟩ := Prod.mk.inj (zin hF)
          exact z_wi hx hb hr hlk hP hD hS (congrArg (fun z => some (Value.int z)) e9a) (by rw [e9b]) dX7_hear_44
      · have hF := zit c3 hF
        refine lv_bipush (v := (-2)) hx hb dX7_hear_30 (by decide) ?_
        obtain ⟨e9a, e9b⟩ := Prod.mk.inj (zin hF)
        exact z_wi hx hb hr hlk hP hD hS (congrArg (fun z => some (Value.int z)) e9a) (by rw [e9b]) dX7_hear_32
    · have hF := zit c2 hF
      refine lv_iconst (v := (-1)) hx hb dX7_hear_16 (by decide) ?_
      obtain ⟨e9a, e9b⟩ := Prod.mk.inj (zin hF)
      exact z_wi hx hb hr hlk hP hD hS (congrArg (fun z => some (Value.int z)) e9a) (by rw [e9b]) dX7_hear_17
def f7_isPipe (S : MS) (x1 : Int32) : Int32 := (f7_in ((x1).toInt64) 0 ((((S.1 1) - 1)).toInt64))
abbrev rmX7_isPipe : Room := { frames := 1, cells := 0, slots := 0, locals := 25 }
set_option maxHeartbeats 4000000 in
set_option maxRecDepth 100000 in
theorem c7_isPipe (l : Launch) (g : zG) (q : Nat → Nat) (S : MS) (x1 : Int32) : zRO l g yX7_isPipe wsX7_isPipe rmX7_isPipe [.ref (q 0), .int x1] (MW g q S) (some (.int (f7_isPipe S x1))) := by
  obtain ⟨ro, hF⟩ : ∃ y : Int32, f7_isPipe S x1 = y := ⟨_, rfl⟩
  rw [hF]
  refine zRO_of (cc := cX7_isPipe) (maxL := 2) (ret := (some .boolean)) (by decide) rfl (Nat.le_of_ble_eq_true rfl) ?_
  intro p e s m args below meth c ls hx hb hr hml hts hown hlk hK hP hl
  have hown : s.vm.findClass RX7 = some m.cls := hown
  have hl : lv_has ls 2 [(0, .ref (q 0)), (1, .int x1)] := hl
  have inX7 : ∀ w ∈ wsX70, w ∈ wsX7_isPipe := fun _ h => List.mem_cons_of_mem _ (List.mem_append_right _ h)
  unfold f7_isPipe at hF
  refine lv_iload_n hx hb dX7_isPipe_0 rfl (lv_at hl 1 rfl) ?_
  refine lv_i2l (v := (x1).toInt64) hx hb dX7_isPipe_1 rfl ?_
  refine lv_lconst (v := 0) hx hb dX7_isPipe_2 (by decide) ?_
  refine lv_aload_n hx hb dX7_isPipe_3 rfl (lv_at hl 0 rfl) ?_
  refine z_get (ci := 7) (v := .int (S.1 1)) (C := RX7) (T := TX7) (N := 37) hx hb hts inX7 hown hK hP 0 rfl rfl 1 (by decide) (List.mem_of_getElem? (i := 1) rfl) rfl rfl dX7_isPipe_4 ?_
  refine lv_iconst (v := 1) hx hb dX7_isPipe_7 (by decide) ?_
  refine lv_isub hx hb dX7_isPipe_8 ?_
  refine lv_i2l (v := (((S.1 1) - 1)).toInt64) hx hb dX7_isPipe_9 rfl ?_
  refine z_rgo (va_runS (As := [.long ((x1).toInt64), .long 0, .long ((((S.1 1) - 1)).toInt64)]) (rest := []) ⟨hx, hb, hml, hown, hts⟩ (c7_in l g   ((x1).toInt64) 0 ((((S.1 1) - 1)).toInt64)) (va_cwS 3 hts gX7_isPipe_X7_in rfl rfl rfl (by decide +kernel) ⟨Nat.le_of_ble_eq_true rfl, Nat.le_of_ble_eq_true rfl⟩) (z_rpre z_nil hK) rfl rfl hl.1 rfl (lv_room (Nat.le_of_ble_eq_true rfl)) dX7_isPipe_10 ⟨Nat.zero_le _, Nat.zero_le _⟩) ?_
  exact z_rz hx hb hr hlk (b7_in ((x1).toInt64) 0 ((((S.1 1) - 1)).toInt64)) (congrArg (fun z => some (Value.int z)) hF) dX7_isPipe_13
theorem b7_isPipe (S : MS) (x1 : Int32) : narrow .boolean (.int (f7_isPipe S x1)) = .int (f7_isPipe S x1) := by
  unfold f7_isPipe
  repeat' split
  all_goals first | rfl | exact b7_in _ _ _
def f7_isRest_l6 (x1 : Int32) (x2 : Int32) (x3 : Int32) (x4 : Int32) (S : MS) : Nat → Int32 → Int32 → Option (Int32)
  | 0, _, _ => none
  | n6 + 1, y1, y2 => if (S.1 0) ≤ y2 then (zbo y1).bind fun v4 => some v4 else (zrd (S.2.1 6) 6 y2).bind fun v5 => if v5 = 1 then (if y1 = 0 then some 0 else (f7_gain S x1 x2 y2 x4).bind fun v10 => (f7_gain S x1 x2 x3 x4).bind fun v11 => if v11 < v10 then some 0 else (f7_gain S x2 x1 y2 x3).bind fun v13 => (f7_gain S x2 x1 x4 x3).bind fun v14 => if v14 < v13 then some 0 else some 1 : Option Int32).bind fun v7 => f7_isRest_l6 x1 x2 x3 x4 S n6 v7 (y2 + 1) else f7_isRest_l6 x1 x2 x3 x4 S n6 y1 (y2 + 1)
def f7_isRest (S : MS) (x1 : Int32) (x2 : Int32) (x3 : Int32) (x4 : Int32) : Option (Int32) := f7_isRest_l6 x1 x2 x3 x4 S FU 1 0
abbrev rmX7_isRest : Room := { frames := 2, cells := 0, slots := 0, locals := 47 }
set_option maxHeartbeats 4000000 in
set_option maxRecDepth 100000 in
theorem c7_isRest (l : Launch) (g : zG) (q : Nat → Nat) (S : MS) (x1 : Int32) (x2 : Int32) (x3 : Int32) (x4 : Int32) (ro : Int32) (hF : f7_isRest S x1 x2 x3 x4 = some ro) : zRO l g yX7_isRest wsX7_isRest rmX7_isRest [.ref (q 0), .int x1, .int x2, .int x3, .int x4] (MW g q S) (some (.int ro)) := by
  refine zRO_of (cc := cX7_isRest) (maxL := 7) (ret := (some .boolean)) (by decide) rfl (Nat.le_of_ble_eq_true rfl) ?_
  intro p e s m args below meth c ls hx hb hr hml hts hown hlk hK hP hl
  have hown : s.vm.findClass RX7 = some m.cls := hown
  have hl : lv_has ls 7 [(0, .ref (q 0)), (1, .int x1), (2, .int x2), (3, .int x3), (4, .int x4)] := hl
  have inX7 : ∀ w ∈ wsX70, w ∈ wsX7_isRest := fun _ h => List.mem_cons_of_mem _ (List.mem_append_right _ h)
  unfold f7_isRest at hF
  refine lv_iconst (v := 1) hx hb dX7_isRest_0 (by decide) ?_
  refine lv_istore (lv' := [(5, .int 1), (0, .ref (q 0)), (1, .int x1), (2, .int x2), (3, .int x3), (4, .int x4)]) hx hb dX7_isRest_1 hl (by decide) rfl (fun ls hl => ?_)
  refine lv_iconst (v := 0) hx hb dX7_isRest_3 (by decide) ?_
  refine lv_istore (lv' := [(6, .int 0), (5, .int 1), (0, .ref (q 0)), (1, .int x1), (2, .int x2), (3, .int x3), (4, .int x4)]) hx hb dX7_isRest_4 hl (by decide) rfl (fun ls hl => ?_)
  have L6 : ∀ (n6 : Nat) (y1 : Int32) (y2 : Int32) (ls : Array Slot), f7_isRest_l6 x1 x2 x3 x4 S n6 y1 y2 = some ro → lv_has ls 7 [(0, .ref (q 0)), (1, .int x1), (2, .int x2), (3, .int x3), (4, .int x4), (5, .int y1), (6, .int y2)] → W p l e (headSpec wsX7_isRest rmX7_isRest).room s m args below meth c s.heap [] 0 0 (MQ below (zRQ (some (.int ro))) args s 0 0 (fun _ => False)) (F0 m 6 ls []) := by
    intro n6
    induction n6 with
    | zero =>
      intro y1 y2 ls hF hl
      exact absurd (show (none : Option (Int32)) = some _ from hF) (fun h9 => by cases h9)
    | succ n6 ih6 =>
      intro y1 y2 ls hF hl
      rw [f7_isRest_l6] at hF
      refine lv_iload hx hb dX7_isRest_6 (lv_at hl 6 rfl) ?_
      refine lv_aload_n hx hb dX7_isRest_8 rfl (lv_at hl 0 rfl) ?_
      refine z_get (ci := 7) (v := .int (S.1 0)) (C := RX7) (T := TX7) (N := 37) hx hb hts inX7 hown hK hP 0 rfl rfl 0 (by decide) (List.mem_of_getElem? (i := 1) rfl) rfl rfl dX7_isRest_9 ?_
      refine lv_icmp_ge (tgt := 87) hx hb dX7_isRest_12 (by decide) (fun c3 => ?_) (fun c3 => ?_)
      · have hF := zit c3 hF
        refine lv_iload hx hb dX7_isRest_87 (lv_at hl 5 rfl) ?_
        obtain ⟨v4, hv4, hF⟩ := zob hF
        have qv4 := zbo_eq hv4
        refine lv_topi (fun yv4 eyv4 => ?_)
        obtain rfl : yv4 = v4 := eyv4.trans qv4.symm
        have e9a := zin hF
        exact z_rz hx hb hr hlk (zbo_in hv4) (congrArg (fun z => some (Value.int z)) e9a) dX7_isRest_89
      · have hF := zif c3 hF
        refine lv_aload_n hx hb dX7_isRest_15 rfl (lv_at hl 0 rfl) ?_
        refine z_get (ci := 7) (v := .ref (q 2)) (C := RX7) (T := TX7) (N := 37) hx hb hts inX7 hown hK hP 0 rfl rfl 6 (by decide) (List.mem_of_getElem? (i := 2) rfl) rfl rfl dX7_isRest_16 ?_
        refine lv_iload hx hb dX7_isRest_19 (lv_at hl 6 rfl) ?_
        obtain ⟨v5, hv5, hF⟩ := zob hF
        refine z_iald hx hb hK hP 2 rfl hv5 dX7_isRest_21 ?_
        refine lv_iconst (v := 1) hx hb dX7_isRest_22 (by decide) ?_
        refine lv_icmp_ne (tgt := 81) hx hb dX7_isRest_23 (by decide) (fun c6 => ?_) (fun c6 => ?_)
        · have hF := zif c6 hF
          refine lv_iinc (v := (y2 + 1)) (lv' := [(6, .int (y2 + 1)), (0, .ref (q 0)), (1, .int x1), (2, .int x2), (3, .int x3), (4, .int x4), (5, .int y1)]) hx hb dX7_isRest_81 hl (k := 6) rfl rfl (by decide) rfl (fun ls hl => ?_)
          refine lv_goto (tgt := 6) hx hb dX7_isRest_84 (by decide) ?_
          exact ih6 y1 (y2 + 1) ls hF (lv_sub hl [1, 2, 3, 4, 5, 6, 0] rfl)
        · have hF := zit c6 hF
          refine lv_iload hx hb dX7_isRest_26 (lv_at hl 5 rfl) ?_
          obtain ⟨v7, hVv7, hF⟩ := zob hF
          have Jv7 : W p l e (headSpec wsX7_isRest rmX7_isRest).room s m args below meth c s.heap [] 0 0 (MQ below (zRQ (some (.int ro))) args s 0 0 (fun _ => False)) (F0 m 79 ls [.int v7]) := by
            refine lv_istore (lv' := [(5, .int v7), (0, .ref (q 0)), (1, .int x1), (2, .int x2), (3, .int x3), (4, .int x4), (6, .int y2)]) hx hb dX7_isRest_79 hl (by decide) rfl (fun ls hl => ?_)
            refine lv_iinc (v := (y2 + 1)) (lv' := [(6, .int (y2 + 1)), (5, .int v7), (0, .ref (q 0)), (1, .int x1), (2, .int x2), (3, .int x3), (4, .int x4)]) hx hb dX7_isRest_81 hl (k := 6) rfl rfl (by decide) rfl (fun ls hl => ?_)
            refine lv_goto (tgt := 6) hx hb dX7_isRest_84 (by decide) ?_
            exact ih6 v7 (y2 + 1) ls hF (lv_sub hl [2, 3, 4, 5, 6, 1, 0] rfl)
          refine lv_if_eq (tgt := 78) hx hb dX7_isRest_28 (by decide) (fun c9 => ?_) (fun c9 => ?_)
          · have hVv7 := zit c9 hVv7
            refine lv_iconst (v := 0) hx hb dX7_isRest_78 (by decide) ?_
            have hVv7 := zin hVv7
            subst hVv7
            exact Jv7
          · have hVv7 := zif c9 hVv7
            refine lv_aload_n hx hb dX7_isRest_31 rfl (lv_at hl 0 rfl) ?_
            refine lv_iload_n hx hb dX7_isRest_32 rfl (lv_at hl 1 rfl) ?_
            refine lv_iload_n hx hb dX7_isRest_33 rfl (lv_at hl 2 rfl) ?_
            refine lv_iload hx hb dX7_isRest_34 (lv_at hl 6 rfl) ?_
            refine lv_iload hx hb dX7_isRest_36 (lv_at hl 4 rfl) ?_
            obtain ⟨v10, hv10, hVv7⟩ := zob hVv7
            refine z_rgo (va_runV (As := [.int x1, .int x2, .int y2, .int x4]) (rest := []) ⟨hx, hb, hml, hown, hts⟩ (c7_gain l g q S x1 x2 y2 x4 v10 hv10) (cwV 4 hts gX7_isRest_X7_gain rfl rfl rfl (by decide +kernel) ⟨Nat.le_of_ble_eq_true rfl, Nat.le_of_ble_eq_true rfl⟩) (z_rpreV (ci := 7) (q := (RX7, TX7, 37)) (q0 := 0) hP hK rfl rfl) rfl rfl hl.1 rfl (lv_room (Nat.le_of_ble_eq_true rfl)) dX7_isRest_38 ⟨Nat.zero_le _, Nat.zero_le _⟩) ?_
            refine lv_aload_n hx hb dX7_isRest_41 rfl (lv_at hl 0 rfl) ?_
            refine lv_iload_n hx hb dX7_isRest_42 rfl (lv_at hl 1 rfl) ?_
            refine lv_iload_n hx hb dX7_isRest_43 rfl (lv_at hl 2 rfl) ?_
            refine lv_iload_n hx hb dX7_isRest_44 rfl (lv_at hl 3 rfl) ?_
            refine lv_iload hx hb dX7_isRest_45 (lv_at hl 4 rfl) ?_
            obtain ⟨v11, hv11, hVv7⟩ := zob hVv7
            refine z_rgo (va_runV (As := [.int x1, .int x2, .int x3, .int x4]) (rest := [.int v10]) ⟨hx, hb, hml, hown, hts⟩ (c7_gain l g q S x1 x2 x3 x4 v11 hv11) (cwV 4 hts gX7_isRest_X7_gain rfl rfl rfl (by decide +kernel) ⟨Nat.le_of_ble_eq_true rfl, Nat.le_of_ble_eq_true rfl⟩) (z_rpreV (ci := 7) (q := (RX7, TX7, 37)) (q0 := 0) hP hK rfl rfl) rfl rfl hl.1 rfl (lv_room (Nat.le_of_ble_eq_true rfl)) dX7_isRest_47 ⟨Nat.zero_le _, Nat.zero_le _⟩) ?_
            refine lv_icmp_gt (tgt := 78) hx hb dX7_isRest_50 (by decide) (fun c12 => ?_) (fun c12 => ?_)
            · have hVv7 := zit c12 hVv7
              refine lv_iconst (v := 0) hx hb dX7_isRest_78 (by decide) ?_
              have hVv7 := zin hVv7
              subst hVv7
              exact Jv7
            · have hVv7 := zif c12 hVv7
              refine lv_aload_n hx hb dX7_isRest_53 rfl (lv_at hl 0 rfl) ?_
              refine lv_iload_n hx hb dX7_isRest_54 rfl (lv_at hl 2 rfl) ?_
              refine lv_iload_n hx hb dX7_isRest_55 rfl (lv_at hl 1 rfl) ?_
              refine lv_iload hx hb dX7_isRest_56 (lv_at hl 6 rfl) ?_
              refine lv_iload_n hx hb dX7_isRest_58 rfl (lv_at hl 3 rfl) ?_
              obtain ⟨v13, hv13, hVv7⟩ := zob hVv7
              refine z_rgo (va_runV (As := [.int x2, .int x1, .int y2, .int x3]) (rest := []) ⟨hx, hb, hml, hown, hts⟩ (c7_gain l g q S x2 x1 y2 x3 v13 hv13) (cwV 4 hts gX7_isRest_X7_gain rfl rfl rfl (by decide +kernel) ⟨Nat.le_of_ble_eq_true rfl, Nat.le_of_ble_eq_true rfl⟩) (z_rpreV (ci := 7) (q := (RX7, TX7, 37)) (q0 := 0) hP hK rfl rfl) rfl rfl hl.1 rfl (lv_room (Nat.le_of_ble_eq_true rfl)) dX7_isRest_59 ⟨Nat.zero_le _, Nat.zero_le _⟩) ?_
              refine lv_aload_n hx hb dX7_isRest_62 rfl (lv_at hl 0 rfl) ?_
              refine lv_iload_n hx hb dX7_isRest_63 rfl (lv_at hl 2 rfl) ?_
              refine lv_iload_n hx hb dX7_isRest_64 rfl (lv_at hl 1 rfl) ?_
              refine lv_iload hx hb dX7_isRest_65 (lv_at hl 4 rfl) ?_
              refine lv_iload_n hx hb dX7_isRest_67 rfl (lv_at hl 3 rfl) ?_
              obtain ⟨v14, hv14, hVv7⟩ := zob hVv7
              refine z_rgo (va_runV (As := [.int x2, .int x1, .int x4, .int x3]) (rest := [.int v13]) ⟨hx, hb, hml, hown, hts⟩ (c7_gain l g q S x2 x1 x4 x3 v14 hv14) (cwV 4 hts gX7_isRest_X7_gain rfl rfl rfl (by decide +kernel) ⟨Nat.le_of_ble_eq_true rfl, Nat.le_of_ble_eq_true rfl⟩) (z_rpreV (ci := 7) (q := (RX7, TX7, 37)) (q0 := 0) hP hK rfl rfl) rfl rfl hl.1 rfl (lv_room (Nat.le_of_ble_eq_true rfl)) dX7_isRest_68 ⟨Nat.zero_le _, Nat.zero_le _⟩) ?_
              refine lv_icmp_gt (tgt := 78) hx hb dX7_isRest_71 (by decide) (fun c15 => ?_) (fun c15 => ?_)
              · have hVv7 := zit c15 hVv7
                refine lv_iconst (v := 0) hx hb dX7_isRest_78 (by decide) ?_
                have hVv7 := zin hVv7
                subst hVv7
                exact Jv7
              · have hVv7 := zif c15 hVv7
                refine lv_iconst (v := 1) hx hb dX7_isRest_74 (by decide) ?_
                refine lv_goto (tgt := 79) hx hb dX7_isRest_75 (by decide) ?_
                have hVv7 := zin hVv7
                subst hVv7
                exact Jv7
  exact L6 FU 1 0 ls hF (lv_sub hl [2, 3, 4, 5, 6, 1, 0] rfl)
def f7_joint (S : MS) (x1 : Int32) (x2 : Int32) : Option (Int32) := if (f7_isJoint S x1) = 0 then some (-1) else if x2 = 0 then (zrd (S.2.1 5) 6 x1).bind fun v3 => some v3 else if x2 = 1 then (zrd (S.2.1 6) 6 x1).bind fun v5 => some v5 else if x2 = 2 then (zrd (S.2.1 11) 38 17).bind fun v7 => some ((v7 >>> (x1 &&& 31)) &&& 1) else if x2 = 3 then (zrd (S.2.1 5) 6 x1).bind fun v9 => (f7_tideOn S 0).bind fun v10 => if v10 ≤ v9 then some 0 else some 1 else if x2 = 4 then (f7_joinedOn S 0 x1).bind fun v13 => some v13 else some (-2)
abbrev rmX7_joint : Room := { frames := 2, cells := 0, slots := 0, locals := 46 }
set_option maxHeartbeats 4000000 in
set_option maxRecDepth 100000 in
theorem c7_joint (l : Launch) (g : zG) (q : Nat → Nat) (S : MS) (x1 : Int32) (x2 : Int32) (ro : Int32) (hF : f7_joint S x1 x2 = some ro) : zRO l g yX7_joint wsX7_joint rmX7_joint [.ref (q 0), .int x1, .int x2] (MW g q S) (some (.int ro)) := by
  refine zRO_of (cc := cX7_joint) (maxL := 3) (ret := (some .int)) (by decide) rfl (Nat.le_of_ble_eq_true rfl) ?_
  intro p e s m args below meth c ls hx hb hr hml hts hown hlk hK hP hl
  have hown : s.vm.findClass RX7 = some m.cls := hown
  have hl : lv_has ls 3 [(0, .ref (q 0)), (1, .int x1), (2, .int x2)] := hl
  have inX7 : ∀ w ∈ wsX70, w ∈ wsX7_joint := fun _ h => List.mem_cons_of_mem _ (List.mem_append_right _ h)
  unfold f7_joint at hF
  refine lv_aload_n hx hb dX7_joint_0 rfl (lv_at hl 0 rfl) ?_
  refine lv_iload_n hx hb dX7_joint_1 rfl (lv_at hl 1 rfl) ?_
  refine z_rgo (va_runV (As := [.int x1]) (rest := []) ⟨hx, hb, hml, hown, hts⟩ (c7_isJoint l g q S x1) (cwV 1 hts gX7_joint_X7_isJoint rfl rfl rfl (by decide +kernel) ⟨Nat.le_of_ble_eq_true rfl, Nat.le_of_ble_eq_true rfl⟩) (z_rpreV (ci := 7) (q := (RX7, TX7, 37)) (q0 := 0) hP hK rfl rfl) rfl rfl hl.1 rfl (lv_room (Nat.le_of_ble_eq_true rfl)) dX7_joint_2 ⟨Nat.zero_le _, Nat.zero_le _⟩) ?_
  refine lv_if_ne (tgt := 10) hx hb dX7_joint_5 (by decide) (fun c1 => ?_) (fun c1 => ?_)
  · have hF := zif c1 hF
    refine lv_iload_n hx hb dX7_joint_10 rfl (lv_at hl 2 rfl) ?_
    by_cases c2 : x2 = 0
    · have hF := zit c2 hF
      refine z_tin (k := 0) (tgt := 44) hx hb dX7_joint_11 c2 ⟨by decide, by decide, rfl, by decide⟩ ?_
      refine lv_aload_n hx hb dX7_joint_44 rfl (lv_at hl 0 rfl) ?_
      refine z_get (ci := 7) (v := .ref (q 1)) (C := RX7) (T := TX7) (N := 37) hx hb hts inX7 hown hK hP 0 rfl rfl 5 (by decide) (List.mem_of_getElem? (i := 1) rfl) rfl rfl dX7_joint_45 ?_
      refine lv_iload_n hx hb dX7_joint_48 rfl (lv_at hl 1 rfl) ?_
      obtain ⟨v3, hv3, hF⟩ := zob hF
      refine z_iald hx hb hK hP 1 rfl hv3 dX7_joint_49 ?_
      have e9a := zin hF
      exact z_ri hx hb hr hlk (congrArg (fun z => some (Value.int z)) e9a) dX7_joint_50
    · have hF := zif c2 hF
      by_cases c4 : x2 = 1
      · have hF := zit c4 hF
        refine z_tin (k := 1) (tgt := 51) hx hb dX7_joint_11 c4 ⟨by decide, by decide, rfl, by decide⟩ ?_
        refine lv_aload_n hx hb dX7_joint_51 rfl (lv_at hl 0 rfl) ?_
        refine z_get (ci := 7) (v := .ref (q 2)) (C := RX7) (T := TX7) (N := 37) hx hb hts inX7 hown hK hP 0 rfl rfl 6 (by decide) (List.mem_of_getElem? (i := 2) rfl) rfl rfl dX7_joint_52 ?_
        refine lv_iload_n hx hb dX7_joint_55 rfl (lv_at hl 1 rfl) ?_
        obtain ⟨v5, hv5, hF⟩ := zob hF
        refine z_iald hx hb hK hP 2 rfl hv5 dX7_joint_56 ?_
        have e9a := zin hF
        exact z_ri hx hb hr hlk (congrArg (fun z => some (Value.int z)) e9a) dX7_joint_57
      · have hF := zif c4 hF
        by_cases c6 : x2 = 2
        · have hF := zit c6 hF
          refine z_tin (k := 2) (tgt := 58) hx hb dX7_joint_11 c6 ⟨by decide, by decide, rfl, by decide⟩ ?_
          refine lv_aload_n hx hb dX7_joint_58 rfl (lv_at hl 0 rfl) ?_
          refine z_get (ci := 7) (v := .ref (q 7)) (C := RX7) (T := TX7) (N := 37) hx hb hts inX7 hown hK hP 0 rfl rfl 11 (by decide) (List.mem_of_getElem? (i := 3) rfl) rfl rfl dX7_joint_59 ?_
          refine lv_bipush (v := 17) hx hb dX7_joint_62 (by decide) ?_
          obtain ⟨v7, hv7, hF⟩ := zob hF
          refine z_iald hx hb hK hP 7 rfl hv7 dX7_joint_64 ?_
          refine lv_iload_n hx hb dX7_joint_65 rfl (lv_at hl 1 rfl) ?_
          refine lv_ishr hx hb dX7_joint_66 ?_
          refine lv_iconst (v := 1) hx hb dX7_joint_67 (by decide) ?_
          refine lv_iand hx hb dX7_joint_68 ?_
          have e9a := zin hF
          exact z_ri hx hb hr hlk (congrArg (fun z => some (Value.int z)) e9a) dX7_joint_69
        · have hF := zif c6 hF
          by_cases c8 : x2 = 3
          · have hF := zit c8 hF
            refine z_tin (k := 3) (tgt := 70) hx hb dX7_joint_11 c8 ⟨by decide, by decide, rfl, by decide⟩ ?_
            refine lv_aload_n hx hb dX7_joint_70 rfl (lv_at hl 0 rfl) ?_
            refine z_get (ci := 7) (v := .ref (q 1)) (C := RX7) (T := TX7) (N := 37) hx hb hts inX7 hown hK hP 0 rfl rfl 5 (by decide) (List.mem_of_getElem? (i := 1) rfl) rfl rfl dX7_joint_71 ?_
            refine lv_iload_n hx hb dX7_joint_74 rfl (lv_at hl 1 rfl) ?_
            obtain ⟨v9, hv9, hF⟩ := zob hF
            refine z_iald hx hb hK hP 1 rfl hv9 dX7_joint_75 ?_
            refine lv_aload_n hx hb dX7_joint_76 rfl (lv_at hl 0 rfl) ?_
            refine lv_iconst (v := 0) hx hb dX7_joint_77 (by decide) ?_
            obtain ⟨v10, hv10, hF⟩ := zob hF
            refine z_rgo (va_runV (As := [.int 0]) (rest := [.int v9]) ⟨hx, hb, hml, hown, hts⟩ (c7_tideOn l g q S 0 v10 hv10) (cwV 1 hts gX7_joint_X7_tideOn rfl rfl rfl (by decide +kernel) ⟨Nat.le_of_ble_eq_true rfl, Nat.le_of_ble_eq_true rfl⟩) (z_rpreV (ci := 7) (q := (RX7, TX7, 37)) (q0 := 0) hP hK rfl rfl) rfl rfl hl.1 rfl (lv_room (Nat.le_of_ble_eq_true rfl)) dX7_joint_78 ⟨Nat.zero_le _, Nat.zero_le _⟩) ?_
            refine lv_icmp_ge (tgt := 88) hx hb dX7_joint_81 (by decide) (fun c11 => ?_) (fun c11 => ?_)
            · have hF := zit c11 hF
              refine lv_iconst (v := 0) hx hb dX7_joint_88 (by decide) ?_
              have e9a := zin hF
              exact z_ri hx hb hr hlk (congrArg (fun z => some (Value.int z)) e9a) dX7_joint_89
            · have hF := zif c11 hF
              refine lv_iconst (v := 1) hx hb dX7_joint_84 (by decide) ?_
              refine lv_goto (tgt := 89) hx hb dX7_joint_85 (by decide) ?_
              have e9a := zin hF
              exact z_ri hx hb hr hlk (congrArg (fun z => some (Value.int z)) e9a) dX7_joint_89
          · have hF := zif c8 hF
            by_cases c12 : x2 = 4
            · have hF := zit c12 hF
              refine z_tin (k := 4) (tgt := 90) hx hb dX7_joint_11 c12 ⟨by decide, by decide, rfl, by decide⟩ ?_
              refine lv_aload_n hx hb dX7_joint_90 rfl (lv_at hl 0 rfl) ?_
              refine lv_iconst (v := 0) hx hb dX7_joint_91 (by decide) ?_
              refine lv_iload_n hx hb dX7_joint_92 rfl (lv_at hl 1 rfl) ?_
              obtain ⟨v13, hv13, hF⟩ := zob hF
              refine z_rgo (va_runV (As := [.int 0, .int x1]) (rest := []) ⟨hx, hb, hml, hown, hts⟩ (c7_joinedOn l g q S 0 x1 v13 hv13) (cwV 2 hts gX7_joint_X7_joinedOn rfl rfl rfl (by decide +kernel) ⟨Nat.le_of_ble_eq_true rfl, Nat.le_of_ble_eq_true rfl⟩) (z_rpreV (ci := 7) (q := (RX7, TX7, 37)) (q0 := 0) hP hK rfl rfl) rfl rfl hl.1 rfl (lv_room (Nat.le_of_ble_eq_true rfl)) dX7_joint_93 ⟨Nat.zero_le _, Nat.zero_le _⟩) ?_
              have e9a := zin hF
              exact z_ri hx hb hr hlk (congrArg (fun z => some (Value.int z)) e9a) dX7_joint_96
            · have hF := zif c12 hF
              refine z_tout hx hb dX7_joint_11 [0, 1, 2, 3, 4] (fun k hk => ?_) rfl (tgt := 97) (by decide) ?_
              · simp only [List.mem_cons, List.not_mem_nil, or_false] at hk
                rcases hk with rfl | rfl | rfl | rfl | rfl <;> assumption
              · refine lv_bipush (v := (-2)) hx hb dX7_joint_97 (by decide) ?_
                have e9a := zin hF
                exact z_ri hx hb hr hlk (congrArg (fun z => some (Value.int z)) e9a) dX7_joint_99
  · have hF := zit c1 hF
    refine lv_iconst (v := (-1)) hx hb dX7_joint_8 (by decide) ?_
    have e9a := zin hF
    exact z_ri hx hb hr hlk (congrArg (fun z => some (Value.int z)) e9a) dX7_joint_9
def f7_tryThing_j52 (x1 : Int32) (x2 : Int32) (S1 : MS) : Option (Int32 × MS) := (if (f7_isPipe S1 x2) = 0 then some 0 else (zrd (S1.2.1 11) 38 35).bind fun v5 => bd (α := Int32) (if x1 = 1 then 1 else 0) (fun (v6 : Int32) => if (f7_has v5 x2) = v6 then some 1 else some 0) : Option Int32).bind fun v2 => (zrd (S1.2.1 11) 38 35).bind fun v9 => bd (α := Int32) (if v2 = 0 then 0 else ((1 : Int32) <<< (x2 &&& 31))) (fun (v10 : Int32) => (zwr (S1.2.1 11) 38 35 (v9 ^^^ v10)).bind fun f12 => bd (mA S1 11 f12) (fun (S13 : MS) => (zbo v2).bind fun v14 => some (v14, S13)))
def f7_tryThing (S : MS) (x1 : Int32) (x2 : Int32) : Option (Int32 × MS) := if x1 = 0 then (f7_stepOn S 1).bind fun (v17, S16) => if x2 = 0 then some (1, S16) else some (0, S16) else if x1 = 1 then f7_tryThing_j52 x1 x2 S else if x1 = 2 then f7_tryThing_j52 x1 x2 S else if x1 = 3 then (if (f7_isJoint S x2) = 0 then some 0 else (zrd (S.2.1 6) 6 x2).bind fun v25 => if v25 = 1 then some 1 else some 0 : Option Int32).bind fun v22 => (zrd (S.2.1 11) 38 36).bind fun v27 => bd (α := Int32) (if v22 = 0 then 0 else ((1 : Int32) <<< (x2 &&& 31))) (fun (v28 : Int32) => (zwr (S.2.1 11) 38 36 (v27 ^^^ v28)).bind fun f30 => bd (mA S 11 f30) (fun (S31 : MS) => (zbo v22).bind fun v32 => some (v32, S31))) else if x1 = 4 then (if (f7_isWalker S x2) = 0 then some 0 else (f7_isOut S 1 x2).bind fun v37 => if v37 = 0 then some 1 else some 0 : Option Int32).bind fun v34 => if v34 = 0 then (zbo v34).bind fun v40 => some (v40, S) else (f7_callOn S 1 x2).bind fun S41 => (zbo v34).bind fun v42 => some (v42, S41) else some (0, S)
abbrev rmX7_tryThing : Room := { frames := 5, cells := 0, slots := 0, locals := 125 }
set_option maxHeartbeats 4000000 in
set_option maxRecDepth 100000 in
theorem c7_tryThing (l : Launch) (g : zG) (q : Nat → Nat) (S : MS) (x1 : Int32) (x2 : Int32) (ro : Int32) (S_o : MS) (hF : f7_tryThing S x1 x2 = some (ro, S_o)) : zRW l g yX7_tryThing wsX7_tryThing rmX7_tryThing [.ref (q 0), .int x1, .int x2] (MW g q S) (some (.int ro)) (MW g q S_o) := by
  refine zRW_of (cc := cX7_tryThing) (maxL := 6) (ret := (some .boolean)) (by decide) rfl (Nat.le_of_ble_eq_true rfl) ?_
  intro p e s m args below meth c A H locs ls hx hb hr hml hts hown hlk hK hA hP hD hS hl
  have hown : s.vm.findClass RX7 = some m.cls := hown
  have hl : lv_has ls 6 [(0, .ref (q 0)), (1, .int x1), (2, .int x2)] := hl
  have inX7 : ∀ w ∈ wsX70, w ∈ wsX7_tryThing := fun _ h => List.mem_cons_of_mem _ (List.mem_append_right _ h)
  unfold f7_tryThing at hF
  refine lv_iload_n hx hb dX7_tryThing_0 rfl (lv_at hl 1 rfl) ?_
  have L52 : ∀ (S1 : MS) (H : Heap) (locs : List Loc) (ls : Array Slot), f7_tryThing_j52 x1 x2 S1 = some (ro, S_o) → va_P (zD g) vwCl (MW g q S1) H → va_D A (MW g q S1) → va_S A s.heap H locs → lv_has ls 6 [(0, .ref (q 0)), (1, .int x1), (2, .int x2)] → W p l e (headSpec wsX7_tryThing rmX7_tryThing).room s m args below meth c H locs 0 0 (MQ below (zWQ g A (MW g q S_o) (some (.int ro))) args s 0 0 A) (F0 m 52 ls []) := by
    intro S1 H locs ls hF hP hD hS hl
    unfold f7_tryThing_j52 at hF
    refine lv_aload_n hx hb dX7_tryThing_52 rfl (lv_at hl 0 rfl) ?_
    refine lv_iload_n hx hb dX7_tryThing_53 rfl (lv_at hl 2 rfl) ?_
    refine z_rgo (va_runV (As := [.int x2]) (rest := []) ⟨hx, hb, hml, hown, hts⟩ (c7_isPipe l g q S1 x2) (cwV 1 hts gX7_tryThing_X7_isPipe rfl rfl rfl (by decide +kernel) ⟨Nat.le_of_ble_eq_true rfl, Nat.le_of_ble_eq_true rfl⟩) (z_rpreV (ci := 7) (q := (RX7, TX7, 37)) (q0 := 0) hP hK rfl rfl) rfl rfl hl.1 rfl (lv_room (Nat.le_of_ble_eq_true rfl)) dX7_tryThing_54 ⟨Nat.zero_le _, Nat.zero_le _⟩) ?_
    obtain ⟨v2, hVv2, hF⟩ := zob hF
    have Jv2 : W p l e (headSpec wsX7_tryThing rmX7_tryThing).room s m args below meth c H locs 0 0 (MQ below (zWQ g A (MW g q S_o) (some (.int ro))) args s 0 0 A) (F0 m 89 ls [.int v2]) := by
      refine lv_istore_n (lv' := [(3, .int v2), (0, .ref (q 0)), (1, .int x1), (2, .int x2)]) hx hb dX7_tryThing_89 rfl hl (by decide) rfl (fun ls hl => ?_)
      refine lv_aload_n hx hb dX7_tryThing_90 rfl (lv_at hl 1 rfl) ?_
      refine z_get (ci := 7) (v := .ref (q 7)) (C := RX7) (T := TX7) (N := 37) hx hb hts inX7 hown hK hP 0 rfl rfl 11 (by decide) (List.mem_of_getElem? (i := 1) rfl) rfl rfl dX7_tryThing_91 ?_
      refine lv_bipush (v := 35) hx hb dX7_tryThing_94 (by decide) ?_
      refine lv_dup2_11 hx hb dX7_tryThing_96 rfl rfl ?_
      obtain ⟨v9, hv9, hF⟩ := zob hF
      refine z_iald hx hb hK hP 7 rfl hv9 dX7_tryThing_97 ?_
      refine lv_iload_n hx hb dX7_tryThing_98 rfl (lv_at hl 0 rfl) ?_
      obtain ⟨v10, hVv10⟩ : ∃ y : Int32, (if v2 = 0 then 0 else ((1 : Int32) <<< (x2 &&& 31)) : Int32) = y := ⟨_, rfl⟩
      have hF := bd_eq hVv10.symm hF
      have Jv10 : W p l e (headSpec wsX7_tryThing rmX7_tryThing).room s m args below meth c H locs 0 0 (MQ below (zWQ g A (MW g q S_o) (some (.int ro))) args s 0 0 A) (F0 m 109 ls [.int v10, .int v9, .int 35, .ref (q 7)]) := by
        refine lv_ixor hx hb dX7_tryThing_109 ?_
        obtain ⟨f12, hf12, hF⟩ := zob hF
        refine z_iast (ws' := MW g q (mA S1 11 f12)) hx hb hK hP hD hS 7 rfl hf12 rfl dX7_tryThing_110 (fun H locs hP hD hS => ?_)
        obtain ⟨S13, eS13⟩ : ∃ y : MS, y = (mA S1 11 f12) := ⟨_, rfl⟩
        rw [← eS13] at hP hD
        have hF := bd_eq eS13 hF
        refine lv_iload_n hx hb dX7_tryThing_111 rfl (lv_at hl 0 rfl) ?_
        obtain ⟨v14, hv14, hF⟩ := zob hF
        have qv14 := zbo_eq hv14
        refine lv_topi (fun yv14 eyv14 => ?_)
        obtain rfl : yv14 = v14 := eyv14.trans qv14.symm
        obtain ⟨e9a, e9b⟩ := Prod.mk.inj (zin hF)
        exact z_wz hx hb hr hlk (zbo_in hv14) hP hD hS (congrArg (fun z => some (Value.int z)) e9a) (by rw [e9b]) dX7_tryThing_112
      refine lv_if_eq (tgt := 108) hx hb dX7_tryThing_99 (by decide) (fun c11 => ?_) (fun c11 => ?_)
      · have hVv10 := zit c11 hVv10
        refine lv_iconst (v := 0) hx hb dX7_tryThing_108 (by decide) ?_
        subst hVv10
        exact Jv10
      · have hVv10 := zif c11 hVv10
        refine lv_iconst (v := 1) hx hb dX7_tryThing_102 (by decide) ?_
        refine lv_iload_n hx hb dX7_tryThing_103 rfl (lv_at hl 3 rfl) ?_
        refine lv_ishl hx hb dX7_tryThing_104 ?_
        refine lv_goto (tgt := 109) hx hb dX7_tryThing_105 (by decide) ?_
        subst hVv10
        exact Jv10
    refine lv_if_eq (tgt := 88) hx hb dX7_tryThing_57 (by decide) (fun c4 => ?_) (fun c4 => ?_)
    · have hVv2 := zit c4 hVv2
      refine lv_iconst (v := 0) hx hb dX7_tryThing_88 (by decide) ?_
      have hVv2 := zin hVv2
      subst hVv2
      exact Jv2
    · have hVv2 := zif c4 hVv2
      refine lv_aload_n hx hb dX7_tryThing_60 rfl (lv_at hl 0 rfl) ?_
      refine z_get (ci := 7) (v := .ref (q 7)) (C := RX7) (T := TX7) (N := 37) hx hb hts inX7 hown hK hP 0 rfl rfl 11 (by decide) (List.mem_of_getElem? (i := 1) rfl) rfl rfl dX7_tryThing_61 ?_
      refine lv_bipush (v := 35) hx hb dX7_tryThing_64 (by decide) ?_
      obtain ⟨v5, hv5, hVv2⟩ := zob hVv2
      refine z_iald hx hb hK hP 7 rfl hv5 dX7_tryThing_66 ?_
      refine lv_iload_n hx hb dX7_tryThing_67 rfl (lv_at hl 2 rfl) ?_
      refine z_rgo (va_runS (As := [.int v5, .int x2]) (rest := []) ⟨hx, hb, hml, hown, hts⟩ (c7_has l g   v5 x2) (va_cwS 2 hts gX7_tryThing_X7_has rfl rfl rfl (by decide +kernel) ⟨Nat.le_of_ble_eq_true rfl, Nat.le_of_ble_eq_true rfl⟩) (z_rpre z_nil hK) rfl rfl hl.1 rfl (lv_room (Nat.le_of_ble_eq_true rfl)) dX7_tryThing_68 ⟨Nat.zero_le _, Nat.zero_le _⟩) ?_
      refine lv_iload_n hx hb dX7_tryThing_71 rfl (lv_at hl 1 rfl) ?_
      refine lv_iconst (v := 1) hx hb dX7_tryThing_72 (by decide) ?_
      obtain ⟨v6, hVv6⟩ : ∃ y : Int32, (if x1 = 1 then 1 else 0 : Int32) = y := ⟨_, rfl⟩
      have hVv2 := bd_eq hVv6.symm hVv2
      have Jv6 : W p l e (headSpec wsX7_tryThing rmX7_tryThing).room s m args below meth c H locs 0 0 (MQ below (zWQ g A (MW g q S_o) (some (.int ro))) args s 0 0 A) (F0 m 81 ls [.int v6, .int (f7_has v5 x2)]) := by
        refine lv_icmp_ne (tgt := 88) hx hb dX7_tryThing_81 (by decide) (fun c8 => ?_) (fun c8 => ?_)
        · have hVv2 := zif c8 hVv2
          refine lv_iconst (v := 0) hx hb dX7_tryThing_88 (by decide) ?_
          have hVv2 := zin hVv2
          subst hVv2
          exact Jv2
        · have hVv2 := zit c8 hVv2
          refine lv_iconst (v := 1) hx hb dX7_tryThing_84 (by decide) ?_
          refine lv_goto (tgt := 89) hx hb dX7_tryThing_85 (by decide) ?_
          have hVv2 := zin hVv2
          subst hVv2
          exact Jv2
      refine lv_icmp_ne (tgt := 80) hx hb dX7_tryThing_73 (by decide) (fun c7 => ?_) (fun c7 => ?_)
      · have hVv6 := zif c7 hVv6
        refine lv_iconst (v := 0) hx hb dX7_tryThing_80 (by decide) ?_
        subst hVv6
        exact Jv6
      · have hVv6 := zit c7 hVv6
        refine lv_iconst (v := 1) hx hb dX7_tryThing_76 (by decide) ?_
        refine lv_goto (tgt := 81) hx hb dX7_tryThing_77 (by decide) ?_
        subst hVv6
        exact Jv6
  by_cases c15 : x1 = 0
  · have hF := zit c15 hF
    refine z_tin (k := 0) (tgt := 36) hx hb dX7_tryThing_1 c15 ⟨by decide, by decide, rfl, by decide⟩ ?_
    refine lv_aload_n hx hb dX7_tryThing_36 rfl (lv_at hl 0 rfl) ?_
    refine lv_iconst (v := 1) hx hb dX7_tryThing_37 (by decide) ?_
    obtain ⟨⟨v17, S16⟩, hS16, hF⟩ := zob hF
    refine z_wgoW (va_runV (As := [.int 1]) (rest := []) ⟨hx, hb, hml, hown, hts⟩ ((c7_stepOn l g q S 1 v17  S16 hS16) H.size) (cwV 1 hts gX7_tryThing_X7_stepOn rfl rfl rfl (by decide +kernel) ⟨Nat.le_of_ble_eq_true rfl, Nat.le_of_ble_eq_true rfl⟩) (z_wpreV (ci := 7) (q := (RX7, TX7, 37)) (q0 := 0) hP hK (z_any hD) rfl rfl) rfl rfl hl.1 rfl (lv_room (Nat.le_of_ble_eq_true rfl)) dX7_tryThing_38 ⟨Nat.zero_le _, Nat.zero_le _⟩) hP hD hS hA (fun H locs hP hD hS => ?_)
    show W p l e (headSpec wsX7_tryThing rmX7_tryThing).room s m args below meth c H locs 0 0 (MQ below (zWQ g A (MW g q S_o) (some (.int ro))) args s 0 0 A) (F0 m 41 ls [.int v17])
    refine lv_pop hx hb dX7_tryThing_41 rfl ?_
    refine lv_iload_n hx hb dX7_tryThing_42 rfl (lv_at hl 2 rfl) ?_
    refine lv_if_ne (tgt := 50) hx hb dX7_tryThing_43 (by decide) (fun c18 => ?_) (fun c18 => ?_)
    · have hF := zif c18 hF
      refine lv_iconst (v := 0) hx hb dX7_tryThing_50 (by decide) ?_
      obtain ⟨e9a, e9b⟩ := Prod.mk.inj (zin hF)
      exact z_wz hx hb hr hlk rfl hP hD hS (congrArg (fun z => some (Value.int z)) e9a) (by rw [e9b]) dX7_tryThing_51
    · have hF := zit c18 hF
      refine lv_iconst (v := 1) hx hb dX7_tryThing_46 (by decide) ?_
      refine lv_goto (tgt := 51) hx hb dX7_tryThing_47 (by decide) ?_
      obtain ⟨e9a, e9b⟩ := Prod.mk.inj (zin hF)
      exact z_wz hx hb hr hlk rfl hP hD hS (congrArg (fun z => some (Value.int z)) e9a) (by rw [e9b]) dX7_tryThing_51
  · have hF := zif c15 hF
    by_cases c19 : x1 = 1
    · have hF := zit c19 hF
      refine z_tin (k := 1) (tgt := 52) hx hb dX7_tryThing_1 c19 ⟨by decide, by decide, rfl, by decide⟩ ?_
      exact L52 S H locs ls hF hP hD hS (lv_sub hl [0, 1, 2] rfl)
    · have hF := zif c19 hF
      by_cases c20 : x1 = 2
      · have hF := zit c20 hF
        refine z_tin (k := 2) (tgt := 52) hx hb dX7_tryThing_1 c20 ⟨by decide, by decide, rfl, by decide⟩ ?_
        exact L52 S H locs ls hF hP hD hS (lv_sub hl [0, 1, 2] rfl)
      · have hF := zif c20 hF
        by_cases c21 : x1 = 3
        · have hF := zit c21 hF
          refine z_tin (k := 3) (tgt := 113) hx hb dX7_tryThing_1 c21 ⟨by decide, by decide, rfl, by decide⟩ ?_
          refine lv_aload_n hx hb dX7_tryThing_113 rfl (lv_at hl 0 rfl) ?_
          refine lv_iload_n hx hb dX7_tryThing_114 rfl (lv_at hl 2 rfl) ?_
          refine z_rgo (va_runV (As := [.int x2]) (rest := []) ⟨hx, hb, hml, hown, hts⟩ (c7_isJoint l g q S x2) (cwV 1 hts gX7_tryThing_X7_isJoint rfl rfl rfl (by decide +kernel) ⟨Nat.le_of_ble_eq_true rfl, Nat.le_of_ble_eq_true rfl⟩) (z_rpreV (ci := 7) (q := (RX7, TX7, 37)) (q0 := 0) hP hK rfl rfl) rfl rfl hl.1 rfl (lv_room (Nat.le_of_ble_eq_true rfl)) dX7_tryThing_115 ⟨Nat.zero_le _, Nat.zero_le _⟩) ?_
          obtain ⟨v22, hVv22, hF⟩ := zob hF
          have Jv22 : W p l e (headSpec wsX7_tryThing rmX7_tryThing).room s m args below meth c H locs 0 0 (MQ below (zWQ g A (MW g q S_o) (some (.int ro))) args s 0 0 A) (F0 m 136 ls [.int v22]) := by
            refine lv_istore (lv' := [(4, .int v22), (0, .ref (q 0)), (1, .int x1), (2, .int x2)]) hx hb dX7_tryThing_136 hl (by decide) rfl (fun ls hl => ?_)
            refine lv_aload_n hx hb dX7_tryThing_138 rfl (lv_at hl 1 rfl) ?_
            refine z_get (ci := 7) (v := .ref (q 7)) (C := RX7) (T := TX7) (N := 37) hx hb hts inX7 hown hK hP 0 rfl rfl 11 (by decide) (List.mem_of_getElem? (i := 1) rfl) rfl rfl dX7_tryThing_139 ?_
            refine lv_bipush (v := 36) hx hb dX7_tryThing_142 (by decide) ?_
            refine lv_dup2_11 hx hb dX7_tryThing_144 rfl rfl ?_
            obtain ⟨v27, hv27, hF⟩ := zob hF
            refine z_iald hx hb hK hP 7 rfl hv27 dX7_tryThing_145 ?_
            refine lv_iload hx hb dX7_tryThing_146 (lv_at hl 0 rfl) ?_
            obtain ⟨v28, hVv28⟩ : ∃ y : Int32, (if v22 = 0 then 0 else ((1 : Int32) <<< (x2 &&& 31)) : Int32) = y := ⟨_, rfl⟩
            have hF := bd_eq hVv28.symm hF
            have Jv28 : W p l e (headSpec wsX7_tryThing rmX7_tryThing).room s m args below meth c H locs 0 0 (MQ below (zWQ g A (MW g q S_o) (some (.int ro))) args s 0 0 A) (F0 m 158 ls [.int v28, .int v27, .int 36, .ref (q 7)]) := by
              refine lv_ixor hx hb dX7_tryThing_158 ?_
              obtain ⟨f30, hf30, hF⟩ := zob hF
              refine z_iast (ws' := MW g q (mA S 11 f30)) hx hb hK hP hD hS 7 rfl hf30 rfl dX7_tryThing_159 (fun H locs hP hD hS => ?_)
              obtain ⟨S31, eS31⟩ : ∃ y : MS, y = (mA S 11 f30) := ⟨_, rfl⟩
              rw [← eS31] at hP hD
              have hF := bd_eq eS31 hF
              refine lv_iload hx hb dX7_tryThing_160 (lv_at hl 0 rfl) ?_
              obtain ⟨v32, hv32, hF⟩ := zob hF
              have qv32 := zbo_eq hv32
              refine lv_topi (fun yv32 eyv32 => ?_)
              obtain rfl : yv32 = v32 := eyv32.trans qv32.symm
              obtain ⟨e9a, e9b⟩ := Prod.mk.inj (zin hF)
              exact z_wz hx hb hr hlk (zbo_in hv32) hP hD hS (congrArg (fun z => some (Value.int z)) e9a) (by rw [e9b]) dX7_tryThing_162
            refine lv_if_eq (tgt := 157) hx hb dX7_tryThing_148 (by decide) (fun c29 => ?_) (fun c29 => ?_)
            · have hVv28 := zit c29 hVv28
              refine lv_iconst (v := 0) hx hb dX7_tryThing_157 (by decide) ?_
              subst hVv28
              exact Jv28
            · have hVv28 := zif c29 hVv28
              refine lv_iconst (v := 1) hx hb dX7_tryThing_151 (by decide) ?_
              refine lv_iload_n hx hb dX7_tryThing_152 rfl (lv_at hl 3 rfl) ?_
              refine lv_ishl hx hb dX7_tryThing_153 ?_
              refine lv_goto (tgt := 158) hx hb dX7_tryThing_154 (by decide) ?_
              subst hVv28
              exact Jv28
          refine lv_if_eq (tgt := 135) hx hb dX7_tryThing_118 (by decide) (fun c24 => ?_) (fun c24 => ?_)
          · have hVv22 := zit c24 hVv22
            refine lv_iconst (v := 0) hx hb dX7_tryThing_135 (by decide) ?_
            have hVv22 := zin hVv22
            subst hVv22
            exact Jv22
          · have hVv22 := zif c24 hVv22
            refine lv_aload_n hx hb dX7_tryThing_121 rfl (lv_at hl 0 rfl) ?_
            refine z_get (ci := 7) (v := .ref (q 2)) (C := RX7) (T := TX7) (N := 37) hx hb hts inX7 hown hK hP 0 rfl rfl 6 (by decide) (List.mem_of_getElem? (i := 2) rfl) rfl rfl dX7_tryThing_122 ?_
            refine lv_iload_n hx hb dX7_tryThing_125 rfl (lv_at hl 2 rfl) ?_
            obtain ⟨v25, hv25, hVv22⟩ := zob hVv22
            refine z_iald hx hb hK hP 2 rfl hv25 dX7_tryThing_126 ?_
            refine lv_iconst (v := 1) hx hb dX7_tryThing_127 (by decide) ?_
            refine lv_icmp_ne (tgt := 135) hx hb dX7_tryThing_128 (by decide) (fun c26 => ?_) (fun c26 => ?_)
            · have hVv22 := zif c26 hVv22
              refine lv_iconst (v := 0) hx hb dX7_tryThing_135 (by decide) ?_
              have hVv22 := zin hVv22
              subst hVv22
              exact Jv22
            · have hVv22 := zit c26 hVv22
              refine lv_iconst (v := 1) hx hb dX7_tryThing_131 (by decide) ?_
              refine lv_goto (tgt := 136) hx hb dX7_tryThing_132 (by decide) ?_
              have hVv22 := zin hVv22
              subst hVv22
              exact Jv22
        · have hF := zif c21 hF
          by_cases c33 : x1 = 4
          · have hF := zit c33 hF
            refine z_tin (k := 4) (tgt := 163) hx hb dX7_tryThing_1 c33 ⟨by decide, by decide, rfl, by decide⟩ ?_
            refine lv_aload_n hx hb dX7_tryThing_163 rfl (lv_at hl 0 rfl) ?_
            refine lv_iload_n hx hb dX7_tryThing_164 rfl (lv_at hl 2 rfl) ?_
            refine z_rgo (va_runV (As := [.int x2]) (rest := []) ⟨hx, hb, hml, hown, hts⟩ (c7_isWalker l g q S x2) (cwV 1 hts gX7_tryThing_X7_isWalker rfl rfl rfl (by decide +kernel) ⟨Nat.le_of_ble_eq_true rfl, Nat.le_of_ble_eq_true rfl⟩) (z_rpreV (ci := 7) (q := (RX7, TX7, 37)) (q0 := 0) hP hK rfl rfl) rfl rfl hl.1 rfl (lv_room (Nat.le_of_ble_eq_true rfl)) dX7_tryThing_165 ⟨Nat.zero_le _, Nat.zero_le _⟩) ?_
            obtain ⟨v34, hVv34, hF⟩ := zob hF
            have Jv34 : W p l e (headSpec wsX7_tryThing rmX7_tryThing).room s m args below meth c H locs 0 0 (MQ below (zWQ g A (MW g q S_o) (some (.int ro))) args s 0 0 A) (F0 m 185 ls [.int v34]) := by
              refine lv_istore (lv' := [(5, .int v34), (0, .ref (q 0)), (1, .int x1), (2, .int x2)]) hx hb dX7_tryThing_185 hl (by decide) rfl (fun ls hl => ?_)
              refine lv_iload hx hb dX7_tryThing_187 (lv_at hl 0 rfl) ?_
              refine lv_if_eq (tgt := 198) hx hb dX7_tryThing_189 (by decide) (fun c39 => ?_) (fun c39 => ?_)
              · have hF := zit c39 hF
                refine lv_iload hx hb dX7_tryThing_198 (lv_at hl 0 rfl) ?_
                obtain ⟨v40, hv40, hF⟩ := zob hF
                have qv40 := zbo_eq hv40
                refine lv_topi (fun yv40 eyv40 => ?_)
                obtain rfl : yv40 = v40 := eyv40.trans qv40.symm
                obtain ⟨e9a, e9b⟩ := Prod.mk.inj (zin hF)
                exact z_wz hx hb hr hlk (zbo_in hv40) hP hD hS (congrArg (fun z => some (Value.int z)) e9a) (by rw [e9b]) dX7_tryThing_200
              · have hF := zif c39 hF
                refine lv_aload_n hx hb dX7_tryThing_192 rfl (lv_at hl 1 rfl) ?_
                refine lv_iconst (v := 1) hx hb dX7_tryThing_193 (by decide) ?_
                refine lv_iload_n hx hb dX7_tryThing_194 rfl (lv_at hl 3 rfl) ?_
                obtain ⟨S41, hS41, hF⟩ := zob hF
                refine z_wgoW (va_runV (As := [.int 1, .int x2]) (rest := []) ⟨hx, hb, hml, hown, hts⟩ ((c7_callOn l g q S 1 x2  S41 hS41) H.size) (cwV 2 hts gX7_tryThing_X7_callOn rfl rfl rfl (by decide +kernel) ⟨Nat.le_of_ble_eq_true rfl, Nat.le_of_ble_eq_true rfl⟩) (z_wpreV (ci := 7) (q := (RX7, TX7, 37)) (q0 := 0) hP hK (z_any hD) rfl rfl) rfl rfl hl.1 rfl (lv_room (Nat.le_of_ble_eq_true rfl)) dX7_tryThing_195 ⟨Nat.zero_le _, Nat.zero_le _⟩) hP hD hS hA (fun H locs hP hD hS => ?_)
                show W p l e (headSpec wsX7_tryThing rmX7_tryThing).room s m args below meth c H locs 0 0 (MQ below (zWQ g A (MW g q S_o) (some (.int ro))) args s 0 0 A) (F0 m 198 ls [])
                refine lv_iload hx hb dX7_tryThing_198 (lv_at hl 0 rfl) ?_
                obtain ⟨v42, hv42, hF⟩ := zob hF
                have qv42 := zbo_eq hv42
                refine lv_topi (fun yv42 eyv42 => ?_)
                obtain rfl : yv42 = v42 := eyv42.trans qv42.symm
                obtain ⟨e9a, e9b⟩ := Prod.mk.inj (zin hF)
                exact z_wz hx hb hr hlk (zbo_in hv42) hP hD hS (congrArg (fun z => some (Value.int z)) e9a) (by rw [e9b]) dX7_tryThing_200
            refine lv_if_eq (tgt := 184) hx hb dX7_tryThing_168 (by decide) (fun c36 => ?_) (fun c36 => ?_)
            · have hVv34 := zit c36 hVv34
              refine lv_iconst (v := 0) hx hb dX7_tryThing_184 (by decide) ?_
              have hVv34 := zin hVv34
              subst hVv34
              exact Jv34
            · have hVv34 := zif c36 hVv34
              refine lv_aload_n hx hb dX7_tryThing_171 rfl (lv_at hl 0 rfl) ?_
              refine lv_iconst (v := 1) hx hb dX7_tryThing_172 (by decide) ?_
              refine lv_iload_n hx hb dX7_tryThing_173 rfl (lv_at hl 2 rfl) ?_
              obtain ⟨v37, hv37, hVv34⟩ := zob hVv34
              refine z_rgo (va_runV (As := [.int 1, .int x2]) (rest := []) ⟨hx, hb, hml, hown, hts⟩ (c7_isOut l g q S 1 x2 v37 hv37) (cwV 2 hts gX7_tryThing_X7_isOut rfl rfl rfl (by decide +kernel) ⟨Nat.le_of_ble_eq_true rfl, Nat.le_of_ble_eq_true rfl⟩) (z_rpreV (ci := 7) (q := (RX7, TX7, 37)) (q0 := 0) hP hK rfl rfl) rfl rfl hl.1 rfl (lv_room (Nat.le_of_ble_eq_true rfl)) dX7_tryThing_174 ⟨Nat.zero_le _, Nat.zero_le _⟩) ?_
              refine lv_if_ne (tgt := 184) hx hb dX7_tryThing_177 (by decide) (fun c38 => ?_) (fun c38 => ?_)
              · have hVv34 := zif c38 hVv34
                refine lv_iconst (v := 0) hx hb dX7_tryThing_184 (by decide) ?_
                have hVv34 := zin hVv34
                subst hVv34
                exact Jv34
              · have hVv34 := zit c38 hVv34
                refine lv_iconst (v := 1) hx hb dX7_tryThing_180 (by decide) ?_
                refine lv_goto (tgt := 185) hx hb dX7_tryThing_181 (by decide) ?_
                have hVv34 := zin hVv34
                subst hVv34
                exact Jv34
          · have hF := zif c33 hF
            refine z_tout hx hb dX7_tryThing_1 [0, 1, 2, 3, 4] (fun k hk => ?_) rfl (tgt := 201) (by decide) ?_
            · simp only [List.mem_cons, List.not_mem_nil, or_false] at hk
              rcases hk with rfl | rfl | rfl | rfl | rfl <;> assumption
            · refine lv_iconst (v := 0) hx hb dX7_tryThing_201 (by decide) ?_
              obtain ⟨e9a, e9b⟩ := Prod.mk.inj (zin hF)
              exact z_wz hx hb hr hlk rfl hP hD hS (congrArg (fun z => some (Value.int z)) e9a) (by rw [e9b]) dX7_tryThing_202
def f7_judge_l39 (x1 : Int32) (x2 : Int32) : Nat → Int32 → MS → Option (Int32 × MS)
  | 0, _, _ => none
  | n39 + 1, y5, S6 => if x1 ≤ y5 then some ((-9), S6) else (f7_power 100 ((x1 - 1) - y5)).bind fun v8 => (zdv x2 v8).bind fun v9 => bd (α := Int32) (v9 - v9 / 100 * 100) (fun (v10 : Int32) => (f7_tryThing S6 (v10 / 10) (v10 - v10 / 10 * 10)).bind fun (v12, S11) => if v12 = 0 then some (y5, S11) else f7_judge_l39 x1 x2 n39 (y5 + 1) S11)
def f7_judge (S : MS) (x1 : Int32) (x2 : Int32) : Option (Int32 × MS) := if (f7_in ((x1).toInt64) 1 4) = 0 then some ((-2), S) else (f7_power 100 x1).bind fun v2 => if (f7_in ((x2).toInt64) 0 (((v2 - 1)).toInt64)) = 0 then some ((-2), S) else (f7_layTrial S).bind fun S4 => f7_judge_l39 x1 x2 FU 0 S4
abbrev rmX7_judge : Room := { frames := 6, cells := 0, slots := 0, locals := 150 }
set_option maxHeartbeats 4000000 in
set_option maxRecDepth 100000 in
theorem c7_judge (l : Launch) (g : zG) (q : Nat → Nat) (S : MS) (x1 : Int32) (x2 : Int32) (ro : Int32) (S_o : MS) (hF : f7_judge S x1 x2 = some (ro, S_o)) : zRW l g yX7_judge wsX7_judge rmX7_judge [.ref (q 0), .int x1, .int x2] (MW g q S) (some (.int ro)) (MW g q S_o) := by
  refine zRW_of (cc := cX7_judge) (maxL := 5) (ret := (some .int)) (by decide) rfl (Nat.le_of_ble_eq_true rfl) ?_
  intro p e s m args below meth c A H locs ls hx hb hr hml hts hown hlk hK hA hP hD hS hl
  have hown : s.vm.findClass RX7 = some m.cls := hown
  have hl : lv_has ls 5 [(0, .ref (q 0)), (1, .int x1), (2, .int x2)] := hl
  unfold f7_judge at hF
  refine lv_iload_n hx hb dX7_judge_0 rfl (lv_at hl 1 rfl) ?_
  refine lv_i2l (v := (x1).toInt64) hx hb dX7_judge_1 rfl ?_
  refine lv_lconst (v := 1) hx hb dX7_judge_2 (by decide) ?_
  refine lv_ldc2 (own := RX7) (v := 4) hx hb hown (hts (.constantLong RX7 138 4) (List.mem_of_getElem? (i := 1) rfl)) dX7_judge_3 ?_
  refine z_rgo (va_runS (As := [.long ((x1).toInt64), .long 1, .long 4]) (rest := []) ⟨hx, hb, hml, hown, hts⟩ (c7_in l g   ((x1).toInt64) 1 4) (va_cwS 3 hts gX7_judge_X7_in rfl rfl rfl (by decide +kernel) ⟨Nat.le_of_ble_eq_true rfl, Nat.le_of_ble_eq_true rfl⟩) (z_rpre z_nil hK) rfl rfl hl.1 rfl (lv_room (Nat.le_of_ble_eq_true rfl)) dX7_judge_6 ⟨Nat.zero_le _, Nat.zero_le _⟩) ?_
  refine lv_if_eq (tgt := 30) hx hb dX7_judge_9 (by decide) (fun c1 => ?_) (fun c1 => ?_)
  · have hF := zit c1 hF
    refine lv_bipush (v := (-2)) hx hb dX7_judge_30 (by decide) ?_
    obtain ⟨e9a, e9b⟩ := Prod.mk.inj (zin hF)
    exact z_wi hx hb hr hlk hP hD hS (congrArg (fun z => some (Value.int z)) e9a) (by rw [e9b]) dX7_judge_32
  · have hF := zif c1 hF
    refine lv_iload_n hx hb dX7_judge_12 rfl (lv_at hl 2 rfl) ?_
    refine lv_i2l (v := (x2).toInt64) hx hb dX7_judge_13 rfl ?_
    refine lv_lconst (v := 0) hx hb dX7_judge_14 (by decide) ?_
    refine lv_bipush (v := 100) hx hb dX7_judge_15 (by decide) ?_
    refine lv_iload_n hx hb dX7_judge_17 rfl (lv_at hl 1 rfl) ?_
    obtain ⟨v2, hv2, hF⟩ := zob hF
    refine z_rgo (va_runS (As := [.int 100, .int x1]) (rest := [.long 0, .long ((x2).toInt64)]) ⟨hx, hb, hml, hown, hts⟩ (c7_power l g   100 x1 v2 hv2) (va_cwS 2 hts gX7_judge_X7_power rfl rfl rfl (by decide +kernel) ⟨Nat.le_of_ble_eq_true rfl, Nat.le_of_ble_eq_true rfl⟩) (z_rpre z_nil hK) rfl rfl hl.1 rfl (lv_room (Nat.le_of_ble_eq_true rfl)) dX7_judge_18 ⟨Nat.zero_le _, Nat.zero_le _⟩) ?_
    refine lv_iconst (v := 1) hx hb dX7_judge_21 (by decide) ?_
    refine lv_isub hx hb dX7_judge_22 ?_
    refine lv_i2l (v := ((v2 - 1)).toInt64) hx hb dX7_judge_23 rfl ?_
    refine z_rgo (va_runS (As := [.long ((x2).toInt64), .long 0, .long (((v2 - 1)).toInt64)]) (rest := []) ⟨hx, hb, hml, hown, hts⟩ (c7_in l g   ((x2).toInt64) 0 (((v2 - 1)).toInt64)) (va_cwS 3 hts gX7_judge_X7_in rfl rfl rfl (by decide +kernel) ⟨Nat.le_of_ble_eq_true rfl, Nat.le_of_ble_eq_true rfl⟩) (z_rpre z_nil hK) rfl rfl hl.1 rfl (lv_room (Nat.le_of_ble_eq_true rfl)) dX7_judge_24 ⟨Nat.zero_le _, Nat.zero_le _⟩) ?_
    refine lv_if_ne (tgt := 33) hx hb dX7_judge_27 (by decide) (fun c3 => ?_) (fun c3 => ?_)
    · have hF := zif c3 hF
      refine lv_aload_n hx hb dX7_judge_33 rfl (lv_at hl 0 rfl) ?_
      obtain ⟨S4, hS4, hF⟩ := zob hF
      refine z_wgoW (va_runV (As := []) (rest := []) ⟨hx, hb, hml, hown, hts⟩ ((c7_layTrial l g q S   S4 hS4) H.size) (cwV 0 hts gX7_judge_X7_layTrial rfl rfl rfl (by decide +kernel) ⟨Nat.le_of_ble_eq_true rfl, Nat.le_of_ble_eq_true rfl⟩) (z_wpreV (ci := 7) (q := (RX7, TX7, 37)) (q0 := 0) hP hK (z_any hD) rfl rfl) rfl rfl hl.1 rfl (lv_room (Nat.le_of_ble_eq_true rfl)) dX7_judge_34 ⟨Nat.zero_le _, Nat.zero_le _⟩) hP hD hS hA (fun H locs hP hD hS => ?_)
      show W p l e (headSpec wsX7_judge rmX7_judge).room s m args below meth c H locs 0 0 (MQ below (zWQ g A (MW g q S_o) (some (.int ro))) args s 0 0 A) (F0 m 37 ls [])
      refine lv_iconst (v := 0) hx hb dX7_judge_37 (by decide) ?_
      refine lv_istore_n (lv' := [(3, .int 0), (0, .ref (q 0)), (1, .int x1), (2, .int x2)]) hx hb dX7_judge_38 rfl hl (by decide) rfl (fun ls hl => ?_)
      have L39 : ∀ (n39 : Nat) (y5 : Int32) (S6 : MS) (H : Heap) (locs : List Loc) (ls : Array Slot), f7_judge_l39 x1 x2 n39 y5 S6 = some (ro, S_o) → va_P (zD g) vwCl (MW g q S6) H → va_D A (MW g q S6) → va_S A s.heap H locs → lv_has ls 5 [(0, .ref (q 0)), (1, .int x1), (2, .int x2), (3, .int y5)] → W p l e (headSpec wsX7_judge rmX7_judge).room s m args below meth c H locs 0 0 (MQ below (zWQ g A (MW g q S_o) (some (.int ro))) args s 0 0 A) (F0 m 39 ls []) := by
        intro n39
        induction n39 with
        | zero =>
          intro y5 S6 H locs ls hF hP hD hS hl
          exact absurd (show (none : Option (Int32 × MS)) = some _ from hF) (fun h9 => by cases h9)
        | succ n39 ih39 =>
          intro y5 S6 H locs ls hF hP hD hS hl
          rw [f7_judge_l39] at hF
          refine lv_iload_n hx hb dX7_judge_39 rfl (lv_at hl 3 rfl) ?_
          refine lv_iload_n hx hb dX7_judge_40 rfl (lv_at hl 1 rfl) ?_
          refine lv_icmp_ge (tgt := 86) hx hb dX7_judge_41 (by decide) (fun c7 => ?_) (fun c7 => ?_)
          · have hF := zit c7 hF
            refine lv_bipush (v := (-9)) hx hb dX7_judge_86 (by decide) ?_
            obtain ⟨e9a, e9b⟩ := Prod.mk.inj (zin hF)
            exact z_wi hx hb hr hlk hP hD hS (congrArg (fun z => some (Value.int z)) e9a) (by rw [e9b]) dX7_judge_88
          · have hF := zif c7 hF
            refine lv_iload_n hx hb dX7_judge_44 rfl (lv_at hl 2 rfl) ?_
            refine lv_bipush (v := 100) hx hb dX7_judge_45 (by decide) ?_
            refine lv_iload_n hx hb dX7_judge_47 rfl (lv_at hl 1 rfl) ?_
            refine lv_iconst (v := 1) hx hb dX7_judge_48 (by decide) ?_
            refine lv_isub hx hb dX7_judge_49 ?_
            refine lv_iload_n hx hb dX7_judge_50 rfl (lv_at hl 3 rfl) ?_
            refine lv_isub hx hb dX7_judge_51 ?_
            obtain ⟨v8, hv8, hF⟩ := zob hF
            refine z_rgo (va_runS (As := [.int 100, .int ((x1 - 1) - y5)]) (rest := [.int x2]) ⟨hx, hb, hml, hown, hts⟩ (c7_power l g   100 ((x1 - 1) - y5) v8 hv8) (va_cwS 2 hts gX7_judge_X7_power rfl rfl rfl (by decide +kernel) ⟨Nat.le_of_ble_eq_true rfl, Nat.le_of_ble_eq_true rfl⟩) (z_rpre z_nil hK) rfl rfl hl.1 rfl (lv_room (Nat.le_of_ble_eq_true rfl)) dX7_judge_52 ⟨Nat.zero_le _, Nat.zero_le _⟩) ?_
            obtain ⟨v9, hv9, hF⟩ := zob hF
            refine z_idiv hx hb dX7_judge_55 hv9 ?_
            refine lv_bipush (v := 100) hx hb dX7_judge_56 (by decide) ?_
            refine lv_irem hx hb dX7_judge_58 (by decide) ?_
            refine lv_topi (fun v10 ev10 => ?_)
            have hF := bd_eq ev10 hF
            refine lv_istore (lv' := [(4, .int v10), (0, .ref (q 0)), (1, .int x1), (2, .int x2), (3, .int y5)]) hx hb dX7_judge_59 hl (by decide) rfl (fun ls hl => ?_)
            refine lv_aload_n hx hb dX7_judge_61 rfl (lv_at hl 1 rfl) ?_
            refine lv_iload hx hb dX7_judge_62 (lv_at hl 0 rfl) ?_
            refine lv_bipush (v := 10) hx hb dX7_judge_64 (by decide) ?_
            refine lv_idiv hx hb dX7_judge_66 (by decide) ?_
            refine lv_iload hx hb dX7_judge_67 (lv_at hl 0 rfl) ?_
            refine lv_bipush (v := 10) hx hb dX7_judge_69 (by decide) ?_
            refine lv_irem hx hb dX7_judge_71 (by decide) ?_
            obtain ⟨⟨v12, S11⟩, hS11, hF⟩ := zob hF
            refine z_wgoW (va_runV (As := [.int (v10 / 10), .int (v10 - v10 / 10 * 10)]) (rest := []) ⟨hx, hb, hml, hown, hts⟩ ((c7_tryThing l g q S6 (v10 / 10) (v10 - v10 / 10 * 10) v12  S11 hS11) H.size) (cwV 2 hts gX7_judge_X7_tryThing rfl rfl rfl (by decide +kernel) ⟨Nat.le_of_ble_eq_true rfl, Nat.le_of_ble_eq_true rfl⟩) (z_wpreV (ci := 7) (q := (RX7, TX7, 37)) (q0 := 0) hP hK (z_any hD) rfl rfl) rfl rfl hl.1 rfl (lv_room (Nat.le_of_ble_eq_true rfl)) dX7_judge_72 ⟨Nat.zero_le _, Nat.zero_le _⟩) hP hD hS hA (fun H locs hP hD hS => ?_)
            show W p l e (headSpec wsX7_judge rmX7_judge).room s m args below meth c H locs 0 0 (MQ below (zWQ g A (MW g q S_o) (some (.int ro))) args s 0 0 A) (F0 m 75 ls [.int v12])
            refine lv_if_ne (tgt := 80) hx hb dX7_judge_75 (by decide) (fun c13 => ?_) (fun c13 => ?_)
            · have hF := zif c13 hF
              refine lv_iinc (v := (y5 + 1)) (lv' := [(3, .int (y5 + 1)), (4, .int v10), (0, .ref (q 0)), (1, .int x1), (2, .int x2)]) hx hb dX7_judge_80 hl (k := 4) rfl rfl (by decide) rfl (fun ls hl => ?_)
              refine lv_goto (tgt := 39) hx hb dX7_judge_83 (by decide) ?_
              exact ih39 (y5 + 1) S11 H locs ls hF hP hD hS (lv_sub hl [2, 3, 4, 0] rfl)
            · have hF := zit c13 hF
              refine lv_iload_n hx hb dX7_judge_78 rfl (lv_at hl 4 rfl) ?_
              obtain ⟨e9a, e9b⟩ := Prod.mk.inj (zin hF)
              exact z_wi hx hb hr hlk hP hD hS (congrArg (fun z => some (Value.int z)) e9a) (by rw [e9b]) dX7_judge_79
      exact L39 FU 0 S4 H locs ls hF hP hD hS (lv_sub hl [1, 2, 3, 0] rfl)
    · have hF := zit c3 hF
      refine lv_bipush (v := (-2)) hx hb dX7_judge_30 (by decide) ?_
      obtain ⟨e9a, e9b⟩ := Prod.mk.inj (zin hF)
      exact z_wi hx hb hr hlk hP hD hS (congrArg (fun z => some (Value.int z)) e9a) (by rw [e9b]) dX7_judge_32
def f7_keep_l21 (x1 : Int32) : Nat → Int32 → MS → Option (Int32 × MS)
  | 0, _, _ => none
  | n21 + 1, y4, S5 => if 19 ≤ y4 then (zrd (S5.2.1 11) 38 18).bind fun v7 => some (v7, S5) else (zrd (S5.2.1 11) 38 y4).bind fun v8 => (zwr (S5.2.1 36) 38 ((19 * x1) + y4) v8).bind fun f9 => bd (mA S5 36 f9) (fun (S10 : MS) => f7_keep_l21 x1 n21 (y4 + 1) S10)
def f7_keep (S : MS) (x1 : Int32) : Option (Int32 × MS) := if (f7_in ((x1).toInt64) 0 1) = 0 then some ((-1), S) else (zwr (S.2.1 35) 2 x1 1).bind fun f2 => bd (mA S 35 f2) (fun (S3 : MS) => f7_keep_l21 x1 FU 0 S3)
abbrev rmX7_keep : Room := { frames := 1, cells := 0, slots := 0, locals := 25 }
set_option maxHeartbeats 4000000 in
set_option maxRecDepth 100000 in
theorem c7_keep (l : Launch) (g : zG) (q : Nat → Nat) (S : MS) (x1 : Int32) (ro : Int32) (S_o : MS) (hF : f7_keep S x1 = some (ro, S_o)) : zRW l g yX7_keep wsX7_keep rmX7_keep [.ref (q 0), .int x1] (MW g q S) (some (.int ro)) (MW g q S_o) := by
  refine zRW_of (cc := cX7_keep) (maxL := 3) (ret := (some .int)) (by decide) rfl (Nat.le_of_ble_eq_true rfl) ?_
  intro p e s m args below meth c A H locs ls hx hb hr hml hts hown hlk hK hA hP hD hS hl
  have hown : s.vm.findClass RX7 = some m.cls := hown
  have hl : lv_has ls 3 [(0, .ref (q 0)), (1, .int x1)] := hl
  have inX7 : ∀ w ∈ wsX70, w ∈ wsX7_keep := fun _ h => List.mem_cons_of_mem _ (List.mem_append_right _ h)
  unfold f7_keep at hF
  refine lv_iload_n hx hb dX7_keep_0 rfl (lv_at hl 1 rfl) ?_
  refine lv_i2l (v := (x1).toInt64) hx hb dX7_keep_1 rfl ?_
  refine lv_lconst (v := 0) hx hb dX7_keep_2 (by decide) ?_
  refine lv_lconst (v := 1) hx hb dX7_keep_3 (by decide) ?_
  refine z_rgo (va_runS (As := [.long ((x1).toInt64), .long 0, .long 1]) (rest := []) ⟨hx, hb, hml, hown, hts⟩ (c7_in l g   ((x1).toInt64) 0 1) (va_cwS 3 hts gX7_keep_X7_in rfl rfl rfl (by decide +kernel) ⟨Nat.le_of_ble_eq_true rfl, Nat.le_of_ble_eq_true rfl⟩) (z_rpre z_nil hK) rfl rfl hl.1 rfl (lv_room (Nat.le_of_ble_eq_true rfl)) dX7_keep_4 ⟨Nat.zero_le _, Nat.zero_le _⟩) ?_
  refine lv_if_ne (tgt := 12) hx hb dX7_keep_7 (by decide) (fun c1 => ?_) (fun c1 => ?_)
  · have hF := zif c1 hF
    refine lv_aload_n hx hb dX7_keep_12 rfl (lv_at hl 0 rfl) ?_
    refine z_get (ci := 7) (v := .ref (q 18)) (C := RX7) (T := TX7) (N := 37) hx hb hts inX7 hown hK hP 0 rfl rfl 35 (by decide) (List.mem_of_getElem? (i := 1) rfl) rfl rfl dX7_keep_13 ?_
    refine lv_iload_n hx hb dX7_keep_16 rfl (lv_at hl 1 rfl) ?_
    refine lv_iconst (v := 1) hx hb dX7_keep_17 (by decide) ?_
    obtain ⟨f2, hf2, hF⟩ := zob hF
    refine z_zast (ws' := MW g q (mA S 35 f2)) hx hb hK hP hD hS 18 rfl rfl hf2 rfl dX7_keep_18 (fun H locs hP hD hS => ?_)
    obtain ⟨S3, eS3⟩ : ∃ y : MS, y = (mA S 35 f2) := ⟨_, rfl⟩
    rw [← eS3] at hP hD
    have hF := bd_eq eS3 hF
    refine lv_iconst (v := 0) hx hb dX7_keep_19 (by decide) ?_
    refine lv_istore_n (lv' := [(2, .int 0), (0, .ref (q 0)), (1, .int x1)]) hx hb dX7_keep_20 rfl hl (by decide) rfl (fun ls hl => ?_)
    have L21 : ∀ (n21 : Nat) (y4 : Int32) (S5 : MS) (H : Heap) (locs : List Loc) (ls : Array Slot), f7_keep_l21 x1 n21 y4 S5 = some (ro, S_o) → va_P (zD g) vwCl (MW g q S5) H → va_D A (MW g q S5) → va_S A s.heap H locs → lv_has ls 3 [(0, .ref (q 0)), (1, .int x1), (2, .int y4)] → W p l e (headSpec wsX7_keep rmX7_keep).room s m args below meth c H locs 0 0 (MQ below (zWQ g A (MW g q S_o) (some (.int ro))) args s 0 0 A) (F0 m 21 ls []) := by
      intro n21
      induction n21 with
      | zero =>
        intro y4 S5 H locs ls hF hP hD hS hl
        exact absurd (show (none : Option (Int32 × MS)) = some _ from hF) (fun h9 => by cases h9)
      | succ n21 ih21 =>
        intro y4 S5 H locs ls hF hP hD hS hl
        rw [f7_keep_l21] at hF
        refine lv_iload_n hx hb dX7_keep_21 rfl (lv_at hl 2 rfl) ?_
        refine lv_bipush (v := 19) hx hb dX7_keep_22 (by decide) ?_
        refine lv_icmp_ge (tgt := 50) hx hb dX7_keep_24 (by decide) (fun c6 => ?_) (fun c6 => ?_)
        · have hF := zit c6 hF
          refine lv_aload_n hx hb dX7_keep_50 rfl (lv_at hl 0 rfl) ?_
          refine z_get (ci := 7) (v := .ref (q 7)) (C := RX7) (T := TX7) (N := 37) hx hb hts inX7 hown hK hP 0 rfl rfl 11 (by decide) (List.mem_of_getElem? (i := 3) rfl) rfl rfl dX7_keep_51 ?_
          refine lv_bipush (v := 18) hx hb dX7_keep_54 (by decide) ?_
          obtain ⟨v7, hv7, hF⟩ := zob hF
          refine z_iald hx hb hK hP 7 rfl hv7 dX7_keep_56 ?_
          obtain ⟨e9a, e9b⟩ := Prod.mk.inj (zin hF)
          exact z_wi hx hb hr hlk hP hD hS (congrArg (fun z => some (Value.int z)) e9a) (by rw [e9b]) dX7_keep_57
        · have hF := zif c6 hF
          refine lv_aload_n hx hb dX7_keep_27 rfl (lv_at hl 0 rfl) ?_
          refine z_get (ci := 7) (v := .ref (q 19)) (C := RX7) (T := TX7) (N := 37) hx hb hts inX7 hown hK hP 0 rfl rfl 36 (by decide) (List.mem_of_getElem? (i := 2) rfl) rfl rfl dX7_keep_28 ?_
          refine lv_bipush (v := 19) hx hb dX7_keep_31 (by decide) ?_
          refine lv_iload_n hx hb dX7_keep_33 rfl (lv_at hl 1 rfl) ?_
          refine lv_imul hx hb dX7_keep_34 ?_
          refine lv_iload_n hx hb dX7_keep_35 rfl (lv_at hl 2 rfl) ?_
          refine lv_iadd hx hb dX7_keep_36 ?_
          refine lv_aload_n hx hb dX7_keep_37 rfl (lv_at hl 0 rfl) ?_
          refine z_get (ci := 7) (v := .ref (q 7)) (C := RX7) (T := TX7) (N := 37) hx hb hts inX7 hown hK hP 0 rfl rfl 11 (by decide) (List.mem_of_getElem? (i := 3) rfl) rfl rfl dX7_keep_38 ?_
          refine lv_iload_n hx hb dX7_keep_41 rfl (lv_at hl 2 rfl) ?_
          obtain ⟨v8, hv8, hF⟩ := zob hF
          refine z_iald hx hb hK hP 7 rfl hv8 dX7_keep_42 ?_
          obtain ⟨f9, hf9, hF⟩ := zob hF
          refine z_iast (ws' := MW g q (mA S5 36 f9)) hx hb hK hP hD hS 19 rfl hf9 rfl dX7_keep_43 (fun H locs hP hD hS => ?_)
          obtain ⟨S10, eS10⟩ : ∃ y : MS, y = (mA S5 36 f9) := ⟨_, rfl⟩
          rw [← eS10] at hP hD
          have hF := bd_eq eS10 hF
          refine lv_iinc (v := (y4 + 1)) (lv' := [(2, .int (y4 + 1)), (0, .ref (q 0)), (1, .int x1)]) hx hb dX7_keep_44 hl (k := 2) rfl rfl (by decide) rfl (fun ls hl => ?_)
          refine lv_goto (tgt := 21) hx hb dX7_keep_47 (by decide) ?_
          exact ih21 (y4 + 1) S10 H locs ls hF hP hD hS (lv_sub hl [1, 2, 0] rfl)
    exact L21 FU 0 S3 H locs ls hF hP hD hS (lv_sub hl [1, 2, 0] rfl)
  · have hF := zit c1 hF
    refine lv_iconst (v := (-1)) hx hb dX7_keep_10 (by decide) ?_
    obtain ⟨e9a, e9b⟩ := Prod.mk.inj (zin hF)
    exact z_wi hx hb hr hlk hP hD hS (congrArg (fun z => some (Value.int z)) e9a) (by rw [e9b]) dX7_keep_11
def f7_mayTurn_l35 (x1 : Int32) (y5 : Int32) (k19 : (Int32 → Int32 → MS → Option (Int32 × MS))) : Nat → Int32 → Int32 → MS → Option (Int32 × MS)
  | 0, _, _, _ => none
  | n35 + 1, y12, y13, S14 => if (S14.1 30) ≤ y13 then k19 y12 (y5 + 1) S14 else (zrd (S14.2.1 31) 6 y13).bind fun v16 => (if v16 = x1 then (zrd (S14.2.1 33) 6 y13).bind fun v20 => if v20 = y5 then (zrd (S14.2.1 32) 6 y13).bind fun v22 => if (f7_isJoint S14 v22) = 0 then some 0 else some 1 else some 0 else some 0 : Option Int32).bind fun v17 => (if y12 = 0 then some 0 else if v17 = 0 then some 1 else (zrd (S14.2.1 11) 38 (19 + x1)).bind fun v29 => (zrd (S14.2.1 32) 6 y13).bind fun v30 => if v29 = v30 then some 1 else some 0 : Option Int32).bind fun v24 => f7_mayTurn_l35 x1 y5 k19 n35 v24 (y13 + 1) S14
def f7_mayTurn_l19 (x1 : Int32) : Nat → Int32 → Int32 → MS → Option (Int32 × MS)
  | 0, _, _, _ => none
  | n19 + 1, y4, y5, S6 => if 10 ≤ y5 then bd (sI S6 24 (-9)) (fun (S8 : MS) => (zbo y4).bind fun v9 => some (v9, S8)) else (f7_stepOn S6 1).bind fun (v11, S10) => f7_mayTurn_l35 x1 y5 (fun y4 y5 S6 => f7_mayTurn_l19 x1 n19 y4 y5 S6) FU y4 0 S10
def f7_mayTurn (S : MS) (x1 : Int32) (x2 : Int32) : Option (Int32 × MS) := (f7_layTrial S).bind fun S1 => bd (sI S1 24 x1) (fun (S2 : MS) => bd (sI S2 25 x2) (fun (S3 : MS) => f7_mayTurn_l19 x1 FU 1 1 S3))
abbrev rmX7_mayTurn : Room := { frames := 5, cells := 0, slots := 0, locals := 125 }
set_option maxHeartbeats 4000000 in
set_option maxRecDepth 100000 in
theorem c7_mayTurn (l : Launch) (g : zG) (q : Nat → Nat) (S : MS) (x1 : Int32) (x2 : Int32) (ro : Int32) (S_o : MS) (hF : f7_mayTurn S x1 x2 = some (ro, S_o)) : zRW l g yX7_mayTurn wsX7_mayTurn rmX7_mayTurn [.ref (q 0), .int x1, .int x2] (MW g q S) (some (.int ro)) (MW g q S_o) := by
  refine zRW_of (cc := cX7_mayTurn) (maxL := 7) (ret := (some .boolean)) (by decide) rfl (Nat.le_of_ble_eq_true rfl) ?_
  intro p e s m args below meth c A H locs ls hx hb hr hml hts hown hlk hK hA hP hD hS hl
  have hown : s.vm.findClass RX7 = some m.cls := hown
  have hl : lv_has ls 7 [(0, .ref (q 0)), (1, .int x1), (2, .int x2)] := hl
  have inX7 : ∀ w ∈ wsX70, w ∈ wsX7_mayTurn := fun _ h => List.mem_cons_of_mem _ (List.mem_append_right _ h)
  unfold f7_mayTurn at hF
  refine lv_aload_n hx hb dX7_mayTurn_0 rfl (lv_at hl 0 rfl) ?_
  obtain ⟨S1, hS1, hF⟩ := zob hF
  refine z_wgoW (va_runV (As := []) (rest := []) ⟨hx, hb, hml, hown, hts⟩ ((c7_layTrial l g q S   S1 hS1) H.size) (cwV 0 hts gX7_mayTurn_X7_layTrial rfl rfl rfl (by decide +kernel) ⟨Nat.le_of_ble_eq_true rfl, Nat.le_of_ble_eq_true rfl⟩) (z_wpreV (ci := 7) (q := (RX7, TX7, 37)) (q0 := 0) hP hK (z_any hD) rfl rfl) rfl rfl hl.1 rfl (lv_room (Nat.le_of_ble_eq_true rfl)) dX7_mayTurn_1 ⟨Nat.zero_le _, Nat.zero_le _⟩) hP hD hS hA (fun H locs hP hD hS => ?_)
  show W p l e (headSpec wsX7_mayTurn rmX7_mayTurn).room s m args below meth c H locs 0 0 (MQ below (zWQ g A (MW g q S_o) (some (.int ro))) args s 0 0 A) (F0 m 4 ls [])
  refine lv_aload_n hx hb dX7_mayTurn_4 rfl (lv_at hl 0 rfl) ?_
  refine lv_iload_n hx hb dX7_mayTurn_5 rfl (lv_at hl 1 rfl) ?_
  refine z_put (ci := 7) (v := .int x1) (C := RX7) (T := TX7) (N := 37) (ws' := MW g q (sI S1 24 x1)) hx hb hts inX7 tyX7 tyX7_ok nmX7 hown hK hP hD hS 0 rfl rfl 24 (by decide) (List.mem_of_getElem? (i := 1) rfl) rfl rfl rfl rfl (Nat.le_of_ble_eq_true rfl) rfl dX7_mayTurn_6 (fun H locs hP hD hS => ?_)
  obtain ⟨S2, eS2⟩ : ∃ y : MS, y = (sI S1 24 x1) := ⟨_, rfl⟩
  rw [← eS2] at hP hD
  have hF := bd_eq eS2 hF
  refine lv_aload_n hx hb dX7_mayTurn_9 rfl (lv_at hl 0 rfl) ?_
  refine lv_iload_n hx hb dX7_mayTurn_10 rfl (lv_at hl 2 rfl) ?_
  refine z_put (ci := 7) (v := .int x2) (C := RX7) (T := TX7) (N := 37) (ws' := MW g q (sI S2 25 x2)) hx hb hts inX7 tyX7 tyX7_ok nmX7 hown hK hP hD hS 0 rfl rfl 25 (by decide) (List.mem_of_getElem? (i := 2) rfl) rfl rfl rfl rfl (Nat.le_of_ble_eq_true rfl) rfl dX7_mayTurn_11 (fun H locs hP hD hS => ?_)
  obtain ⟨S3, eS3⟩ : ∃ y : MS, y = (sI S2 25 x2) := ⟨_, rfl⟩
  rw [← eS3] at hP hD
  have hF := bd_eq eS3 hF
  refine lv_iconst (v := 1) hx hb dX7_mayTurn_14 (by decide) ?_
  refine lv_istore_n (lv' := [(3, .int 1), (0, .ref (q 0)), (1, .int x1), (2, .int x2)]) hx hb dX7_mayTurn_15 rfl hl (by decide) rfl (fun ls hl => ?_)
  refine lv_iconst (v := 1) hx hb dX7_mayTurn_16 (by decide) ?_
  refine lv_istore (lv' := [(4, .int 1), (3, .int 1), (0, .ref (q 0)), (1, .int x1), (2, .int x2)]) hx hb dX7_mayTurn_17 hl (by decide) rfl (fun ls hl => ?_)
  have L19 : ∀ (n19 : Nat) (y4 : Int32) (y5 : Int32) (S6 : MS) (H : Heap) (locs : List Loc) (ls : Array Slot), f7_mayTurn_l19 x1 n19 y4 y5 S6 = some (ro, S_o) → va_P (zD g) vwCl (MW g q S6) H → va_D A (MW g q S6) → va_S A s.heap H locs → lv_has ls 7 [(0, .ref (q 0)), (1, .int x1), (3, .int y4), (4, .int y5)] → W p l e (headSpec wsX7_mayTurn rmX7_mayTurn).room s m args below meth c H locs 0 0 (MQ below (zWQ g A (MW g q S_o) (some (.int ro))) args s 0 0 A) (F0 m 19 ls []) := by
    intro n19
    induction n19 with
    | zero =>
      intro y4 y5 S6 H locs ls hF hP hD hS hl
      exact absurd (show (none : Option (Int32 × MS)) = some _ from hF) (fun h9 => by cases h9)
    | succ n19 ih19 =>
      intro y4 y5 S6 H locs ls hF hP hD hS hl
      rw [f7_mayTurn_l19] at hF
      refine lv_iload hx hb dX7_mayTurn_19 (lv_at hl 3 rfl) ?_
      refine lv_bipush (v := 10) hx hb dX7_mayTurn_21 (by decide) ?_
      refine lv_icmp_ge (tgt := 134) hx hb dX7_mayTurn_23 (by decide) (fun c7 => ?_) (fun c7 => ?_)
      · have hF := zit c7 hF
        refine lv_aload_n hx hb dX7_mayTurn_134 rfl (lv_at hl 0 rfl) ?_
        refine lv_bipush (v := (-9)) hx hb dX7_mayTurn_135 (by decide) ?_
        refine z_put (ci := 7) (v := .int (-9)) (C := RX7) (T := TX7) (N := 37) (ws' := MW g q (sI S6 24 (-9))) hx hb hts inX7 tyX7 tyX7_ok nmX7 hown hK hP hD hS 0 rfl rfl 24 (by decide) (List.mem_of_getElem? (i := 1) rfl) rfl rfl rfl rfl (Nat.le_of_ble_eq_true rfl) rfl dX7_mayTurn_137 (fun H locs hP hD hS => ?_)
        obtain ⟨S8, eS8⟩ : ∃ y : MS, y = (sI S6 24 (-9)) := ⟨_, rfl⟩
        rw [← eS8] at hP hD
        have hF := bd_eq eS8 hF
        refine lv_iload_n hx hb dX7_mayTurn_140 rfl (lv_at hl 2 rfl) ?_
        obtain ⟨v9, hv9, hF⟩ := zob hF
        have qv9 := zbo_eq hv9
        refine lv_topi (fun yv9 eyv9 => ?_)
        obtain rfl : yv9 = v9 := eyv9.trans qv9.symm
        obtain ⟨e9a, e9b⟩ := Prod.mk.inj (zin hF)
        exact z_wz hx hb hr hlk (zbo_in hv9) hP hD hS (congrArg (fun z => some (Value.int z)) e9a) (by rw [e9b]) dX7_mayTurn_141
      · have hF := zif c7 hF
        refine lv_aload_n hx hb dX7_mayTurn_26 rfl (lv_at hl 0 rfl) ?_
        refine lv_iconst (v := 1) hx hb dX7_mayTurn_27 (by decide) ?_
        obtain ⟨⟨v11, S10⟩, hS10, hF⟩ := zob hF
        refine z_wgoW (va_runV (As := [.int 1]) (rest := []) ⟨hx, hb, hml, hown, hts⟩ ((c7_stepOn l g q S6 1 v11  S10 hS10) H.size) (cwV 1 hts gX7_mayTurn_X7_stepOn rfl rfl rfl (by decide +kernel) ⟨Nat.le_of_ble_eq_true rfl, Nat.le_of_ble_eq_true rfl⟩) (z_wpreV (ci := 7) (q := (RX7, TX7, 37)) (q0 := 0) hP hK (z_any hD) rfl rfl) rfl rfl hl.1 rfl (lv_room (Nat.le_of_ble_eq_true rfl)) dX7_mayTurn_28 ⟨Nat.zero_le _, Nat.zero_le _⟩) hP hD hS hA (fun H locs hP hD hS => ?_)
        show W p l e (headSpec wsX7_mayTurn rmX7_mayTurn).room s m args below meth c H locs 0 0 (MQ below (zWQ g A (MW g q S_o) (some (.int ro))) args s 0 0 A) (F0 m 31 ls [.int v11])
        refine lv_pop hx hb dX7_mayTurn_31 rfl ?_
        refine lv_iconst (v := 0) hx hb dX7_mayTurn_32 (by decide) ?_
        refine lv_istore (lv' := [(5, .int 0), (0, .ref (q 0)), (1, .int x1), (3, .int y4), (4, .int y5)]) hx hb dX7_mayTurn_33 hl (by decide) rfl (fun ls hl => ?_)
        have L35 : ∀ (n35 : Nat) (y12 : Int32) (y13 : Int32) (S14 : MS) (H : Heap) (locs : List Loc) (ls : Array Slot), f7_mayTurn_l35 x1 y5 (fun y4 y5 S6 => f7_mayTurn_l19 x1 n19 y4 y5 S6) n35 y12 y13 S14 = some (ro, S_o) → va_P (zD g) vwCl (MW g q S14) H → va_D A (MW g q S14) → va_S A s.heap H locs → lv_has ls 7 [(0, .ref (q 0)), (1, .int x1), (3, .int y12), (4, .int y5), (5, .int y13)] → W p l e (headSpec wsX7_mayTurn rmX7_mayTurn).room s m args below meth c H locs 0 0 (MQ below (zWQ g A (MW g q S_o) (some (.int ro))) args s 0 0 A) (F0 m 35 ls []) := by
          intro n35
          induction n35 with
          | zero =>
            intro y12 y13 S14 H locs ls hF hP hD hS hl
            exact absurd (show (none : Option (Int32 × MS)) = some _ from hF) (fun h9 => by cases h9)
          | succ n35 ih35 =>
            intro y12 y13 S14 H locs ls hF hP hD hS hl
            rw [f7_mayTurn_l35] at hF
            refine lv_iload hx hb dX7_mayTurn_35 (lv_at hl 4 rfl) ?_
            refine lv_aload_n hx hb dX7_mayTurn_37 rfl (lv_at hl 0 rfl) ?_
            refine z_get (ci := 7) (v := .int (S14.1 30)) (C := RX7) (T := TX7) (N := 37) hx hb hts inX7 hown hK hP 0 rfl rfl 30 (by decide) (List.mem_of_getElem? (i := 3) rfl) rfl rfl dX7_mayTurn_38 ?_
            refine lv_icmp_ge (tgt := 128) hx hb dX7_mayTurn_41 (by decide) (fun c15 => ?_) (fun c15 => ?_)
            · have hF := zit c15 hF
              refine lv_iinc (v := (y5 + 1)) (lv' := [(4, .int (y5 + 1)), (0, .ref (q 0)), (1, .int x1), (3, .int y12), (5, .int y13)]) hx hb dX7_mayTurn_128 hl (k := 3) rfl rfl (by decide) rfl (fun ls hl => ?_)
              refine lv_goto (tgt := 19) hx hb dX7_mayTurn_131 (by decide) ?_
              exact ih19 y12 (y5 + 1) S14 H locs ls hF hP hD hS (lv_sub hl [1, 2, 3, 0] rfl)
            · have hF := zif c15 hF
              refine lv_aload_n hx hb dX7_mayTurn_44 rfl (lv_at hl 0 rfl) ?_
              refine z_get (ci := 7) (v := .ref (q 15)) (C := RX7) (T := TX7) (N := 37) hx hb hts inX7 hown hK hP 0 rfl rfl 31 (by decide) (List.mem_of_getElem? (i := 4) rfl) rfl rfl dX7_mayTurn_45 ?_
              refine lv_iload hx hb dX7_mayTurn_48 (lv_at hl 4 rfl) ?_
              obtain ⟨v16, hv16, hF⟩ := zob hF
              refine z_iald hx hb hK hP 15 rfl hv16 dX7_mayTurn_50 ?_
              refine lv_iload_n hx hb dX7_mayTurn_51 rfl (lv_at hl 1 rfl) ?_
              obtain ⟨v17, hVv17, hF⟩ := zob hF
              have Jv17 : W p l e (headSpec wsX7_mayTurn rmX7_mayTurn).room s m args below meth c H locs 0 0 (MQ below (zWQ g A (MW g q S_o) (some (.int ro))) args s 0 0 A) (F0 m 86 ls [.int v17]) := by
                refine lv_istore (lv' := [(6, .int v17), (0, .ref (q 0)), (1, .int x1), (3, .int y12), (4, .int y5), (5, .int y13)]) hx hb dX7_mayTurn_86 hl (by decide) rfl (fun ls hl => ?_)
                refine lv_iload_n hx hb dX7_mayTurn_88 rfl (lv_at hl 3 rfl) ?_
                obtain ⟨v24, hVv24, hF⟩ := zob hF
                have Jv24 : W p l e (headSpec wsX7_mayTurn rmX7_mayTurn).room s m args below meth c H locs 0 0 (MQ below (zWQ g A (MW g q S_o) (some (.int ro))) args s 0 0 A) (F0 m 121 ls [.int v24]) := by
                  refine lv_istore_n (lv' := [(3, .int v24), (6, .int v17), (0, .ref (q 0)), (1, .int x1), (4, .int y5), (5, .int y13)]) hx hb dX7_mayTurn_121 rfl hl (by decide) rfl (fun ls hl => ?_)
                  refine lv_iinc (v := (y13 + 1)) (lv' := [(5, .int (y13 + 1)), (3, .int v24), (6, .int v17), (0, .ref (q 0)), (1, .int x1), (4, .int y5)]) hx hb dX7_mayTurn_122 hl (k := 5) rfl rfl (by decide) rfl (fun ls hl => ?_)
                  refine lv_goto (tgt := 35) hx hb dX7_mayTurn_125 (by decide) ?_
                  exact ih35 v24 (y13 + 1) S14 H locs ls hF hP hD hS (lv_sub hl [3, 4, 1, 5, 0] rfl)
                refine lv_if_eq (tgt := 120) hx hb dX7_mayTurn_89 (by decide) (fun c27 => ?_) (fun c27 => ?_)
                · have hVv24 := zit c27 hVv24
                  refine lv_iconst (v := 0) hx hb dX7_mayTurn_120 (by decide) ?_
                  have hVv24 := zin hVv24
                  subst hVv24
                  exact Jv24
                · have hVv24 := zif c27 hVv24
                  refine lv_iload hx hb dX7_mayTurn_92 (lv_at hl 0 rfl) ?_
                  refine lv_if_eq (tgt := 116) hx hb dX7_mayTurn_94 (by decide) (fun c28 => ?_) (fun c28 => ?_)
                  · have hVv24 := zit c28 hVv24
                    refine lv_iconst (v := 1) hx hb dX7_mayTurn_116 (by decide) ?_
                    refine lv_goto (tgt := 121) hx hb dX7_mayTurn_117 (by decide) ?_
                    have hVv24 := zin hVv24
                    subst hVv24
                    exact Jv24
                  · have hVv24 := zif c28 hVv24
                    refine lv_aload_n hx hb dX7_mayTurn_97 rfl (lv_at hl 1 rfl) ?_
                    refine z_get (ci := 7) (v := .ref (q 7)) (C := RX7) (T := TX7) (N := 37) hx hb hts inX7 hown hK hP 0 rfl rfl 11 (by decide) (List.mem_of_getElem? (i := 7) rfl) rfl rfl dX7_mayTurn_98 ?_
                    refine lv_bipush (v := 19) hx hb dX7_mayTurn_101 (by decide) ?_
                    refine lv_iload_n hx hb dX7_mayTurn_103 rfl (lv_at hl 2 rfl) ?_
                    refine lv_iadd hx hb dX7_mayTurn_104 ?_
                    obtain ⟨v29, hv29, hVv24⟩ := zob hVv24
                    refine z_iald hx hb hK hP 7 rfl hv29 dX7_mayTurn_105 ?_
                    refine lv_aload_n hx hb dX7_mayTurn_106 rfl (lv_at hl 1 rfl) ?_
                    refine z_get (ci := 7) (v := .ref (q 16)) (C := RX7) (T := TX7) (N := 37) hx hb hts inX7 hown hK hP 0 rfl rfl 32 (by decide) (List.mem_of_getElem? (i := 6) rfl) rfl rfl dX7_mayTurn_107 ?_
                    refine lv_iload hx hb dX7_mayTurn_110 (lv_at hl 5 rfl) ?_
                    obtain ⟨v30, hv30, hVv24⟩ := zob hVv24
                    refine z_iald hx hb hK hP 16 rfl hv30 dX7_mayTurn_112 ?_
                    refine lv_icmp_ne (tgt := 120) hx hb dX7_mayTurn_113 (by decide) (fun c31 => ?_) (fun c31 => ?_)
                    · have hVv24 := zif c31 hVv24
                      refine lv_iconst (v := 0) hx hb dX7_mayTurn_120 (by decide) ?_
                      have hVv24 := zin hVv24
                      subst hVv24
                      exact Jv24
                    · have hVv24 := zit c31 hVv24
                      refine lv_iconst (v := 1) hx hb dX7_mayTurn_116 (by decide) ?_
                      refine lv_goto (tgt := 121) hx hb dX7_mayTurn_117 (by decide) ?_
                      have hVv24 := zin hVv24
                      subst hVv24
                      exact Jv24
              refine lv_icmp_ne (tgt := 85) hx hb dX7_mayTurn_52 (by decide) (fun c19 => ?_) (fun c19 => ?_)
              · have hVv17 := zif c19 hVv17
                refine lv_iconst (v := 0) hx hb dX7_mayTurn_85 (by decide) ?_
                have hVv17 := zin hVv17
                subst hVv17
                exact Jv17
              · have hVv17 := zit c19 hVv17
                refine lv_aload_n hx hb dX7_mayTurn_55 rfl (lv_at hl 0 rfl) ?_
                refine z_get (ci := 7) (v := .ref (q 17)) (C := RX7) (T := TX7) (N := 37) hx hb hts inX7 hown hK hP 0 rfl rfl 33 (by decide) (List.mem_of_getElem? (i := 5) rfl) rfl rfl dX7_mayTurn_56 ?_
                refine lv_iload hx hb dX7_mayTurn_59 (lv_at hl 4 rfl) ?_
                obtain ⟨v20, hv20, hVv17⟩ := zob hVv17
                refine z_iald hx hb hK hP 17 rfl hv20 dX7_mayTurn_61 ?_
                refine lv_iload hx hb dX7_mayTurn_62 (lv_at hl 3 rfl) ?_
                refine lv_icmp_ne (tgt := 85) hx hb dX7_mayTurn_64 (by decide) (fun c21 => ?_) (fun c21 => ?_)
                · have hVv17 := zif c21 hVv17
                  refine lv_iconst (v := 0) hx hb dX7_mayTurn_85 (by decide) ?_
                  have hVv17 := zin hVv17
                  subst hVv17
                  exact Jv17
                · have hVv17 := zit c21 hVv17
                  refine lv_aload_n hx hb dX7_mayTurn_67 rfl (lv_at hl 0 rfl) ?_
                  refine lv_aload_n hx hb dX7_mayTurn_68 rfl (lv_at hl 0 rfl) ?_
                  refine z_get (ci := 7) (v := .ref (q 16)) (C := RX7) (T := TX7) (N := 37) hx hb hts inX7 hown hK hP 0 rfl rfl 32 (by decide) (List.mem_of_getElem? (i := 6) rfl) rfl rfl dX7_mayTurn_69 ?_
                  refine lv_iload hx hb dX7_mayTurn_72 (lv_at hl 4 rfl) ?_
                  obtain ⟨v22, hv22, hVv17⟩ := zob hVv17
                  refine z_iald hx hb hK hP 16 rfl hv22 dX7_mayTurn_74 ?_
                  refine z_rgo (va_runV (As := [.int v22]) (rest := []) ⟨hx, hb, hml, hown, hts⟩ (c7_isJoint l g q S14 v22) (cwV 1 hts gX7_mayTurn_X7_isJoint rfl rfl rfl (by decide +kernel) ⟨Nat.le_of_ble_eq_true rfl, Nat.le_of_ble_eq_true rfl⟩) (z_rpreV (ci := 7) (q := (RX7, TX7, 37)) (q0 := 0) hP hK rfl rfl) rfl rfl hl.1 rfl (lv_room (Nat.le_of_ble_eq_true rfl)) dX7_mayTurn_75 ⟨Nat.zero_le _, Nat.zero_le _⟩) ?_
                  refine lv_if_eq (tgt := 85) hx hb dX7_mayTurn_78 (by decide) (fun c23 => ?_) (fun c23 => ?_)
                  · have hVv17 := zit c23 hVv17
                    refine lv_iconst (v := 0) hx hb dX7_mayTurn_85 (by decide) ?_
                    have hVv17 := zin hVv17
                    subst hVv17
                    exact Jv17
                  · have hVv17 := zif c23 hVv17
                    refine lv_iconst (v := 1) hx hb dX7_mayTurn_81 (by decide) ?_
                    refine lv_goto (tgt := 86) hx hb dX7_mayTurn_82 (by decide) ?_
                    have hVv17 := zin hVv17
                    subst hVv17
                    exact Jv17
        exact L35 FU y4 0 S10 H locs ls hF hP hD hS (lv_sub hl [1, 2, 3, 4, 0] rfl)
  exact L19 FU 1 1 S3 H locs ls hF hP hD hS (lv_sub hl [2, 3, 1, 0] rfl)
def f7_mend_l24 (x1 : Int32) : Nat → Int32 → MS → Option (Int32 × MS)
  | 0, _, _ => none
  | n24 + 1, y4, S5 => if (S5.1 1) ≤ y4 then some ((-9), S5) else (f7_layTrial S5).bind fun S7 => (zrd (S7.2.1 11) 38 35).bind fun v8 => (zwr (S7.2.1 11) 38 35 (v8 ^^^ ((1 : Int32) <<< (y4 &&& 31)))).bind fun f9 => bd (mA S7 11 f9) (fun (S10 : MS) => (f7_goTrial S10 40).bind fun S11 => (f7_outOn S11 1 1).bind fun v12 => if (f7_has v12 x1) = 0 then f7_mend_l24 x1 n24 (y4 + 1) S11 else some (y4, S11))
def f7_mend (S : MS) (x1 : Int32) : Option (Int32 × MS) := if (f7_isWalker S x1) = 0 then some ((-1), S) else (f7_isOut S 0 x1).bind fun v2 => if v2 = 0 then f7_mend_l24 x1 FU 0 S else some ((-3), S)
abbrev rmX7_mend : Room := { frames := 6, cells := 0, slots := 0, locals := 147 }
set_option maxHeartbeats 4000000 in
set_option maxRecDepth 100000 in
theorem c7_mend (l : Launch) (g : zG) (q : Nat → Nat) (S : MS) (x1 : Int32) (ro : Int32) (S_o : MS) (hF : f7_mend S x1 = some (ro, S_o)) : zRW l g yX7_mend wsX7_mend rmX7_mend [.ref (q 0), .int x1] (MW g q S) (some (.int ro)) (MW g q S_o) := by
  refine zRW_of (cc := cX7_mend) (maxL := 3) (ret := (some .int)) (by decide) rfl (Nat.le_of_ble_eq_true rfl) ?_
  intro p e s m args below meth c A H locs ls hx hb hr hml hts hown hlk hK hA hP hD hS hl
  have hown : s.vm.findClass RX7 = some m.cls := hown
  have hl : lv_has ls 3 [(0, .ref (q 0)), (1, .int x1)] := hl
  have inX7 : ∀ w ∈ wsX70, w ∈ wsX7_mend := fun _ h => List.mem_cons_of_mem _ (List.mem_append_right _ h)
  unfold f7_mend at hF
  refine lv_aload_n hx hb dX7_mend_0 rfl (lv_at hl 0 rfl) ?_
  refine lv_iload_n hx hb dX7_mend_1 rfl (lv_at hl 1 rfl) ?_
  refine z_rgo (va_runV (As := [.int x1]) (rest := []) ⟨hx, hb, hml, hown, hts⟩ (c7_isWalker l g q S x1) (cwV 1 hts gX7_mend_X7_isWalker rfl rfl rfl (by decide +kernel) ⟨Nat.le_of_ble_eq_true rfl, Nat.le_of_ble_eq_true rfl⟩) (z_rpreV (ci := 7) (q := (RX7, TX7, 37)) (q0 := 0) hP hK rfl rfl) rfl rfl hl.1 rfl (lv_room (Nat.le_of_ble_eq_true rfl)) dX7_mend_2 ⟨Nat.zero_le _, Nat.zero_le _⟩) ?_
  refine lv_if_ne (tgt := 10) hx hb dX7_mend_5 (by decide) (fun c1 => ?_) (fun c1 => ?_)
  · have hF := zif c1 hF
    refine lv_aload_n hx hb dX7_mend_10 rfl (lv_at hl 0 rfl) ?_
    refine lv_iconst (v := 0) hx hb dX7_mend_11 (by decide) ?_
    refine lv_iload_n hx hb dX7_mend_12 rfl (lv_at hl 1 rfl) ?_
    obtain ⟨v2, hv2, hF⟩ := zob hF
    refine z_rgo (va_runV (As := [.int 0, .int x1]) (rest := []) ⟨hx, hb, hml, hown, hts⟩ (c7_isOut l g q S 0 x1 v2 hv2) (cwV 2 hts gX7_mend_X7_isOut rfl rfl rfl (by decide +kernel) ⟨Nat.le_of_ble_eq_true rfl, Nat.le_of_ble_eq_true rfl⟩) (z_rpreV (ci := 7) (q := (RX7, TX7, 37)) (q0 := 0) hP hK rfl rfl) rfl rfl hl.1 rfl (lv_room (Nat.le_of_ble_eq_true rfl)) dX7_mend_13 ⟨Nat.zero_le _, Nat.zero_le _⟩) ?_
    refine lv_if_eq (tgt := 22) hx hb dX7_mend_16 (by decide) (fun c3 => ?_) (fun c3 => ?_)
    · have hF := zit c3 hF
      refine lv_iconst (v := 0) hx hb dX7_mend_22 (by decide) ?_
      refine lv_istore_n (lv' := [(2, .int 0), (0, .ref (q 0)), (1, .int x1)]) hx hb dX7_mend_23 rfl hl (by decide) rfl (fun ls hl => ?_)
      have L24 : ∀ (n24 : Nat) (y4 : Int32) (S5 : MS) (H : Heap) (locs : List Loc) (ls : Array Slot), f7_mend_l24 x1 n24 y4 S5 = some (ro, S_o) → va_P (zD g) vwCl (MW g q S5) H → va_D A (MW g q S5) → va_S A s.heap H locs → lv_has ls 3 [(0, .ref (q 0)), (1, .int x1), (2, .int y4)] → W p l e (headSpec wsX7_mend rmX7_mend).room s m args below meth c H locs 0 0 (MQ below (zWQ g A (MW g q S_o) (some (.int ro))) args s 0 0 A) (F0 m 24 ls []) := by
        intro n24
        induction n24 with
        | zero =>
          intro y4 S5 H locs ls hF hP hD hS hl
          exact absurd (show (none : Option (Int32 × MS)) = some _ from hF) (fun h9 => by cases h9)
        | succ n24 ih24 =>
          intro y4 S5 H locs ls hF hP hD hS hl
          rw [f7_mend_l24] at hF
          refine lv_iload_n hx hb dX7_mend_24 rfl (lv_at hl 2 rfl) ?_
          refine lv_aload_n hx hb dX7_mend_25 rfl (lv_at hl 0 rfl) ?_
          refine z_get (ci := 7) (v := .int (S5.1 1)) (C := RX7) (T := TX7) (N := 37) hx hb hts inX7 hown hK hP 0 rfl rfl 1 (by decide) (List.mem_of_getElem? (i := 1) rfl) rfl rfl dX7_mend_26 ?_
          refine lv_icmp_ge (tgt := 76) hx hb dX7_mend_29 (by decide) (fun c6 => ?_) (fun c6 => ?_)
          · have hF := zit c6 hF
            refine lv_bipush (v := (-9)) hx hb dX7_mend_76 (by decide) ?_
            obtain ⟨e9a, e9b⟩ := Prod.mk.inj (zin hF)
            exact z_wi hx hb hr hlk hP hD hS (congrArg (fun z => some (Value.int z)) e9a) (by rw [e9b]) dX7_mend_78
          · have hF := zif c6 hF
            refine lv_aload_n hx hb dX7_mend_32 rfl (lv_at hl 0 rfl) ?_
            obtain ⟨S7, hS7, hF⟩ := zob hF
            refine z_wgoW (va_runV (As := []) (rest := []) ⟨hx, hb, hml, hown, hts⟩ ((c7_layTrial l g q S5   S7 hS7) H.size) (cwV 0 hts gX7_mend_X7_layTrial rfl rfl rfl (by decide +kernel) ⟨Nat.le_of_ble_eq_true rfl, Nat.le_of_ble_eq_true rfl⟩) (z_wpreV (ci := 7) (q := (RX7, TX7, 37)) (q0 := 0) hP hK (z_any hD) rfl rfl) rfl rfl hl.1 rfl (lv_room (Nat.le_of_ble_eq_true rfl)) dX7_mend_33 ⟨Nat.zero_le _, Nat.zero_le _⟩) hP hD hS hA (fun H locs hP hD hS => ?_)
            show W p l e (headSpec wsX7_mend rmX7_mend).room s m args below meth c H locs 0 0 (MQ below (zWQ g A (MW g q S_o) (some (.int ro))) args s 0 0 A) (F0 m 36 ls [])
            refine lv_aload_n hx hb dX7_mend_36 rfl (lv_at hl 0 rfl) ?_
            refine z_get (ci := 7) (v := .ref (q 7)) (C := RX7) (T := TX7) (N := 37) hx hb hts inX7 hown hK hP 0 rfl rfl 11 (by decide) (List.mem_of_getElem? (i := 2) rfl) rfl rfl dX7_mend_37 ?_
            refine lv_bipush (v := 35) hx hb dX7_mend_40 (by decide) ?_
            refine lv_dup2_11 hx hb dX7_mend_42 rfl rfl ?_
            obtain ⟨v8, hv8, hF⟩ := zob hF
            refine z_iald hx hb hK hP 7 rfl hv8 dX7_mend_43 ?_
            refine lv_iconst (v := 1) hx hb dX7_mend_44 (by decide) ?_
            refine lv_iload_n hx hb dX7_mend_45 rfl (lv_at hl 2 rfl) ?_
            refine lv_ishl hx hb dX7_mend_46 ?_
            refine lv_ixor hx hb dX7_mend_47 ?_
            obtain ⟨f9, hf9, hF⟩ := zob hF
            refine z_iast (ws' := MW g q (mA S7 11 f9)) hx hb hK hP hD hS 7 rfl hf9 rfl dX7_mend_48 (fun H locs hP hD hS => ?_)
            obtain ⟨S10, eS10⟩ : ∃ y : MS, y = (mA S7 11 f9) := ⟨_, rfl⟩
            rw [← eS10] at hP hD
            have hF := bd_eq eS10 hF
            refine lv_aload_n hx hb dX7_mend_49 rfl (lv_at hl 0 rfl) ?_
            refine lv_bipush (v := 40) hx hb dX7_mend_50 (by decide) ?_
            obtain ⟨S11, hS11, hF⟩ := zob hF
            refine z_wgoW (va_runV (As := [.int 40]) (rest := []) ⟨hx, hb, hml, hown, hts⟩ ((c7_goTrial l g q S10 40  S11 hS11) H.size) (cwV 1 hts gX7_mend_X7_goTrial rfl rfl rfl (by decide +kernel) ⟨Nat.le_of_ble_eq_true rfl, Nat.le_of_ble_eq_true rfl⟩) (z_wpreV (ci := 7) (q := (RX7, TX7, 37)) (q0 := 0) hP hK (z_any hD) rfl rfl) rfl rfl hl.1 rfl (lv_room (Nat.le_of_ble_eq_true rfl)) dX7_mend_52 ⟨Nat.zero_le _, Nat.zero_le _⟩) hP hD hS hA (fun H locs hP hD hS => ?_)
            show W p l e (headSpec wsX7_mend rmX7_mend).room s m args below meth c H locs 0 0 (MQ below (zWQ g A (MW g q S_o) (some (.int ro))) args s 0 0 A) (F0 m 55 ls [])
            refine lv_aload_n hx hb dX7_mend_55 rfl (lv_at hl 0 rfl) ?_
            refine lv_iconst (v := 1) hx hb dX7_mend_56 (by decide) ?_
            refine lv_iconst (v := 1) hx hb dX7_mend_57 (by decide) ?_
            obtain ⟨v12, hv12, hF⟩ := zob hF
            refine z_rgo (va_runV (As := [.int 1, .int 1]) (rest := []) ⟨hx, hb, hml, hown, hts⟩ (c7_outOn l g q S11 1 1 v12 hv12) (cwV 2 hts gX7_mend_X7_outOn rfl rfl rfl (by decide +kernel) ⟨Nat.le_of_ble_eq_true rfl, Nat.le_of_ble_eq_true rfl⟩) (z_rpreV (ci := 7) (q := (RX7, TX7, 37)) (q0 := 0) hP hK rfl rfl) rfl rfl hl.1 rfl (lv_room (Nat.le_of_ble_eq_true rfl)) dX7_mend_58 ⟨Nat.zero_le _, Nat.zero_le _⟩) ?_
            refine lv_iload_n hx hb dX7_mend_61 rfl (lv_at hl 1 rfl) ?_
            refine z_rgo (va_runS (As := [.int v12, .int x1]) (rest := []) ⟨hx, hb, hml, hown, hts⟩ (c7_has l g   v12 x1) (va_cwS 2 hts gX7_mend_X7_has rfl rfl rfl (by decide +kernel) ⟨Nat.le_of_ble_eq_true rfl, Nat.le_of_ble_eq_true rfl⟩) (z_rpre z_nil hK) rfl rfl hl.1 rfl (lv_room (Nat.le_of_ble_eq_true rfl)) dX7_mend_62 ⟨Nat.zero_le _, Nat.zero_le _⟩) ?_
            refine lv_if_eq (tgt := 70) hx hb dX7_mend_65 (by decide) (fun c13 => ?_) (fun c13 => ?_)
            · have hF := zit c13 hF
              refine lv_iinc (v := (y4 + 1)) (lv' := [(2, .int (y4 + 1)), (0, .ref (q 0)), (1, .int x1)]) hx hb dX7_mend_70 hl (k := 2) rfl rfl (by decide) rfl (fun ls hl => ?_)
              refine lv_goto (tgt := 24) hx hb dX7_mend_73 (by decide) ?_
              exact ih24 (y4 + 1) S11 H locs ls hF hP hD hS (lv_sub hl [1, 2, 0] rfl)
            · have hF := zif c13 hF
              refine lv_iload_n hx hb dX7_mend_68 rfl (lv_at hl 2 rfl) ?_
              obtain ⟨e9a, e9b⟩ := Prod.mk.inj (zin hF)
              exact z_wi hx hb hr hlk hP hD hS (congrArg (fun z => some (Value.int z)) e9a) (by rw [e9b]) dX7_mend_69
      exact L24 FU 0 S H locs ls hF hP hD hS (lv_sub hl [1, 2, 0] rfl)
    · have hF := zif c3 hF
      refine lv_bipush (v := (-3)) hx hb dX7_mend_19 (by decide) ?_
      obtain ⟨e9a, e9b⟩ := Prod.mk.inj (zin hF)
      exact z_wi hx hb hr hlk hP hD hS (congrArg (fun z => some (Value.int z)) e9a) (by rw [e9b]) dX7_mend_21
  · have hF := zit c1 hF
    refine lv_iconst (v := (-1)) hx hb dX7_mend_8 (by decide) ?_
    obtain ⟨e9a, e9b⟩ := Prod.mk.inj (zin hF)
    exact z_wi hx hb hr hlk hP hD hS (congrArg (fun z => some (Value.int z)) e9a) (by rw [e9b]) dX7_mend_9
def f7_net_l180 : Nat → Int32 → MS → Option (Int32 × MS)
  | 0, _, _ => none
  | n180 + 1, y20, S21 => if (S21.1 2) ≤ y20 then (zwr (S21.2.1 11) 38 16 (((1 : Int32) <<< ((S21.1 1) &&& 31)) - 1)).bind fun f23 => bd (mA S21 11 f23) (fun (S24 : MS) => bd (sI S24 26 0) (fun (S25 : MS) => (zwr (S25.2.1 35) 2 0 0).bind fun f26 => bd (mA S25 35 f26) (fun (S27 : MS) => (zwr (S27.2.1 35) 2 1 0).bind fun f28 => bd (mA S27 35 f28) (fun (S29 : MS) => some ((((100 * (S29.1 0)) + (10 * (S29.1 1))) + (S29.1 2)), S29))))) else (zrd (S21.2.1 14) 16 (4 * y20)).bind fun v30 => (zwr (S21.2.1 11) 38 y20 v30).bind fun f31 => bd (mA S21 11 f31) (fun (S32 : MS) => (zrd (S32.2.1 14) 16 ((4 * y20) + 1)).bind fun v33 => (zwr (S32.2.1 9) 4 y20 v33).bind fun f34 => bd (mA S32 9 f34) (fun (S35 : MS) => (zrd (S35.2.1 14) 16 ((4 * y20) + 2)).bind fun v36 => (zwr (S35.2.1 8) 4 y20 v36).bind fun f37 => bd (mA S35 8 f37) (fun (S38 : MS) => (zrd (S38.2.1 14) 16 ((4 * y20) + 3)).bind fun v39 => (zwr (S38.2.1 10) 4 y20 v39).bind fun f40 => bd (mA S38 10 f40) (fun (S41 : MS) => f7_net_l180 n180 (y20 + 1) S41))))
def f7_net_l150 : Nat → Int32 → MS → Option (Int32 × MS)
  | 0, _, _ => none
  | n150 + 1, y17, S18 => if (2 * (S18.1 1)) ≤ y17 then f7_net_l180 FU 0 S18 else (zrd (S18.2.1 13) 16 y17).bind fun v42 => (zwr (S18.2.1 7) 16 y17 v42).bind fun f43 => bd (mA S18 7 f43) (fun (S44 : MS) => f7_net_l150 n150 (y17 + 1) S44)
def f7_net_l104 : Nat → Int32 → MS → Option (Int32 × MS)
  | 0, _, _ => none
  | n104 + 1, y14, S15 => if (S15.1 0) ≤ y14 then f7_net_l150 FU 0 S15 else (zrd (S15.2.1 12) 12 (2 * y14)).bind fun v45 => (zwr (S15.2.1 5) 6 y14 v45).bind fun f46 => bd (mA S15 5 f46) (fun (S47 : MS) => (zrd (S47.2.1 12) 12 ((2 * y14) + 1)).bind fun v48 => (zwr (S47.2.1 6) 6 y14 v48).bind fun f49 => bd (mA S47 6 f49) (fun (S50 : MS) => f7_net_l104 n104 (y14 + 1) S50))
def f7_net_l64 : Nat → Int32 → MS → Option (Int32 × MS)
  | 0, _, _ => none
  | n64 + 1, y11, S12 => if 19 ≤ y11 then f7_net_l104 FU 0 S12 else bd (α := Int32) (if (f7_in ((y11).toInt64) 4 7) = 0 then 0 else (-9)) (fun (v51 : Int32) => (zwr (S12.2.1 11) 38 y11 v51).bind fun f53 => bd (mA S12 11 f53) (fun (S54 : MS) => f7_net_l64 n64 (y11 + 1) S54))
def f7_net (S : MS) : Option (Int32 × MS) := (f7_readText S).bind fun (v2, S1) => if v2 = (-9) then bd (sI S1 0 (S1.1 16)) (fun (S4 : MS) => bd (sI S4 1 (S4.1 17)) (fun (S5 : MS) => bd (sI S5 2 (S5.1 18)) (fun (S6 : MS) => (zrd (S6.2.1 19) 60 1).bind fun v7 => bd (sI S6 3 (v7 - 48)) (fun (S8 : MS) => (zrd (S8.2.1 19) 60 2).bind fun v9 => bd (sI S8 4 (v9 - 48)) (fun (S10 : MS) => f7_net_l64 FU 0 S10))))) else some ((-3), S1)
abbrev rmX7_net : Room := { frames := 4, cells := 0, slots := 0, locals := 91 }
set_option maxHeartbeats 4000000 in
set_option maxRecDepth 100000 in
theorem c7_net (l : Launch) (g : zG) (q : Nat → Nat) (S : MS) (ro : Int32) (S_o : MS) (hF : f7_net S = some (ro, S_o)) : zRW l g yX7_net wsX7_net rmX7_net [.ref (q 0)] (MW g q S) (some (.int ro)) (MW g q S_o) := by
  refine zRW_of (cc := cX7_net) (maxL := 2) (ret := (some .int)) (by decide) rfl (Nat.le_of_ble_eq_true rfl) ?_
  intro p e s m args below meth c A H locs ls hx hb hr hml hts hown hlk hK hA hP hD hS hl
  have hown : s.vm.findClass RX7 = some m.cls := hown
  have hl : lv_has ls 2 [(0, .ref (q 0))] := hl
  have inX7 : ∀ w ∈ wsX70, w ∈ wsX7_net := fun _ h => List.mem_cons_of_mem _ (List.mem_append_right _ h)
  unfold f7_net at hF
  refine lv_aload_n hx hb dX7_net_0 rfl (lv_at hl 0 rfl) ?_
  obtain ⟨⟨v2, S1⟩, hS1, hF⟩ := zob hF
  refine z_wgoW (va_runV (As := []) (rest := []) ⟨hx, hb, hml, hown, hts⟩ ((c7_readText l g q S  v2  S1 hS1) H.size) (cwV 0 hts gX7_net_X7_readText rfl rfl rfl (by decide +kernel) ⟨Nat.le_of_ble_eq_true rfl, Nat.le_of_ble_eq_true rfl⟩) (z_wpreV (ci := 7) (q := (RX7, TX7, 37)) (q0 := 0) hP hK (z_any hD) rfl rfl) rfl rfl hl.1 rfl (lv_room (Nat.le_of_ble_eq_true rfl)) dX7_net_1 ⟨Nat.zero_le _, Nat.zero_le _⟩) hP hD hS hA (fun H locs hP hD hS => ?_)
  show W p l e (headSpec wsX7_net rmX7_net).room s m args below meth c H locs 0 0 (MQ below (zWQ g A (MW g q S_o) (some (.int ro))) args s 0 0 A) (F0 m 4 ls [.int v2])
  refine lv_bipush (v := (-9)) hx hb dX7_net_4 (by decide) ?_
  refine lv_icmp_eq (tgt := 12) hx hb dX7_net_6 (by decide) (fun c3 => ?_) (fun c3 => ?_)
  · have hF := zit c3 hF
    refine lv_aload_n hx hb dX7_net_12 rfl (lv_at hl 0 rfl) ?_
    refine lv_aload_n hx hb dX7_net_13 rfl (lv_at hl 0 rfl) ?_
    refine z_get (ci := 7) (v := .int (S1.1 16)) (C := RX7) (T := TX7) (N := 37) hx hb hts inX7 hown hK hP 0 rfl rfl 16 (by decide) (List.mem_of_getElem? (i := 1) rfl) rfl rfl dX7_net_14 ?_
    refine z_put (ci := 7) (v := .int (S1.1 16)) (C := RX7) (T := TX7) (N := 37) (ws' := MW g q (sI S1 0 (S1.1 16))) hx hb hts inX7 tyX7 tyX7_ok nmX7 hown hK hP hD hS 0 rfl rfl 0 (by decide) (List.mem_of_getElem? (i := 2) rfl) rfl rfl rfl rfl (Nat.le_of_ble_eq_true rfl) rfl dX7_net_17 (fun H locs hP hD hS => ?_)
    obtain ⟨S4, eS4⟩ : ∃ y : MS, y = (sI S1 0 (S1.1 16)) := ⟨_, rfl⟩
    rw [← eS4] at hP hD
    have hF := bd_eq eS4 hF
    refine lv_aload_n hx hb dX7_net_20 rfl (lv_at hl 0 rfl) ?_
    refine lv_aload_n hx hb dX7_net_21 rfl (lv_at hl 0 rfl) ?_
    refine z_get (ci := 7) (v := .int (S4.1 17)) (C := RX7) (T := TX7) (N := 37) hx hb hts inX7 hown hK hP 0 rfl rfl 17 (by decide) (List.mem_of_getElem? (i := 3) rfl) rfl rfl dX7_net_22 ?_
    refine z_put (ci := 7) (v := .int (S4.1 17)) (C := RX7) (T := TX7) (N := 37) (ws' := MW g q (sI S4 1 (S4.1 17))) hx hb hts inX7 tyX7 tyX7_ok nmX7 hown hK hP hD hS 0 rfl rfl 1 (by decide) (List.mem_of_getElem? (i := 4) rfl) rfl rfl rfl rfl (Nat.le_of_ble_eq_true rfl) rfl dX7_net_25 (fun H locs hP hD hS => ?_)
    obtain ⟨S5, eS5⟩ : ∃ y : MS, y = (sI S4 1 (S4.1 17)) := ⟨_, rfl⟩
    rw [← eS5] at hP hD
    have hF := bd_eq eS5 hF
    refine lv_aload_n hx hb dX7_net_28 rfl (lv_at hl 0 rfl) ?_
    refine lv_aload_n hx hb dX7_net_29 rfl (lv_at hl 0 rfl) ?_
    refine z_get (ci := 7) (v := .int (S5.1 18)) (C := RX7) (T := TX7) (N := 37) hx hb hts inX7 hown hK hP 0 rfl rfl 18 (by decide) (List.mem_of_getElem? (i := 5) rfl) rfl rfl dX7_net_30 ?_
    refine z_put (ci := 7) (v := .int (S5.1 18)) (C := RX7) (T := TX7) (N := 37) (ws' := MW g q (sI S5 2 (S5.1 18))) hx hb hts inX7 tyX7 tyX7_ok nmX7 hown hK hP hD hS 0 rfl rfl 2 (by decide) (List.mem_of_getElem? (i := 6) rfl) rfl rfl rfl rfl (Nat.le_of_ble_eq_true rfl) rfl dX7_net_33 (fun H locs hP hD hS => ?_)
    obtain ⟨S6, eS6⟩ : ∃ y : MS, y = (sI S5 2 (S5.1 18)) := ⟨_, rfl⟩
    rw [← eS6] at hP hD
    have hF := bd_eq eS6 hF
    refine lv_aload_n hx hb dX7_net_36 rfl (lv_at hl 0 rfl) ?_
    refine lv_aload_n hx hb dX7_net_37 rfl (lv_at hl 0 rfl) ?_
    refine z_get (ci := 7) (v := .ref (q 12)) (C := RX7) (T := TX7) (N := 37) hx hb hts inX7 hown hK hP 0 rfl rfl 19 (by decide) (List.mem_of_getElem? (i := 7) rfl) rfl rfl dX7_net_38 ?_
    refine lv_iconst (v := 1) hx hb dX7_net_41 (by decide) ?_
    obtain ⟨v7, hv7, hF⟩ := zob hF
    refine z_iald hx hb hK hP 12 rfl hv7 dX7_net_42 ?_
    refine lv_bipush (v := 48) hx hb dX7_net_43 (by decide) ?_
    refine lv_isub hx hb dX7_net_45 ?_
    refine z_put (ci := 7) (v := .int (v7 - 48)) (C := RX7) (T := TX7) (N := 37) (ws' := MW g q (sI S6 3 (v7 - 48))) hx hb hts inX7 tyX7 tyX7_ok nmX7 hown hK hP hD hS 0 rfl rfl 3 (by decide) (List.mem_of_getElem? (i := 8) rfl) rfl rfl rfl rfl (Nat.le_of_ble_eq_true rfl) rfl dX7_net_46 (fun H locs hP hD hS => ?_)
    obtain ⟨S8, eS8⟩ : ∃ y : MS, y = (sI S6 3 (v7 - 48)) := ⟨_, rfl⟩
    rw [← eS8] at hP hD
    have hF := bd_eq eS8 hF
    refine lv_aload_n hx hb dX7_net_49 rfl (lv_at hl 0 rfl) ?_
    refine lv_aload_n hx hb dX7_net_50 rfl (lv_at hl 0 rfl) ?_
    refine z_get (ci := 7) (v := .ref (q 12)) (C := RX7) (T := TX7) (N := 37) hx hb hts inX7 hown hK hP 0 rfl rfl 19 (by decide) (List.mem_of_getElem? (i := 7) rfl) rfl rfl dX7_net_51 ?_
    refine lv_iconst (v := 2) hx hb dX7_net_54 (by decide) ?_
    obtain ⟨v9, hv9, hF⟩ := zob hF
    refine z_iald hx hb hK hP 12 rfl hv9 dX7_net_55 ?_
    refine lv_bipush (v := 48) hx hb dX7_net_56 (by decide) ?_
    refine lv_isub hx hb dX7_net_58 ?_
    refine z_put (ci := 7) (v := .int (v9 - 48)) (C := RX7) (T := TX7) (N := 37) (ws' := MW g q (sI S8 4 (v9 - 48))) hx hb hts inX7 tyX7 tyX7_ok nmX7 hown hK hP hD hS 0 rfl rfl 4 (by decide) (List.mem_of_getElem? (i := 9) rfl) rfl rfl rfl rfl (Nat.le_of_ble_eq_true rfl) rfl dX7_net_59 (fun H locs hP hD hS => ?_)
    obtain ⟨S10, eS10⟩ : ∃ y : MS, y = (sI S8 4 (v9 - 48)) := ⟨_, rfl⟩
    rw [← eS10] at hP hD
    have hF := bd_eq eS10 hF
    refine lv_iconst (v := 0) hx hb dX7_net_62 (by decide) ?_
    refine lv_istore_n (lv' := [(1, .int 0), (0, .ref (q 0))]) hx hb dX7_net_63 rfl hl (by decide) rfl (fun ls hl => ?_)
    have L64 : ∀ (n64 : Nat) (y11 : Int32) (S12 : MS) (H : Heap) (locs : List Loc) (ls : Array Slot), f7_net_l64 n64 y11 S12 = some (ro, S_o) → va_P (zD g) vwCl (MW g q S12) H → va_D A (MW g q S12) → va_S A s.heap H locs → lv_has ls 2 [(0, .ref (q 0)), (1, .int y11)] → W p l e (headSpec wsX7_net rmX7_net).room s m args below meth c H locs 0 0 (MQ below (zWQ g A (MW g q S_o) (some (.int ro))) args s 0 0 A) (F0 m 64 ls []) := by
      intro n64
      induction n64 with
      | zero =>
        intro y11 S12 H locs ls hF hP hD hS hl
        exact absurd (show (none : Option (Int32 × MS)) = some _ from hF) (fun h9 => by cases h9)
      | succ n64 ih64 =>
        intro y11 S12 H locs ls hF hP hD hS hl
        rw [f7_net_l64] at hF
        refine lv_iload_n hx hb dX7_net_64 rfl (lv_at hl 1 rfl) ?_
        refine lv_bipush (v := 19) hx hb dX7_net_65 (by decide) ?_
        refine lv_icmp_ge (tgt := 102) hx hb dX7_net_67 (by decide) (fun c13 => ?_) (fun c13 => ?_)
        · have hF := zit c13 hF
          refine lv_iconst (v := 0) hx hb dX7_net_102 (by decide) ?_
          refine lv_istore_n (lv' := [(1, .int 0), (0, .ref (q 0))]) hx hb dX7_net_103 rfl hl (by decide) rfl (fun ls hl => ?_)
          have L104 : ∀ (n104 : Nat) (y14 : Int32) (S15 : MS) (H : Heap) (locs : List Loc) (ls : Array Slot), f7_net_l104 n104 y14 S15 = some (ro, S_o) → va_P (zD g) vwCl (MW g q S15) H → va_D A (MW g q S15) → va_S A s.heap H locs → lv_has ls 2 [(0, .ref (q 0)), (1, .int y14)] → W p l e (headSpec wsX7_net rmX7_net).room s m args below meth c H locs 0 0 (MQ below (zWQ g A (MW g q S_o) (some (.int ro))) args s 0 0 A) (F0 m 104 ls []) := by
            intro n104
            induction n104 with
            | zero =>
              intro y14 S15 H locs ls hF hP hD hS hl
              exact absurd (show (none : Option (Int32 × MS)) = some _ from hF) (fun h9 => by cases h9)
            | succ n104 ih104 =>
              intro y14 S15 H locs ls hF hP hD hS hl
              rw [f7_net_l104] at hF
              refine lv_iload_n hx hb dX7_net_104 rfl (lv_at hl 1 rfl) ?_
              refine lv_aload_n hx hb dX7_net_105 rfl (lv_at hl 0 rfl) ?_
              refine z_get (ci := 7) (v := .int (S15.1 0)) (C := RX7) (T := TX7) (N := 37) hx hb hts inX7 hown hK hP 0 rfl rfl 0 (by decide) (List.mem_of_getElem? (i := 2) rfl) rfl rfl dX7_net_106 ?_
              refine lv_icmp_ge (tgt := 148) hx hb dX7_net_109 (by decide) (fun c16 => ?_) (fun c16 => ?_)
              · have hF := zit c16 hF
                refine lv_iconst (v := 0) hx hb dX7_net_148 (by decide) ?_
                refine lv_istore_n (lv' := [(1, .int 0), (0, .ref (q 0))]) hx hb dX7_net_149 rfl hl (by decide) rfl (fun ls hl => ?_)
                have L150 : ∀ (n150 : Nat) (y17 : Int32) (S18 : MS) (H : Heap) (locs : List Loc) (ls : Array Slot), f7_net_l150 n150 y17 S18 = some (ro, S_o) → va_P (zD g) vwCl (MW g q S18) H → va_D A (MW g q S18) → va_S A s.heap H locs → lv_has ls 2 [(0, .ref (q 0)), (1, .int y17)] → W p l e (headSpec wsX7_net rmX7_net).room s m args below meth c H locs 0 0 (MQ below (zWQ g A (MW g q S_o) (some (.int ro))) args s 0 0 A) (F0 m 150 ls []) := by
                  intro n150
                  induction n150 with
                  | zero =>
                    intro y17 S18 H locs ls hF hP hD hS hl
                    exact absurd (show (none : Option (Int32 × MS)) = some _ from hF) (fun h9 => by cases h9)
                  | succ n150 ih150 =>
                    intro y17 S18 H locs ls hF hP hD hS hl
                    rw [f7_net_l150] at hF
                    refine lv_iload_n hx hb dX7_net_150 rfl (lv_at hl 1 rfl) ?_
                    refine lv_iconst (v := 2) hx hb dX7_net_151 (by decide) ?_
                    refine lv_aload_n hx hb dX7_net_152 rfl (lv_at hl 0 rfl) ?_
                    refine z_get (ci := 7) (v := .int (S18.1 1)) (C := RX7) (T := TX7) (N := 37) hx hb hts inX7 hown hK hP 0 rfl rfl 1 (by decide) (List.mem_of_getElem? (i := 4) rfl) rfl rfl dX7_net_153 ?_
                    refine lv_imul hx hb dX7_net_156 ?_
                    refine lv_icmp_ge (tgt := 178) hx hb dX7_net_157 (by decide) (fun c19 => ?_) (fun c19 => ?_)
                    · have hF := zit c19 hF
                      refine lv_iconst (v := 0) hx hb dX7_net_178 (by decide) ?_
                      refine lv_istore_n (lv' := [(1, .int 0), (0, .ref (q 0))]) hx hb dX7_net_179 rfl hl (by decide) rfl (fun ls hl => ?_)
                      have L180 : ∀ (n180 : Nat) (y20 : Int32) (S21 : MS) (H : Heap) (locs : List Loc) (ls : Array Slot), f7_net_l180 n180 y20 S21 = some (ro, S_o) → va_P (zD g) vwCl (MW g q S21) H → va_D A (MW g q S21) → va_S A s.heap H locs → lv_has ls 2 [(0, .ref (q 0)), (1, .int y20)] → W p l e (headSpec wsX7_net rmX7_net).room s m args below meth c H locs 0 0 (MQ below (zWQ g A (MW g q S_o) (some (.int ro))) args s 0 0 A) (F0 m 180 ls []) := by
                        intro n180
                        induction n180 with
                        | zero =>
                          intro y20 S21 H locs ls hF hP hD hS hl
                          exact absurd (show (none : Option (Int32 × MS)) = some _ from hF) (fun h9 => by cases h9)
                        | succ n180 ih180 =>
                          intro y20 S21 H locs ls hF hP hD hS hl
                          rw [f7_net_l180] at hF
                          refine lv_iload_n hx hb dX7_net_180 rfl (lv_at hl 1 rfl) ?_
                          refine lv_aload_n hx hb dX7_net_181 rfl (lv_at hl 0 rfl) ?_
                          refine z_get (ci := 7) (v := .int (S21.1 2)) (C := RX7) (T := TX7) (N := 37) hx hb hts inX7 hown hK hP 0 rfl rfl 2 (by decide) (List.mem_of_getElem? (i := 6) rfl) rfl rfl dX7_net_182 ?_
                          refine lv_icmp_ge (tgt := 256) hx hb dX7_net_185 (by decide) (fun c22 => ?_) (fun c22 => ?_)
                          · have hF := zit c22 hF
                            refine lv_aload_n hx hb dX7_net_256 rfl (lv_at hl 0 rfl) ?_
                            refine z_get (ci := 7) (v := .ref (q 7)) (C := RX7) (T := TX7) (N := 37) hx hb hts inX7 hown hK hP 0 rfl rfl 11 (by decide) (List.mem_of_getElem? (i := 10) rfl) rfl rfl dX7_net_257 ?_
                            refine lv_bipush (v := 16) hx hb dX7_net_260 (by decide) ?_
                            refine lv_iconst (v := 1) hx hb dX7_net_262 (by decide) ?_
                            refine lv_aload_n hx hb dX7_net_263 rfl (lv_at hl 0 rfl) ?_
                            refine z_get (ci := 7) (v := .int (S21.1 1)) (C := RX7) (T := TX7) (N := 37) hx hb hts inX7 hown hK hP 0 rfl rfl 1 (by decide) (List.mem_of_getElem? (i := 4) rfl) rfl rfl dX7_net_264 ?_
                            refine lv_ishl hx hb dX7_net_267 ?_
                            refine lv_iconst (v := 1) hx hb dX7_net_268 (by decide) ?_
                            refine lv_isub hx hb dX7_net_269 ?_
                            obtain ⟨f23, hf23, hF⟩ := zob hF
                            refine z_iast (ws' := MW g q (mA S21 11 f23)) hx hb hK hP hD hS 7 rfl hf23 rfl dX7_net_270 (fun H locs hP hD hS => ?_)
                            obtain ⟨S24, eS24⟩ : ∃ y : MS, y = (mA S21 11 f23) := ⟨_, rfl⟩
                            rw [← eS24] at hP hD
                            have hF := bd_eq eS24 hF
                            refine lv_aload_n hx hb dX7_net_271 rfl (lv_at hl 0 rfl) ?_
                            refine lv_iconst (v := 0) hx hb dX7_net_272 (by decide) ?_
                            refine z_put (ci := 7) (v := .int 0) (C := RX7) (T := TX7) (N := 37) (ws' := MW g q (sI S24 26 0)) hx hb hts inX7 tyX7 tyX7_ok nmX7 hown hK hP hD hS 0 rfl rfl 26 (by decide) (List.mem_of_getElem? (i := 22) rfl) rfl rfl rfl rfl (Nat.le_of_ble_eq_true rfl) rfl dX7_net_273 (fun H locs hP hD hS => ?_)
                            obtain ⟨S25, eS25⟩ : ∃ y : MS, y = (sI S24 26 0) := ⟨_, rfl⟩
                            rw [← eS25] at hP hD
                            have hF := bd_eq eS25 hF
                            refine lv_aload_n hx hb dX7_net_276 rfl (lv_at hl 0 rfl) ?_
                            refine z_get (ci := 7) (v := .ref (q 18)) (C := RX7) (T := TX7) (N := 37) hx hb hts inX7 hown hK hP 0 rfl rfl 35 (by decide) (List.mem_of_getElem? (i := 23) rfl) rfl rfl dX7_net_277 ?_
                            refine lv_iconst (v := 0) hx hb dX7_net_280 (by decide) ?_
                            refine lv_iconst (v := 0) hx hb dX7_net_281 (by decide) ?_
                            obtain ⟨f26, hf26, hF⟩ := zob hF
                            refine z_zast (ws' := MW g q (mA S25 35 f26)) hx hb hK hP hD hS 18 rfl rfl hf26 rfl dX7_net_282 (fun H locs hP hD hS => ?_)
                            obtain ⟨S27, eS27⟩ : ∃ y : MS, y = (mA S25 35 f26) := ⟨_, rfl⟩
                            rw [← eS27] at hP hD
                            have hF := bd_eq eS27 hF
                            refine lv_aload_n hx hb dX7_net_283 rfl (lv_at hl 0 rfl) ?_
                            refine z_get (ci := 7) (v := .ref (q 18)) (C := RX7) (T := TX7) (N := 37) hx hb hts inX7 hown hK hP 0 rfl rfl 35 (by decide) (List.mem_of_getElem? (i := 23) rfl) rfl rfl dX7_net_284 ?_
                            refine lv_iconst (v := 1) hx hb dX7_net_287 (by decide) ?_
                            refine lv_iconst (v := 0) hx hb dX7_net_288 (by decide) ?_
                            obtain ⟨f28, hf28, hF⟩ := zob hF
                            refine z_zast (ws' := MW g q (mA S27 35 f28)) hx hb hK hP hD hS 18 rfl rfl hf28 rfl dX7_net_289 (fun H locs hP hD hS => ?_)
                            obtain ⟨S29, eS29⟩ : ∃ y : MS, y = (mA S27 35 f28) := ⟨_, rfl⟩
                            rw [← eS29] at hP hD
                            have hF := bd_eq eS29 hF
                            refine lv_bipush (v := 100) hx hb dX7_net_290 (by decide) ?_
                            refine lv_aload_n hx hb dX7_net_292 rfl (lv_at hl 0 rfl) ?_
                            refine z_get (ci := 7) (v := .int (S29.1 0)) (C := RX7) (T := TX7) (N := 37) hx hb hts inX7 hown hK hP 0 rfl rfl 0 (by decide) (List.mem_of_getElem? (i := 2) rfl) rfl rfl dX7_net_293 ?_
                            refine lv_imul hx hb dX7_net_296 ?_
                            refine lv_bipush (v := 10) hx hb dX7_net_297 (by decide) ?_
                            refine lv_aload_n hx hb dX7_net_299 rfl (lv_at hl 0 rfl) ?_
                            refine z_get (ci := 7) (v := .int (S29.1 1)) (C := RX7) (T := TX7) (N := 37) hx hb hts inX7 hown hK hP 0 rfl rfl 1 (by decide) (List.mem_of_getElem? (i := 4) rfl) rfl rfl dX7_net_300 ?_
                            refine lv_imul hx hb dX7_net_303 ?_
                            refine lv_iadd hx hb dX7_net_304 ?_
                            refine lv_aload_n hx hb dX7_net_305 rfl (lv_at hl 0 rfl) ?_
                            refine z_get (ci := 7) (v := .int (S29.1 2)) (C := RX7) (T := TX7) (N := 37) hx hb hts inX7 hown hK hP 0 rfl rfl 2 (by decide) (List.mem_of_getElem? (i := 6) rfl) rfl rfl dX7_net_306 ?_
                            refine lv_iadd hx hb dX7_net_309 ?_
                            obtain ⟨e9a, e9b⟩ := Prod.mk.inj (zin hF)
                            exact z_wi hx hb hr hlk hP hD hS (congrArg (fun z => some (Value.int z)) e9a) (by rw [e9b]) dX7_net_310
                          · have hF := zif c22 hF
                            refine lv_aload_n hx hb dX7_net_188 rfl (lv_at hl 0 rfl) ?_
                            refine z_get (ci := 7) (v := .ref (q 7)) (C := RX7) (T := TX7) (N := 37) hx hb hts inX7 hown hK hP 0 rfl rfl 11 (by decide) (List.mem_of_getElem? (i := 10) rfl) rfl rfl dX7_net_189 ?_
                            refine lv_iload_n hx hb dX7_net_192 rfl (lv_at hl 1 rfl) ?_
                            refine lv_aload_n hx hb dX7_net_193 rfl (lv_at hl 0 rfl) ?_
                            refine z_get (ci := 7) (v := .ref (q 10)) (C := RX7) (T := TX7) (N := 37) hx hb hts inX7 hown hK hP 0 rfl rfl 14 (by decide) (List.mem_of_getElem? (i := 18) rfl) rfl rfl dX7_net_194 ?_
                            refine lv_iconst (v := 4) hx hb dX7_net_197 (by decide) ?_
                            refine lv_iload_n hx hb dX7_net_198 rfl (lv_at hl 1 rfl) ?_
                            refine lv_imul hx hb dX7_net_199 ?_
                            obtain ⟨v30, hv30, hF⟩ := zob hF
                            refine z_iald hx hb hK hP 10 rfl hv30 dX7_net_200 ?_
                            obtain ⟨f31, hf31, hF⟩ := zob hF
                            refine z_iast (ws' := MW g q (mA S21 11 f31)) hx hb hK hP hD hS 7 rfl hf31 rfl dX7_net_201 (fun H locs hP hD hS => ?_)
                            obtain ⟨S32, eS32⟩ : ∃ y : MS, y = (mA S21 11 f31) := ⟨_, rfl⟩
                            rw [← eS32] at hP hD
                            have hF := bd_eq eS32 hF
                            refine lv_aload_n hx hb dX7_net_202 rfl (lv_at hl 0 rfl) ?_
                            refine z_get (ci := 7) (v := .ref (q 5)) (C := RX7) (T := TX7) (N := 37) hx hb hts inX7 hown hK hP 0 rfl rfl 9 (by decide) (List.mem_of_getElem? (i := 19) rfl) rfl rfl dX7_net_203 ?_
                            refine lv_iload_n hx hb dX7_net_206 rfl (lv_at hl 1 rfl) ?_
                            refine lv_aload_n hx hb dX7_net_207 rfl (lv_at hl 0 rfl) ?_
                            refine z_get (ci := 7) (v := .ref (q 10)) (C := RX7) (T := TX7) (N := 37) hx hb hts inX7 hown hK hP 0 rfl rfl 14 (by decide) (List.mem_of_getElem? (i := 18) rfl) rfl rfl dX7_net_208 ?_
                            refine lv_iconst (v := 4) hx hb dX7_net_211 (by decide) ?_
                            refine lv_iload_n hx hb dX7_net_212 rfl (lv_at hl 1 rfl) ?_
                            refine lv_imul hx hb dX7_net_213 ?_
                            refine lv_iconst (v := 1) hx hb dX7_net_214 (by decide) ?_
                            refine lv_iadd hx hb dX7_net_215 ?_
                            obtain ⟨v33, hv33, hF⟩ := zob hF
                            refine z_iald hx hb hK hP 10 rfl hv33 dX7_net_216 ?_
                            obtain ⟨f34, hf34, hF⟩ := zob hF
                            refine z_iast (ws' := MW g q (mA S32 9 f34)) hx hb hK hP hD hS 5 rfl hf34 rfl dX7_net_217 (fun H locs hP hD hS => ?_)
                            obtain ⟨S35, eS35⟩ : ∃ y : MS, y = (mA S32 9 f34) := ⟨_, rfl⟩
                            rw [← eS35] at hP hD
                            have hF := bd_eq eS35 hF
                            refine lv_aload_n hx hb dX7_net_218 rfl (lv_at hl 0 rfl) ?_
                            refine z_get (ci := 7) (v := .ref (q 4)) (C := RX7) (T := TX7) (N := 37) hx hb hts inX7 hown hK hP 0 rfl rfl 8 (by decide) (List.mem_of_getElem? (i := 20) rfl) rfl rfl dX7_net_219 ?_
                            refine lv_iload_n hx hb dX7_net_222 rfl (lv_at hl 1 rfl) ?_
                            refine lv_aload_n hx hb dX7_net_223 rfl (lv_at hl 0 rfl) ?_
                            refine z_get (ci := 7) (v := .ref (q 10)) (C := RX7) (T := TX7) (N := 37) hx hb hts inX7 hown hK hP 0 rfl rfl 14 (by decide) (List.mem_of_getElem? (i := 18) rfl) rfl rfl dX7_net_224 ?_
                            refine lv_iconst (v := 4) hx hb dX7_net_227 (by decide) ?_
                            refine lv_iload_n hx hb dX7_net_228 rfl (lv_at hl 1 rfl) ?_
                            refine lv_imul hx hb dX7_net_229 ?_
                            refine lv_iconst (v := 2) hx hb dX7_net_230 (by decide) ?_
                            refine lv_iadd hx hb dX7_net_231 ?_
                            obtain ⟨v36, hv36, hF⟩ := zob hF
                            refine z_iald hx hb hK hP 10 rfl hv36 dX7_net_232 ?_
                            obtain ⟨f37, hf37, hF⟩ := zob hF
                            refine z_iast (ws' := MW g q (mA S35 8 f37)) hx hb hK hP hD hS 4 rfl hf37 rfl dX7_net_233 (fun H locs hP hD hS => ?_)
                            obtain ⟨S38, eS38⟩ : ∃ y : MS, y = (mA S35 8 f37) := ⟨_, rfl⟩
                            rw [← eS38] at hP hD
                            have hF := bd_eq eS38 hF
                            refine lv_aload_n hx hb dX7_net_234 rfl (lv_at hl 0 rfl) ?_
                            refine z_get (ci := 7) (v := .ref (q 6)) (C := RX7) (T := TX7) (N := 37) hx hb hts inX7 hown hK hP 0 rfl rfl 10 (by decide) (List.mem_of_getElem? (i := 21) rfl) rfl rfl dX7_net_235 ?_
                            refine lv_iload_n hx hb dX7_net_238 rfl (lv_at hl 1 rfl) ?_
                            refine lv_aload_n hx hb dX7_net_239 rfl (lv_at hl 0 rfl) ?_
                            refine z_get (ci := 7) (v := .ref (q 10)) (C := RX7) (T := TX7) (N := 37) hx hb hts inX7 hown hK hP 0 rfl rfl 14 (by decide) (List.mem_of_getElem? (i := 18) rfl) rfl rfl dX7_net_240 ?_
                            refine lv_iconst (v := 4) hx hb dX7_net_243 (by decide) ?_
                            refine lv_iload_n hx hb dX7_net_244 rfl (lv_at hl 1 rfl) ?_
                            refine lv_imul hx hb dX7_net_245 ?_
                            refine lv_iconst (v := 3) hx hb dX7_net_246 (by decide) ?_
                            refine lv_iadd hx hb dX7_net_247 ?_
                            obtain ⟨v39, hv39, hF⟩ := zob hF
                            refine z_iald hx hb hK hP 10 rfl hv39 dX7_net_248 ?_
                            obtain ⟨f40, hf40, hF⟩ := zob hF
                            refine z_iast (ws' := MW g q (mA S38 10 f40)) hx hb hK hP hD hS 6 rfl hf40 rfl dX7_net_249 (fun H locs hP hD hS => ?_)
                            obtain ⟨S41, eS41⟩ : ∃ y : MS, y = (mA S38 10 f40) := ⟨_, rfl⟩
                            rw [← eS41] at hP hD
                            have hF := bd_eq eS41 hF
                            refine lv_iinc (v := (y20 + 1)) (lv' := [(1, .int (y20 + 1)), (0, .ref (q 0))]) hx hb dX7_net_250 hl (k := 1) rfl rfl (by decide) rfl (fun ls hl => ?_)
                            refine lv_goto (tgt := 180) hx hb dX7_net_253 (by decide) ?_
                            exact ih180 (y20 + 1) S41 H locs ls hF hP hD hS (lv_sub hl [1, 0] rfl)
                      exact L180 FU 0 S18 H locs ls hF hP hD hS (lv_sub hl [1, 0] rfl)
                    · have hF := zif c19 hF
                      refine lv_aload_n hx hb dX7_net_160 rfl (lv_at hl 0 rfl) ?_
                      refine z_get (ci := 7) (v := .ref (q 3)) (C := RX7) (T := TX7) (N := 37) hx hb hts inX7 hown hK hP 0 rfl rfl 7 (by decide) (List.mem_of_getElem? (i := 16) rfl) rfl rfl dX7_net_161 ?_
                      refine lv_iload_n hx hb dX7_net_164 rfl (lv_at hl 1 rfl) ?_
                      refine lv_aload_n hx hb dX7_net_165 rfl (lv_at hl 0 rfl) ?_
                      refine z_get (ci := 7) (v := .ref (q 9)) (C := RX7) (T := TX7) (N := 37) hx hb hts inX7 hown hK hP 0 rfl rfl 13 (by decide) (List.mem_of_getElem? (i := 17) rfl) rfl rfl dX7_net_166 ?_
                      refine lv_iload_n hx hb dX7_net_169 rfl (lv_at hl 1 rfl) ?_
                      obtain ⟨v42, hv42, hF⟩ := zob hF
                      refine z_iald hx hb hK hP 9 rfl hv42 dX7_net_170 ?_
                      obtain ⟨f43, hf43, hF⟩ := zob hF
                      refine z_iast (ws' := MW g q (mA S18 7 f43)) hx hb hK hP hD hS 3 rfl hf43 rfl dX7_net_171 (fun H locs hP hD hS => ?_)
                      obtain ⟨S44, eS44⟩ : ∃ y : MS, y = (mA S18 7 f43) := ⟨_, rfl⟩
                      rw [← eS44] at hP hD
                      have hF := bd_eq eS44 hF
                      refine lv_iinc (v := (y17 + 1)) (lv' := [(1, .int (y17 + 1)), (0, .ref (q 0))]) hx hb dX7_net_172 hl (k := 1) rfl rfl (by decide) rfl (fun ls hl => ?_)
                      refine lv_goto (tgt := 150) hx hb dX7_net_175 (by decide) ?_
                      exact ih150 (y17 + 1) S44 H locs ls hF hP hD hS (lv_sub hl [1, 0] rfl)
                exact L150 FU 0 S15 H locs ls hF hP hD hS (lv_sub hl [1, 0] rfl)
              · have hF := zif c16 hF
                refine lv_aload_n hx hb dX7_net_112 rfl (lv_at hl 0 rfl) ?_
                refine z_get (ci := 7) (v := .ref (q 1)) (C := RX7) (T := TX7) (N := 37) hx hb hts inX7 hown hK hP 0 rfl rfl 5 (by decide) (List.mem_of_getElem? (i := 13) rfl) rfl rfl dX7_net_113 ?_
                refine lv_iload_n hx hb dX7_net_116 rfl (lv_at hl 1 rfl) ?_
                refine lv_aload_n hx hb dX7_net_117 rfl (lv_at hl 0 rfl) ?_
                refine z_get (ci := 7) (v := .ref (q 8)) (C := RX7) (T := TX7) (N := 37) hx hb hts inX7 hown hK hP 0 rfl rfl 12 (by decide) (List.mem_of_getElem? (i := 14) rfl) rfl rfl dX7_net_118 ?_
                refine lv_iconst (v := 2) hx hb dX7_net_121 (by decide) ?_
                refine lv_iload_n hx hb dX7_net_122 rfl (lv_at hl 1 rfl) ?_
                refine lv_imul hx hb dX7_net_123 ?_
                obtain ⟨v45, hv45, hF⟩ := zob hF
                refine z_iald hx hb hK hP 8 rfl hv45 dX7_net_124 ?_
                obtain ⟨f46, hf46, hF⟩ := zob hF
                refine z_iast (ws' := MW g q (mA S15 5 f46)) hx hb hK hP hD hS 1 rfl hf46 rfl dX7_net_125 (fun H locs hP hD hS => ?_)
                obtain ⟨S47, eS47⟩ : ∃ y : MS, y = (mA S15 5 f46) := ⟨_, rfl⟩
                rw [← eS47] at hP hD
                have hF := bd_eq eS47 hF
                refine lv_aload_n hx hb dX7_net_126 rfl (lv_at hl 0 rfl) ?_
                refine z_get (ci := 7) (v := .ref (q 2)) (C := RX7) (T := TX7) (N := 37) hx hb hts inX7 hown hK hP 0 rfl rfl 6 (by decide) (List.mem_of_getElem? (i := 15) rfl) rfl rfl dX7_net_127 ?_
                refine lv_iload_n hx hb dX7_net_130 rfl (lv_at hl 1 rfl) ?_
                refine lv_aload_n hx hb dX7_net_131 rfl (lv_at hl 0 rfl) ?_
                refine z_get (ci := 7) (v := .ref (q 8)) (C := RX7) (T := TX7) (N := 37) hx hb hts inX7 hown hK hP 0 rfl rfl 12 (by decide) (List.mem_of_getElem? (i := 14) rfl) rfl rfl dX7_net_132 ?_
                refine lv_iconst (v := 2) hx hb dX7_net_135 (by decide) ?_
                refine lv_iload_n hx hb dX7_net_136 rfl (lv_at hl 1 rfl) ?_
                refine lv_imul hx hb dX7_net_137 ?_
                refine lv_iconst (v := 1) hx hb dX7_net_138 (by decide) ?_
                refine lv_iadd hx hb dX7_net_139 ?_
                obtain ⟨v48, hv48, hF⟩ := zob hF
                refine z_iald hx hb hK hP 8 rfl hv48 dX7_net_140 ?_
                obtain ⟨f49, hf49, hF⟩ := zob hF
                refine z_iast (ws' := MW g q (mA S47 6 f49)) hx hb hK hP hD hS 2 rfl hf49 rfl dX7_net_141 (fun H locs hP hD hS => ?_)
                obtain ⟨S50, eS50⟩ : ∃ y : MS, y = (mA S47 6 f49) := ⟨_, rfl⟩
                rw [← eS50] at hP hD
                have hF := bd_eq eS50 hF
                refine lv_iinc (v := (y14 + 1)) (lv' := [(1, .int (y14 + 1)), (0, .ref (q 0))]) hx hb dX7_net_142 hl (k := 1) rfl rfl (by decide) rfl (fun ls hl => ?_)
                refine lv_goto (tgt := 104) hx hb dX7_net_145 (by decide) ?_
                exact ih104 (y14 + 1) S50 H locs ls hF hP hD hS (lv_sub hl [1, 0] rfl)
          exact L104 FU 0 S12 H locs ls hF hP hD hS (lv_sub hl [1, 0] rfl)
        · have hF := zif c13 hF
          refine lv_aload_n hx hb dX7_net_70 rfl (lv_at hl 0 rfl) ?_
          refine z_get (ci := 7) (v := .ref (q 7)) (C := RX7) (T := TX7) (N := 37) hx hb hts inX7 hown hK hP 0 rfl rfl 11 (by decide) (List.mem_of_getElem? (i := 10) rfl) rfl rfl dX7_net_71 ?_
          refine lv_iload_n hx hb dX7_net_74 rfl (lv_at hl 1 rfl) ?_
          refine lv_iload_n hx hb dX7_net_75 rfl (lv_at hl 1 rfl) ?_
          refine lv_i2l (v := (y11).toInt64) hx hb dX7_net_76 rfl ?_
          refine lv_ldc2 (own := RX7) (v := 4) hx hb hown (hts (.constantLong RX7 138 4) (List.mem_of_getElem? (i := 11) rfl)) dX7_net_77 ?_
          refine lv_ldc2 (own := RX7) (v := 7) hx hb hown (hts (.constantLong RX7 140 7) (List.mem_of_getElem? (i := 12) rfl)) dX7_net_80 ?_
          refine z_rgo (va_runS (As := [.long ((y11).toInt64), .long 4, .long 7]) (rest := [.int y11, .ref (q 7)]) ⟨hx, hb, hml, hown, hts⟩ (c7_in l g   ((y11).toInt64) 4 7) (va_cwS 3 hts gX7_net_X7_in rfl rfl rfl (by decide +kernel) ⟨Nat.le_of_ble_eq_true rfl, Nat.le_of_ble_eq_true rfl⟩) (z_rpre z_nil hK) rfl rfl hl.1 rfl (lv_room (Nat.le_of_ble_eq_true rfl)) dX7_net_83 ⟨Nat.zero_le _, Nat.zero_le _⟩) ?_
          obtain ⟨v51, hVv51⟩ : ∃ y : Int32, (if (f7_in ((y11).toInt64) 4 7) = 0 then 0 else (-9) : Int32) = y := ⟨_, rfl⟩
          have hF := bd_eq hVv51.symm hF
          have Jv51 : W p l e (headSpec wsX7_net rmX7_net).room s m args below meth c H locs 0 0 (MQ below (zWQ g A (MW g q S_o) (some (.int ro))) args s 0 0 A) (F0 m 95 ls [.int v51, .int y11, .ref (q 7)]) := by
            obtain ⟨f53, hf53, hF⟩ := zob hF
            refine z_iast (ws' := MW g q (mA S12 11 f53)) hx hb hK hP hD hS 7 rfl hf53 rfl dX7_net_95 (fun H locs hP hD hS => ?_)
            obtain ⟨S54, eS54⟩ : ∃ y : MS, y = (mA S12 11 f53) := ⟨_, rfl⟩
            rw [← eS54] at hP hD
            have hF := bd_eq eS54 hF
            refine lv_iinc (v := (y11 + 1)) (lv' := [(1, .int (y11 + 1)), (0, .ref (q 0))]) hx hb dX7_net_96 hl (k := 1) rfl rfl (by decide) rfl (fun ls hl => ?_)
            refine lv_goto (tgt := 64) hx hb dX7_net_99 (by decide) ?_
            exact ih64 (y11 + 1) S54 H locs ls hF hP hD hS (lv_sub hl [1, 0] rfl)
          refine lv_if_eq (tgt := 94) hx hb dX7_net_86 (by decide) (fun c52 => ?_) (fun c52 => ?_)
          · have hVv51 := zit c52 hVv51
            refine lv_iconst (v := 0) hx hb dX7_net_94 (by decide) ?_
            subst hVv51
            exact Jv51
          · have hVv51 := zif c52 hVv51
            refine lv_bipush (v := (-9)) hx hb dX7_net_89 (by decide) ?_
            refine lv_goto (tgt := 95) hx hb dX7_net_91 (by decide) ?_
            subst hVv51
            exact Jv51
    exact L64 FU 0 S10 H locs ls hF hP hD hS (lv_sub hl [1, 0] rfl)
  · have hF := zif c3 hF
    refine lv_bipush (v := (-3)) hx hb dX7_net_9 (by decide) ?_
    obtain ⟨e9a, e9b⟩ := Prod.mk.inj (zin hF)
    exact z_wi hx hb hr hlk hP hD hS (congrArg (fun z => some (Value.int z)) e9a) (by rw [e9b]) dX7_net_11
def f7_pipe (S : MS) (x1 : Int32) (x2 : Int32) : Option (Int32) := if (f7_isPipe S x1) = 0 then some (-1) else if (f7_in ((x2).toInt64) 0 1) = 0 then if x2 = 2 then (zrd (S.2.1 11) 38 16).bind fun v4 => some ((v4 >>> (x1 &&& 31)) &&& 1) else some (-2) else (zrd (S.2.1 7) 16 ((2 * x1) + x2)).bind fun v5 => some v5
abbrev rmX7_pipe : Room := { frames := 2, cells := 0, slots := 0, locals := 46 }
set_option maxHeartbeats 4000000 in
set_option maxRecDepth 100000 in
theorem c7_pipe (l : Launch) (g : zG) (q : Nat → Nat) (S : MS) (x1 : Int32) (x2 : Int32) (ro : Int32) (hF : f7_pipe S x1 x2 = some ro) : zRO l g yX7_pipe wsX7_pipe rmX7_pipe [.ref (q 0), .int x1, .int x2] (MW g q S) (some (.int ro)) := by
  refine zRO_of (cc := cX7_pipe) (maxL := 3) (ret := (some .int)) (by decide) rfl (Nat.le_of_ble_eq_true rfl) ?_
  intro p e s m args below meth c ls hx hb hr hml hts hown hlk hK hP hl
  have hown : s.vm.findClass RX7 = some m.cls := hown
  have hl : lv_has ls 3 [(0, .ref (q 0)), (1, .int x1), (2, .int x2)] := hl
  have inX7 : ∀ w ∈ wsX70, w ∈ wsX7_pipe := fun _ h => List.mem_cons_of_mem _ (List.mem_append_right _ h)
  unfold f7_pipe at hF
  refine lv_aload_n hx hb dX7_pipe_0 rfl (lv_at hl 0 rfl) ?_
  refine lv_iload_n hx hb dX7_pipe_1 rfl (lv_at hl 1 rfl) ?_
  refine z_rgo (va_runV (As := [.int x1]) (rest := []) ⟨hx, hb, hml, hown, hts⟩ (c7_isPipe l g q S x1) (cwV 1 hts gX7_pipe_X7_isPipe rfl rfl rfl (by decide +kernel) ⟨Nat.le_of_ble_eq_true rfl, Nat.le_of_ble_eq_true rfl⟩) (z_rpreV (ci := 7) (q := (RX7, TX7, 37)) (q0 := 0) hP hK rfl rfl) rfl rfl hl.1 rfl (lv_room (Nat.le_of_ble_eq_true rfl)) dX7_pipe_2 ⟨Nat.zero_le _, Nat.zero_le _⟩) ?_
  refine lv_if_ne (tgt := 10) hx hb dX7_pipe_5 (by decide) (fun c1 => ?_) (fun c1 => ?_)
  · have hF := zif c1 hF
    refine lv_iload_n hx hb dX7_pipe_10 rfl (lv_at hl 2 rfl) ?_
    refine lv_i2l (v := (x2).toInt64) hx hb dX7_pipe_11 rfl ?_
    refine lv_lconst (v := 0) hx hb dX7_pipe_12 (by decide) ?_
    refine lv_lconst (v := 1) hx hb dX7_pipe_13 (by decide) ?_
    refine z_rgo (va_runS (As := [.long ((x2).toInt64), .long 0, .long 1]) (rest := []) ⟨hx, hb, hml, hown, hts⟩ (c7_in l g   ((x2).toInt64) 0 1) (va_cwS 3 hts gX7_pipe_X7_in rfl rfl rfl (by decide +kernel) ⟨Nat.le_of_ble_eq_true rfl, Nat.le_of_ble_eq_true rfl⟩) (z_rpre z_nil hK) rfl rfl hl.1 rfl (lv_room (Nat.le_of_ble_eq_true rfl)) dX7_pipe_14 ⟨Nat.zero_le _, Nat.zero_le _⟩) ?_
    refine lv_if_eq (tgt := 33) hx hb dX7_pipe_17 (by decide) (fun c2 => ?_) (fun c2 => ?_)
    · have hF := zit c2 hF
      refine lv_iload_n hx hb dX7_pipe_33 rfl (lv_at hl 2 rfl) ?_
      refine lv_iconst (v := 2) hx hb dX7_pipe_34 (by decide) ?_
      refine lv_icmp_ne (tgt := 52) hx hb dX7_pipe_35 (by decide) (fun c3 => ?_) (fun c3 => ?_)
      · have hF := zif c3 hF
        refine lv_bipush (v := (-2)) hx hb dX7_pipe_52 (by decide) ?_
        have e9a := zin hF
        exact z_ri hx hb hr hlk (congrArg (fun z => some (Value.int z)) e9a) dX7_pipe_54
      · have hF := zit c3 hF
        refine lv_aload_n hx hb dX7_pipe_38 rfl (lv_at hl 0 rfl) ?_
        refine z_get (ci := 7) (v := .ref (q 7)) (C := RX7) (T := TX7) (N := 37) hx hb hts inX7 hown hK hP 0 rfl rfl 11 (by decide) (List.mem_of_getElem? (i := 2) rfl) rfl rfl dX7_pipe_39 ?_
        refine lv_bipush (v := 16) hx hb dX7_pipe_42 (by decide) ?_
        obtain ⟨v4, hv4, hF⟩ := zob hF
        refine z_iald hx hb hK hP 7 rfl hv4 dX7_pipe_44 ?_
        refine lv_iload_n hx hb dX7_pipe_45 rfl (lv_at hl 1 rfl) ?_
        refine lv_ishr hx hb dX7_pipe_46 ?_
        refine lv_iconst (v := 1) hx hb dX7_pipe_47 (by decide) ?_
        refine lv_iand hx hb dX7_pipe_48 ?_
        refine lv_goto (tgt := 54) hx hb dX7_pipe_49 (by decide) ?_
        have e9a := zin hF
        exact z_ri hx hb hr hlk (congrArg (fun z => some (Value.int z)) e9a) dX7_pipe_54
    · have hF := zif c2 hF
      refine lv_aload_n hx hb dX7_pipe_20 rfl (lv_at hl 0 rfl) ?_
      refine z_get (ci := 7) (v := .ref (q 3)) (C := RX7) (T := TX7) (N := 37) hx hb hts inX7 hown hK hP 0 rfl rfl 7 (by decide) (List.mem_of_getElem? (i := 1) rfl) rfl rfl dX7_pipe_21 ?_
      refine lv_iconst (v := 2) hx hb dX7_pipe_24 (by decide) ?_
      refine lv_iload_n hx hb dX7_pipe_25 rfl (lv_at hl 1 rfl) ?_
      refine lv_imul hx hb dX7_pipe_26 ?_
      refine lv_iload_n hx hb dX7_pipe_27 rfl (lv_at hl 2 rfl) ?_
      refine lv_iadd hx hb dX7_pipe_28 ?_
      obtain ⟨v5, hv5, hF⟩ := zob hF
      refine z_iald hx hb hK hP 3 rfl hv5 dX7_pipe_29 ?_
      refine lv_goto (tgt := 54) hx hb dX7_pipe_30 (by decide) ?_
      have e9a := zin hF
      exact z_ri hx hb hr hlk (congrArg (fun z => some (Value.int z)) e9a) dX7_pipe_54
  · have hF := zit c1 hF
    refine lv_iconst (v := (-1)) hx hb dX7_pipe_8 (by decide) ?_
    have e9a := zin hF
    exact z_ri hx hb hr hlk (congrArg (fun z => some (Value.int z)) e9a) dX7_pipe_9
def f7_rests_l56 (x1 : Int32) (x2 : Int32) (x3 : Int32) : Nat → Int32 → Int32 → Int32 → MS → Option (Int32 × MS)
  | 0, _, _, _, _ => none
  | n56 + 1, y7, y8, y9, S10 => if ((S10.1 0) * (S10.1 0)) ≤ y9 then if x3 = 0 then some (y7, S10) else some (y8, S10) else (zdv y9 (S10.1 0)).bind fun v13 => (zrm y9 (S10.1 0)).bind fun v14 => (zrd (S10.2.1 6) 6 v13).bind fun v15 => if v15 = 1 then (zrd (S10.2.1 6) 6 v14).bind fun v17 => if v17 = 1 then (f7_isRest S10 x1 x2 v13 v14).bind fun v19 => if v19 = 0 then f7_rests_l56 x1 x2 x3 n56 y7 y8 (y9 + 1) S10 else bd (α := Int32) (if y7 = 0 then ((10 * v13) + v14) else y8) (fun (v21 : Int32) => f7_rests_l56 x1 x2 x3 n56 (y7 + 1) v21 (y9 + 1) S10) else f7_rests_l56 x1 x2 x3 n56 y7 y8 (y9 + 1) S10 else f7_rests_l56 x1 x2 x3 n56 y7 y8 (y9 + 1) S10
def f7_rests (S : MS) (x1 : Int32) (x2 : Int32) (x3 : Int32) : Option (Int32 × MS) := if (f7_isWalker S x1) = 0 then some ((-1), S) else if (f7_isWalker S x2) = 0 then some ((-1), S) else if x1 = x2 then some ((-2), S) else if (f7_in ((x3).toInt64) 0 1) = 0 then some ((-2), S) else (f7_layTrial S).bind fun S5 => (f7_goTrial S5 40).bind fun S6 => f7_rests_l56 x1 x2 x3 FU 0 (-9) 0 S6
abbrev rmX7_rests : Room := { frames := 6, cells := 0, slots := 0, locals := 147 }
set_option maxHeartbeats 4000000 in
set_option maxRecDepth 100000 in
theorem c7_rests (l : Launch) (g : zG) (q : Nat → Nat) (S : MS) (x1 : Int32) (x2 : Int32) (x3 : Int32) (ro : Int32) (S_o : MS) (hF : f7_rests S x1 x2 x3 = some (ro, S_o)) : zRW l g yX7_rests wsX7_rests rmX7_rests [.ref (q 0), .int x1, .int x2, .int x3] (MW g q S) (some (.int ro)) (MW g q S_o) := by
  refine zRW_of (cc := cX7_rests) (maxL := 9) (ret := (some .int)) (by decide) rfl (Nat.le_of_ble_eq_true rfl) ?_
  intro p e s m args below meth c A H locs ls hx hb hr hml hts hown hlk hK hA hP hD hS hl
  have hown : s.vm.findClass RX7 = some m.cls := hown
  have hl : lv_has ls 9 [(0, .ref (q 0)), (1, .int x1), (2, .int x2), (3, .int x3)] := hl
  have inX7 : ∀ w ∈ wsX70, w ∈ wsX7_rests := fun _ h => List.mem_cons_of_mem _ (List.mem_append_right _ h)
  unfold f7_rests at hF
  refine lv_aload_n hx hb dX7_rests_0 rfl (lv_at hl 0 rfl) ?_
  refine lv_iload_n hx hb dX7_rests_1 rfl (lv_at hl 1 rfl) ?_
  refine z_rgo (va_runV (As := [.int x1]) (rest := []) ⟨hx, hb, hml, hown, hts⟩ (c7_isWalker l g q S x1) (cwV 1 hts gX7_rests_X7_isWalker rfl rfl rfl (by decide +kernel) ⟨Nat.le_of_ble_eq_true rfl, Nat.le_of_ble_eq_true rfl⟩) (z_rpreV (ci := 7) (q := (RX7, TX7, 37)) (q0 := 0) hP hK rfl rfl) rfl rfl hl.1 rfl (lv_room (Nat.le_of_ble_eq_true rfl)) dX7_rests_2 ⟨Nat.zero_le _, Nat.zero_le _⟩) ?_
  refine lv_if_eq (tgt := 16) hx hb dX7_rests_5 (by decide) (fun c1 => ?_) (fun c1 => ?_)
  · have hF := zit c1 hF
    refine lv_iconst (v := (-1)) hx hb dX7_rests_16 (by decide) ?_
    obtain ⟨e9a, e9b⟩ := Prod.mk.inj (zin hF)
    exact z_wi hx hb hr hlk hP hD hS (congrArg (fun z => some (Value.int z)) e9a) (by rw [e9b]) dX7_rests_17
  · have hF := zif c1 hF
    refine lv_aload_n hx hb dX7_rests_8 rfl (lv_at hl 0 rfl) ?_
    refine lv_iload_n hx hb dX7_rests_9 rfl (lv_at hl 2 rfl) ?_
    refine z_rgo (va_runV (As := [.int x2]) (rest := []) ⟨hx, hb, hml, hown, hts⟩ (c7_isWalker l g q S x2) (cwV 1 hts gX7_rests_X7_isWalker rfl rfl rfl (by decide +kernel) ⟨Nat.le_of_ble_eq_true rfl, Nat.le_of_ble_eq_true rfl⟩) (z_rpreV (ci := 7) (q := (RX7, TX7, 37)) (q0 := 0) hP hK rfl rfl) rfl rfl hl.1 rfl (lv_room (Nat.le_of_ble_eq_true rfl)) dX7_rests_10 ⟨Nat.zero_le _, Nat.zero_le _⟩) ?_
    refine lv_if_ne (tgt := 18) hx hb dX7_rests_13 (by decide) (fun c2 => ?_) (fun c2 => ?_)
    · have hF := zif c2 hF
      refine lv_iload_n hx hb dX7_rests_18 rfl (lv_at hl 1 rfl) ?_
      refine lv_iload_n hx hb dX7_rests_19 rfl (lv_at hl 2 rfl) ?_
      refine lv_icmp_eq (tgt := 33) hx hb dX7_rests_20 (by decide) (fun c3 => ?_) (fun c3 => ?_)
      · have hF := zit c3 hF
        refine lv_bipush (v := (-2)) hx hb dX7_rests_33 (by decide) ?_
        obtain ⟨e9a, e9b⟩ := Prod.mk.inj (zin hF)
        exact z_wi hx hb hr hlk hP hD hS (congrArg (fun z => some (Value.int z)) e9a) (by rw [e9b]) dX7_rests_35
      · have hF := zif c3 hF
        refine lv_iload_n hx hb dX7_rests_23 rfl (lv_at hl 3 rfl) ?_
        refine lv_i2l (v := (x3).toInt64) hx hb dX7_rests_24 rfl ?_
        refine lv_lconst (v := 0) hx hb dX7_rests_25 (by decide) ?_
        refine lv_lconst (v := 1) hx hb dX7_rests_26 (by decide) ?_
        refine z_rgo (va_runS (As := [.long ((x3).toInt64), .long 0, .long 1]) (rest := []) ⟨hx, hb, hml, hown, hts⟩ (c7_in l g   ((x3).toInt64) 0 1) (va_cwS 3 hts gX7_rests_X7_in rfl rfl rfl (by decide +kernel) ⟨Nat.le_of_ble_eq_true rfl, Nat.le_of_ble_eq_true rfl⟩) (z_rpre z_nil hK) rfl rfl hl.1 rfl (lv_room (Nat.le_of_ble_eq_true rfl)) dX7_rests_27 ⟨Nat.zero_le _, Nat.zero_le _⟩) ?_
        refine lv_if_ne (tgt := 36) hx hb dX7_rests_30 (by decide) (fun c4 => ?_) (fun c4 => ?_)
        · have hF := zif c4 hF
          refine lv_aload_n hx hb dX7_rests_36 rfl (lv_at hl 0 rfl) ?_
          obtain ⟨S5, hS5, hF⟩ := zob hF
          refine z_wgoW (va_runV (As := []) (rest := []) ⟨hx, hb, hml, hown, hts⟩ ((c7_layTrial l g q S   S5 hS5) H.size) (cwV 0 hts gX7_rests_X7_layTrial rfl rfl rfl (by decide +kernel) ⟨Nat.le_of_ble_eq_true rfl, Nat.le_of_ble_eq_true rfl⟩) (z_wpreV (ci := 7) (q := (RX7, TX7, 37)) (q0 := 0) hP hK (z_any hD) rfl rfl) rfl rfl hl.1 rfl (lv_room (Nat.le_of_ble_eq_true rfl)) dX7_rests_37 ⟨Nat.zero_le _, Nat.zero_le _⟩) hP hD hS hA (fun H locs hP hD hS => ?_)
          show W p l e (headSpec wsX7_rests rmX7_rests).room s m args below meth c H locs 0 0 (MQ below (zWQ g A (MW g q S_o) (some (.int ro))) args s 0 0 A) (F0 m 40 ls [])
          refine lv_aload_n hx hb dX7_rests_40 rfl (lv_at hl 0 rfl) ?_
          refine lv_bipush (v := 40) hx hb dX7_rests_41 (by decide) ?_
          obtain ⟨S6, hS6, hF⟩ := zob hF
          refine z_wgoW (va_runV (As := [.int 40]) (rest := []) ⟨hx, hb, hml, hown, hts⟩ ((c7_goTrial l g q S5 40  S6 hS6) H.size) (cwV 1 hts gX7_rests_X7_goTrial rfl rfl rfl (by decide +kernel) ⟨Nat.le_of_ble_eq_true rfl, Nat.le_of_ble_eq_true rfl⟩) (z_wpreV (ci := 7) (q := (RX7, TX7, 37)) (q0 := 0) hP hK (z_any hD) rfl rfl) rfl rfl hl.1 rfl (lv_room (Nat.le_of_ble_eq_true rfl)) dX7_rests_43 ⟨Nat.zero_le _, Nat.zero_le _⟩) hP hD hS hA (fun H locs hP hD hS => ?_)
          show W p l e (headSpec wsX7_rests rmX7_rests).room s m args below meth c H locs 0 0 (MQ below (zWQ g A (MW g q S_o) (some (.int ro))) args s 0 0 A) (F0 m 46 ls [])
          refine lv_iconst (v := 0) hx hb dX7_rests_46 (by decide) ?_
          refine lv_istore (lv' := [(4, .int 0), (0, .ref (q 0)), (1, .int x1), (2, .int x2), (3, .int x3)]) hx hb dX7_rests_47 hl (by decide) rfl (fun ls hl => ?_)
          refine lv_bipush (v := (-9)) hx hb dX7_rests_49 (by decide) ?_
          refine lv_istore (lv' := [(5, .int (-9)), (4, .int 0), (0, .ref (q 0)), (1, .int x1), (2, .int x2), (3, .int x3)]) hx hb dX7_rests_51 hl (by decide) rfl (fun ls hl => ?_)
          refine lv_iconst (v := 0) hx hb dX7_rests_53 (by decide) ?_
          refine lv_istore (lv' := [(6, .int 0), (5, .int (-9)), (4, .int 0), (0, .ref (q 0)), (1, .int x1), (2, .int x2), (3, .int x3)]) hx hb dX7_rests_54 hl (by decide) rfl (fun ls hl => ?_)
          have L56 : ∀ (n56 : Nat) (y7 : Int32) (y8 : Int32) (y9 : Int32) (S10 : MS) (H : Heap) (locs : List Loc) (ls : Array Slot), f7_rests_l56 x1 x2 x3 n56 y7 y8 y9 S10 = some (ro, S_o) → va_P (zD g) vwCl (MW g q S10) H → va_D A (MW g q S10) → va_S A s.heap H locs → lv_has ls 9 [(0, .ref (q 0)), (1, .int x1), (2, .int x2), (3, .int x3), (4, .int y7), (5, .int y8), (6, .int y9)] → W p l e (headSpec wsX7_rests rmX7_rests).room s m args below meth c H locs 0 0 (MQ below (zWQ g A (MW g q S_o) (some (.int ro))) args s 0 0 A) (F0 m 56 ls []) := by
            intro n56
            induction n56 with
            | zero =>
              intro y7 y8 y9 S10 H locs ls hF hP hD hS hl
              exact absurd (show (none : Option (Int32 × MS)) = some _ from hF) (fun h9 => by cases h9)
            | succ n56 ih56 =>
              intro y7 y8 y9 S10 H locs ls hF hP hD hS hl
              rw [f7_rests_l56] at hF
              refine lv_iload hx hb dX7_rests_56 (lv_at hl 6 rfl) ?_
              refine lv_aload_n hx hb dX7_rests_58 rfl (lv_at hl 0 rfl) ?_
              refine z_get (ci := 7) (v := .int (S10.1 0)) (C := RX7) (T := TX7) (N := 37) hx hb hts inX7 hown hK hP 0 rfl rfl 0 (by decide) (List.mem_of_getElem? (i := 1) rfl) rfl rfl dX7_rests_59 ?_
              refine lv_aload_n hx hb dX7_rests_62 rfl (lv_at hl 0 rfl) ?_
              refine z_get (ci := 7) (v := .int (S10.1 0)) (C := RX7) (T := TX7) (N := 37) hx hb hts inX7 hown hK hP 0 rfl rfl 0 (by decide) (List.mem_of_getElem? (i := 1) rfl) rfl rfl dX7_rests_63 ?_
              refine lv_imul hx hb dX7_rests_66 ?_
              refine lv_icmp_ge (tgt := 152) hx hb dX7_rests_67 (by decide) (fun c11 => ?_) (fun c11 => ?_)
              · have hF := zit c11 hF
                refine lv_iload_n hx hb dX7_rests_152 rfl (lv_at hl 3 rfl) ?_
                refine lv_if_ne (tgt := 161) hx hb dX7_rests_153 (by decide) (fun c12 => ?_) (fun c12 => ?_)
                · have hF := zif c12 hF
                  refine lv_iload hx hb dX7_rests_161 (lv_at hl 5 rfl) ?_
                  obtain ⟨e9a, e9b⟩ := Prod.mk.inj (zin hF)
                  exact z_wi hx hb hr hlk hP hD hS (congrArg (fun z => some (Value.int z)) e9a) (by rw [e9b]) dX7_rests_163
                · have hF := zit c12 hF
                  refine lv_iload hx hb dX7_rests_156 (lv_at hl 4 rfl) ?_
                  refine lv_goto (tgt := 163) hx hb dX7_rests_158 (by decide) ?_
                  obtain ⟨e9a, e9b⟩ := Prod.mk.inj (zin hF)
                  exact z_wi hx hb hr hlk hP hD hS (congrArg (fun z => some (Value.int z)) e9a) (by rw [e9b]) dX7_rests_163
              · have hF := zif c11 hF
                refine lv_iload hx hb dX7_rests_70 (lv_at hl 6 rfl) ?_
                refine lv_aload_n hx hb dX7_rests_72 rfl (lv_at hl 0 rfl) ?_
                refine z_get (ci := 7) (v := .int (S10.1 0)) (C := RX7) (T := TX7) (N := 37) hx hb hts inX7 hown hK hP 0 rfl rfl 0 (by decide) (List.mem_of_getElem? (i := 1) rfl) rfl rfl dX7_rests_73 ?_
                obtain ⟨v13, hv13, hF⟩ := zob hF
                refine z_idiv hx hb dX7_rests_76 hv13 ?_
                refine lv_istore (lv' := [(7, .int v13), (0, .ref (q 0)), (1, .int x1), (2, .int x2), (3, .int x3), (4, .int y7), (5, .int y8), (6, .int y9)]) hx hb dX7_rests_77 hl (by decide) rfl (fun ls hl => ?_)
                refine lv_iload hx hb dX7_rests_79 (lv_at hl 7 rfl) ?_
                refine lv_aload_n hx hb dX7_rests_81 rfl (lv_at hl 1 rfl) ?_
                refine z_get (ci := 7) (v := .int (S10.1 0)) (C := RX7) (T := TX7) (N := 37) hx hb hts inX7 hown hK hP 0 rfl rfl 0 (by decide) (List.mem_of_getElem? (i := 1) rfl) rfl rfl dX7_rests_82 ?_
                obtain ⟨v14, hv14, hF⟩ := zob hF
                refine z_irem hx hb dX7_rests_85 hv14 ?_
                refine lv_istore (lv' := [(8, .int v14), (7, .int v13), (0, .ref (q 0)), (1, .int x1), (2, .int x2), (3, .int x3), (4, .int y7), (5, .int y8), (6, .int y9)]) hx hb dX7_rests_86 hl (by decide) rfl (fun ls hl => ?_)
                refine lv_aload_n hx hb dX7_rests_88 rfl (lv_at hl 2 rfl) ?_
                refine z_get (ci := 7) (v := .ref (q 2)) (C := RX7) (T := TX7) (N := 37) hx hb hts inX7 hown hK hP 0 rfl rfl 6 (by decide) (List.mem_of_getElem? (i := 2) rfl) rfl rfl dX7_rests_89 ?_
                refine lv_iload hx hb dX7_rests_92 (lv_at hl 1 rfl) ?_
                obtain ⟨v15, hv15, hF⟩ := zob hF
                refine z_iald hx hb hK hP 2 rfl hv15 dX7_rests_94 ?_
                refine lv_iconst (v := 1) hx hb dX7_rests_95 (by decide) ?_
                refine lv_icmp_ne (tgt := 146) hx hb dX7_rests_96 (by decide) (fun c16 => ?_) (fun c16 => ?_)
                · have hF := zif c16 hF
                  refine lv_iinc (v := (y9 + 1)) (lv' := [(6, .int (y9 + 1)), (8, .int v14), (7, .int v13), (0, .ref (q 0)), (1, .int x1), (2, .int x2), (3, .int x3), (4, .int y7), (5, .int y8)]) hx hb dX7_rests_146 hl (k := 8) rfl rfl (by decide) rfl (fun ls hl => ?_)
                  refine lv_goto (tgt := 56) hx hb dX7_rests_149 (by decide) ?_
                  exact ih56 y7 y8 (y9 + 1) S10 H locs ls hF hP hD hS (lv_sub hl [3, 4, 5, 6, 7, 8, 0] rfl)
                · have hF := zit c16 hF
                  refine lv_aload_n hx hb dX7_rests_99 rfl (lv_at hl 2 rfl) ?_
                  refine z_get (ci := 7) (v := .ref (q 2)) (C := RX7) (T := TX7) (N := 37) hx hb hts inX7 hown hK hP 0 rfl rfl 6 (by decide) (List.mem_of_getElem? (i := 2) rfl) rfl rfl dX7_rests_100 ?_
                  refine lv_iload hx hb dX7_rests_103 (lv_at hl 0 rfl) ?_
                  obtain ⟨v17, hv17, hF⟩ := zob hF
                  refine z_iald hx hb hK hP 2 rfl hv17 dX7_rests_105 ?_
                  refine lv_iconst (v := 1) hx hb dX7_rests_106 (by decide) ?_
                  refine lv_icmp_ne (tgt := 146) hx hb dX7_rests_107 (by decide) (fun c18 => ?_) (fun c18 => ?_)
                  · have hF := zif c18 hF
                    refine lv_iinc (v := (y9 + 1)) (lv' := [(6, .int (y9 + 1)), (8, .int v14), (7, .int v13), (0, .ref (q 0)), (1, .int x1), (2, .int x2), (3, .int x3), (4, .int y7), (5, .int y8)]) hx hb dX7_rests_146 hl (k := 8) rfl rfl (by decide) rfl (fun ls hl => ?_)
                    refine lv_goto (tgt := 56) hx hb dX7_rests_149 (by decide) ?_
                    exact ih56 y7 y8 (y9 + 1) S10 H locs ls hF hP hD hS (lv_sub hl [3, 4, 5, 6, 7, 8, 0] rfl)
                  · have hF := zit c18 hF
                    refine lv_aload_n hx hb dX7_rests_110 rfl (lv_at hl 2 rfl) ?_
                    refine lv_iload_n hx hb dX7_rests_111 rfl (lv_at hl 3 rfl) ?_
                    refine lv_iload_n hx hb dX7_rests_112 rfl (lv_at hl 4 rfl) ?_
                    refine lv_iload hx hb dX7_rests_113 (lv_at hl 1 rfl) ?_
                    refine lv_iload hx hb dX7_rests_115 (lv_at hl 0 rfl) ?_
                    obtain ⟨v19, hv19, hF⟩ := zob hF
                    refine z_rgo (va_runV (As := [.int x1, .int x2, .int v13, .int v14]) (rest := []) ⟨hx, hb, hml, hown, hts⟩ (c7_isRest l g q S10 x1 x2 v13 v14 v19 hv19) (cwV 4 hts gX7_rests_X7_isRest rfl rfl rfl (by decide +kernel) ⟨Nat.le_of_ble_eq_true rfl, Nat.le_of_ble_eq_true rfl⟩) (z_rpreV (ci := 7) (q := (RX7, TX7, 37)) (q0 := 0) hP hK rfl rfl) rfl rfl hl.1 rfl (lv_room (Nat.le_of_ble_eq_true rfl)) dX7_rests_117 ⟨Nat.zero_le _, Nat.zero_le _⟩) ?_
                    refine lv_if_eq (tgt := 146) hx hb dX7_rests_120 (by decide) (fun c20 => ?_) (fun c20 => ?_)
                    · have hF := zit c20 hF
                      refine lv_iinc (v := (y9 + 1)) (lv' := [(6, .int (y9 + 1)), (8, .int v14), (7, .int v13), (0, .ref (q 0)), (1, .int x1), (2, .int x2), (3, .int x3), (4, .int y7), (5, .int y8)]) hx hb dX7_rests_146 hl (k := 8) rfl rfl (by decide) rfl (fun ls hl => ?_)
                      refine lv_goto (tgt := 56) hx hb dX7_rests_149 (by decide) ?_
                      exact ih56 y7 y8 (y9 + 1) S10 H locs ls hF hP hD hS (lv_sub hl [3, 4, 5, 6, 7, 8, 0] rfl)
                    · have hF := zif c20 hF
                      refine lv_iload hx hb dX7_rests_123 (lv_at hl 6 rfl) ?_
                      obtain ⟨v21, hVv21⟩ : ∃ y : Int32, (if y7 = 0 then ((10 * v13) + v14) else y8 : Int32) = y := ⟨_, rfl⟩
                      have hF := bd_eq hVv21.symm hF
                      have Jv21 : W p l e (headSpec wsX7_rests rmX7_rests).room s m args below meth c H locs 0 0 (MQ below (zWQ g A (MW g q S_o) (some (.int ro))) args s 0 0 A) (F0 m 141 ls [.int v21]) := by
                        refine lv_istore (lv' := [(5, .int v21), (8, .int v14), (7, .int v13), (0, .ref (q 0)), (1, .int x1), (2, .int x2), (3, .int x3), (4, .int y7), (6, .int y9)]) hx hb dX7_rests_141 hl (by decide) rfl (fun ls hl => ?_)
                        refine lv_iinc (v := (y7 + 1)) (lv' := [(4, .int (y7 + 1)), (5, .int v21), (8, .int v14), (7, .int v13), (0, .ref (q 0)), (1, .int x1), (2, .int x2), (3, .int x3), (6, .int y9)]) hx hb dX7_rests_143 hl (k := 7) rfl rfl (by decide) rfl (fun ls hl => ?_)
                        refine lv_iinc (v := (y9 + 1)) (lv' := [(6, .int (y9 + 1)), (4, .int (y7 + 1)), (5, .int v21), (8, .int v14), (7, .int v13), (0, .ref (q 0)), (1, .int x1), (2, .int x2), (3, .int x3)]) hx hb dX7_rests_146 hl (k := 8) rfl rfl (by decide) rfl (fun ls hl => ?_)
                        refine lv_goto (tgt := 56) hx hb dX7_rests_149 (by decide) ?_
                        exact ih56 (y7 + 1) v21 (y9 + 1) S10 H locs ls hF hP hD hS (lv_sub hl [5, 6, 7, 8, 1, 2, 0] rfl)
                      refine lv_if_ne (tgt := 139) hx hb dX7_rests_125 (by decide) (fun c22 => ?_) (fun c22 => ?_)
                      · have hVv21 := zif c22 hVv21
                        refine lv_iload hx hb dX7_rests_139 (lv_at hl 7 rfl) ?_
                        subst hVv21
                        exact Jv21
                      · have hVv21 := zit c22 hVv21
                        refine lv_bipush (v := 10) hx hb dX7_rests_128 (by decide) ?_
                        refine lv_iload hx hb dX7_rests_130 (lv_at hl 1 rfl) ?_
                        refine lv_imul hx hb dX7_rests_132 ?_
                        refine lv_iload hx hb dX7_rests_133 (lv_at hl 0 rfl) ?_
                        refine lv_iadd hx hb dX7_rests_135 ?_
                        refine lv_goto (tgt := 141) hx hb dX7_rests_136 (by decide) ?_
                        subst hVv21
                        exact Jv21
          exact L56 FU 0 (-9) 0 S6 H locs ls hF hP hD hS (lv_sub hl [3, 4, 5, 6, 2, 1, 0] rfl)
        · have hF := zit c4 hF
          refine lv_bipush (v := (-2)) hx hb dX7_rests_33 (by decide) ?_
          obtain ⟨e9a, e9b⟩ := Prod.mk.inj (zin hF)
          exact z_wi hx hb hr hlk hP hD hS (congrArg (fun z => some (Value.int z)) e9a) (by rw [e9b]) dX7_rests_35
    · have hF := zit c2 hF
      refine lv_iconst (v := (-1)) hx hb dX7_rests_16 (by decide) ?_
      obtain ⟨e9a, e9b⟩ := Prod.mk.inj (zin hF)
      exact z_wi hx hb hr hlk hP hD hS (congrArg (fun z => some (Value.int z)) e9a) (by rw [e9b]) dX7_rests_17
def f7_rightBy (S : MS) (x1 : Int32) : Option (Int32 × MS) := (f7_layTrial S).bind fun S1 => bd (sI S1 23 x1) (fun (S2 : MS) => (f7_goTrial S2 20).bind fun S3 => bd (sI S3 23 15) (fun (S4 : MS) => (f7_outOn S4 1 1).bind fun v5 => (f7_ones (v5 &&& x1)).bind fun v6 => some (v6, S4)))
abbrev rmX7_rightBy : Room := { frames := 6, cells := 0, slots := 0, locals := 147 }
set_option maxHeartbeats 4000000 in
set_option maxRecDepth 100000 in
theorem c7_rightBy (l : Launch) (g : zG) (q : Nat → Nat) (S : MS) (x1 : Int32) (ro : Int32) (S_o : MS) (hF : f7_rightBy S x1 = some (ro, S_o)) : zRW l g yX7_rightBy wsX7_rightBy rmX7_rightBy [.ref (q 0), .int x1] (MW g q S) (some (.int ro)) (MW g q S_o) := by
  refine zRW_of (cc := cX7_rightBy) (maxL := 2) (ret := (some .int)) (by decide) rfl (Nat.le_of_ble_eq_true rfl) ?_
  intro p e s m args below meth c A H locs ls hx hb hr hml hts hown hlk hK hA hP hD hS hl
  have hown : s.vm.findClass RX7 = some m.cls := hown
  have hl : lv_has ls 2 [(0, .ref (q 0)), (1, .int x1)] := hl
  have inX7 : ∀ w ∈ wsX70, w ∈ wsX7_rightBy := fun _ h => List.mem_cons_of_mem _ (List.mem_append_right _ h)
  unfold f7_rightBy at hF
  refine lv_aload_n hx hb dX7_rightBy_0 rfl (lv_at hl 0 rfl) ?_
  obtain ⟨S1, hS1, hF⟩ := zob hF
  refine z_wgoW (va_runV (As := []) (rest := []) ⟨hx, hb, hml, hown, hts⟩ ((c7_layTrial l g q S   S1 hS1) H.size) (cwV 0 hts gX7_rightBy_X7_layTrial rfl rfl rfl (by decide +kernel) ⟨Nat.le_of_ble_eq_true rfl, Nat.le_of_ble_eq_true rfl⟩) (z_wpreV (ci := 7) (q := (RX7, TX7, 37)) (q0 := 0) hP hK (z_any hD) rfl rfl) rfl rfl hl.1 rfl (lv_room (Nat.le_of_ble_eq_true rfl)) dX7_rightBy_1 ⟨Nat.zero_le _, Nat.zero_le _⟩) hP hD hS hA (fun H locs hP hD hS => ?_)
  show W p l e (headSpec wsX7_rightBy rmX7_rightBy).room s m args below meth c H locs 0 0 (MQ below (zWQ g A (MW g q S_o) (some (.int ro))) args s 0 0 A) (F0 m 4 ls [])
  refine lv_aload_n hx hb dX7_rightBy_4 rfl (lv_at hl 0 rfl) ?_
  refine lv_iload_n hx hb dX7_rightBy_5 rfl (lv_at hl 1 rfl) ?_
  refine z_put (ci := 7) (v := .int x1) (C := RX7) (T := TX7) (N := 37) (ws' := MW g q (sI S1 23 x1)) hx hb hts inX7 tyX7 tyX7_ok nmX7 hown hK hP hD hS 0 rfl rfl 23 (by decide) (List.mem_of_getElem? (i := 1) rfl) rfl rfl rfl rfl (Nat.le_of_ble_eq_true rfl) rfl dX7_rightBy_6 (fun H locs hP hD hS => ?_)
  obtain ⟨S2, eS2⟩ : ∃ y : MS, y = (sI S1 23 x1) := ⟨_, rfl⟩
  rw [← eS2] at hP hD
  have hF := bd_eq eS2 hF
  refine lv_aload_n hx hb dX7_rightBy_9 rfl (lv_at hl 0 rfl) ?_
  refine lv_bipush (v := 20) hx hb dX7_rightBy_10 (by decide) ?_
  obtain ⟨S3, hS3, hF⟩ := zob hF
  refine z_wgoW (va_runV (As := [.int 20]) (rest := []) ⟨hx, hb, hml, hown, hts⟩ ((c7_goTrial l g q S2 20  S3 hS3) H.size) (cwV 1 hts gX7_rightBy_X7_goTrial rfl rfl rfl (by decide +kernel) ⟨Nat.le_of_ble_eq_true rfl, Nat.le_of_ble_eq_true rfl⟩) (z_wpreV (ci := 7) (q := (RX7, TX7, 37)) (q0 := 0) hP hK (z_any hD) rfl rfl) rfl rfl hl.1 rfl (lv_room (Nat.le_of_ble_eq_true rfl)) dX7_rightBy_12 ⟨Nat.zero_le _, Nat.zero_le _⟩) hP hD hS hA (fun H locs hP hD hS => ?_)
  show W p l e (headSpec wsX7_rightBy rmX7_rightBy).room s m args below meth c H locs 0 0 (MQ below (zWQ g A (MW g q S_o) (some (.int ro))) args s 0 0 A) (F0 m 15 ls [])
  refine lv_aload_n hx hb dX7_rightBy_15 rfl (lv_at hl 0 rfl) ?_
  refine lv_bipush (v := 15) hx hb dX7_rightBy_16 (by decide) ?_
  refine z_put (ci := 7) (v := .int 15) (C := RX7) (T := TX7) (N := 37) (ws' := MW g q (sI S3 23 15)) hx hb hts inX7 tyX7 tyX7_ok nmX7 hown hK hP hD hS 0 rfl rfl 23 (by decide) (List.mem_of_getElem? (i := 1) rfl) rfl rfl rfl rfl (Nat.le_of_ble_eq_true rfl) rfl dX7_rightBy_18 (fun H locs hP hD hS => ?_)
  obtain ⟨S4, eS4⟩ : ∃ y : MS, y = (sI S3 23 15) := ⟨_, rfl⟩
  rw [← eS4] at hP hD
  have hF := bd_eq eS4 hF
  refine lv_aload_n hx hb dX7_rightBy_21 rfl (lv_at hl 0 rfl) ?_
  refine lv_iconst (v := 1) hx hb dX7_rightBy_22 (by decide) ?_
  refine lv_iconst (v := 1) hx hb dX7_rightBy_23 (by decide) ?_
  obtain ⟨v5, hv5, hF⟩ := zob hF
  refine z_rgo (va_runV (As := [.int 1, .int 1]) (rest := []) ⟨hx, hb, hml, hown, hts⟩ (c7_outOn l g q S4 1 1 v5 hv5) (cwV 2 hts gX7_rightBy_X7_outOn rfl rfl rfl (by decide +kernel) ⟨Nat.le_of_ble_eq_true rfl, Nat.le_of_ble_eq_true rfl⟩) (z_rpreV (ci := 7) (q := (RX7, TX7, 37)) (q0 := 0) hP hK rfl rfl) rfl rfl hl.1 rfl (lv_room (Nat.le_of_ble_eq_true rfl)) dX7_rightBy_24 ⟨Nat.zero_le _, Nat.zero_le _⟩) ?_
  refine lv_iload_n hx hb dX7_rightBy_27 rfl (lv_at hl 1 rfl) ?_
  refine lv_iand hx hb dX7_rightBy_28 ?_
  obtain ⟨v6, hv6, hF⟩ := zob hF
  refine z_rgo (va_runS (As := [.int (v5 &&& x1)]) (rest := []) ⟨hx, hb, hml, hown, hts⟩ (c7_ones l g   (v5 &&& x1) v6 hv6) (va_cwS 1 hts gX7_rightBy_X7_ones rfl rfl rfl (by decide +kernel) ⟨Nat.le_of_ble_eq_true rfl, Nat.le_of_ble_eq_true rfl⟩) (z_rpre z_nil hK) rfl rfl hl.1 rfl (lv_room (Nat.le_of_ble_eq_true rfl)) dX7_rightBy_29 ⟨Nat.zero_le _, Nat.zero_le _⟩) ?_
  obtain ⟨e9a, e9b⟩ := Prod.mk.inj (zin hF)
  exact z_wi hx hb hr hlk hP hD hS (congrArg (fun z => some (Value.int z)) e9a) (by rw [e9b]) dX7_rightBy_32
def f7_seal (S : MS) (x1 : Int32) : Option (Int32 × MS) := if (f7_isJoint S x1) = 0 then some ((-1), S) else (zrd (S.2.1 6) 6 x1).bind fun v2 => if v2 = 0 then some ((-3), S) else (f7_keepAct S).bind fun S4 => (zrd (S4.2.1 11) 38 17).bind fun v5 => (zwr (S4.2.1 11) 38 17 (v5 ^^^ ((1 : Int32) <<< (x1 &&& 31)))).bind fun f6 => bd (mA S4 11 f6) (fun (S7 : MS) => (zrd (S7.2.1 11) 38 17).bind fun v8 => some (((v8 >>> (x1 &&& 31)) &&& 1), S7))
abbrev rmX7_seal : Room := { frames := 2, cells := 0, slots := 0, locals := 46 }
set_option maxHeartbeats 4000000 in
set_option maxRecDepth 100000 in
theorem c7_seal (l : Launch) (g : zG) (q : Nat → Nat) (S : MS) (x1 : Int32) (ro : Int32) (S_o : MS) (hF : f7_seal S x1 = some (ro, S_o)) : zRW l g yX7_seal wsX7_seal rmX7_seal [.ref (q 0), .int x1] (MW g q S) (some (.int ro)) (MW g q S_o) := by
  refine zRW_of (cc := cX7_seal) (maxL := 2) (ret := (some .int)) (by decide) rfl (Nat.le_of_ble_eq_true rfl) ?_
  intro p e s m args below meth c A H locs ls hx hb hr hml hts hown hlk hK hA hP hD hS hl
  have hown : s.vm.findClass RX7 = some m.cls := hown
  have hl : lv_has ls 2 [(0, .ref (q 0)), (1, .int x1)] := hl
  have inX7 : ∀ w ∈ wsX70, w ∈ wsX7_seal := fun _ h => List.mem_cons_of_mem _ (List.mem_append_right _ h)
  unfold f7_seal at hF
  refine lv_aload_n hx hb dX7_seal_0 rfl (lv_at hl 0 rfl) ?_
  refine lv_iload_n hx hb dX7_seal_1 rfl (lv_at hl 1 rfl) ?_
  refine z_rgo (va_runV (As := [.int x1]) (rest := []) ⟨hx, hb, hml, hown, hts⟩ (c7_isJoint l g q S x1) (cwV 1 hts gX7_seal_X7_isJoint rfl rfl rfl (by decide +kernel) ⟨Nat.le_of_ble_eq_true rfl, Nat.le_of_ble_eq_true rfl⟩) (z_rpreV (ci := 7) (q := (RX7, TX7, 37)) (q0 := 0) hP hK rfl rfl) rfl rfl hl.1 rfl (lv_room (Nat.le_of_ble_eq_true rfl)) dX7_seal_2 ⟨Nat.zero_le _, Nat.zero_le _⟩) ?_
  refine lv_if_ne (tgt := 10) hx hb dX7_seal_5 (by decide) (fun c1 => ?_) (fun c1 => ?_)
  · have hF := zif c1 hF
    refine lv_aload_n hx hb dX7_seal_10 rfl (lv_at hl 0 rfl) ?_
    refine z_get (ci := 7) (v := .ref (q 2)) (C := RX7) (T := TX7) (N := 37) hx hb hts inX7 hown hK hP 0 rfl rfl 6 (by decide) (List.mem_of_getElem? (i := 1) rfl) rfl rfl dX7_seal_11 ?_
    refine lv_iload_n hx hb dX7_seal_14 rfl (lv_at hl 1 rfl) ?_
    obtain ⟨v2, hv2, hF⟩ := zob hF
    refine z_iald hx hb hK hP 2 rfl hv2 dX7_seal_15 ?_
    refine lv_if_ne (tgt := 22) hx hb dX7_seal_16 (by decide) (fun c3 => ?_) (fun c3 => ?_)
    · have hF := zif c3 hF
      refine lv_aload_n hx hb dX7_seal_22 rfl (lv_at hl 0 rfl) ?_
      obtain ⟨S4, hS4, hF⟩ := zob hF
      refine z_wgoW (va_runV (As := []) (rest := []) ⟨hx, hb, hml, hown, hts⟩ ((c7_keepAct l g q S   S4 hS4) H.size) (cwV 0 hts gX7_seal_X7_keepAct rfl rfl rfl (by decide +kernel) ⟨Nat.le_of_ble_eq_true rfl, Nat.le_of_ble_eq_true rfl⟩) (z_wpreV (ci := 7) (q := (RX7, TX7, 37)) (q0 := 0) hP hK (z_any hD) rfl rfl) rfl rfl hl.1 rfl (lv_room (Nat.le_of_ble_eq_true rfl)) dX7_seal_23 ⟨Nat.zero_le _, Nat.zero_le _⟩) hP hD hS hA (fun H locs hP hD hS => ?_)
      show W p l e (headSpec wsX7_seal rmX7_seal).room s m args below meth c H locs 0 0 (MQ below (zWQ g A (MW g q S_o) (some (.int ro))) args s 0 0 A) (F0 m 26 ls [])
      refine lv_aload_n hx hb dX7_seal_26 rfl (lv_at hl 0 rfl) ?_
      refine z_get (ci := 7) (v := .ref (q 7)) (C := RX7) (T := TX7) (N := 37) hx hb hts inX7 hown hK hP 0 rfl rfl 11 (by decide) (List.mem_of_getElem? (i := 2) rfl) rfl rfl dX7_seal_27 ?_
      refine lv_bipush (v := 17) hx hb dX7_seal_30 (by decide) ?_
      refine lv_dup2_11 hx hb dX7_seal_32 rfl rfl ?_
      obtain ⟨v5, hv5, hF⟩ := zob hF
      refine z_iald hx hb hK hP 7 rfl hv5 dX7_seal_33 ?_
      refine lv_iconst (v := 1) hx hb dX7_seal_34 (by decide) ?_
      refine lv_iload_n hx hb dX7_seal_35 rfl (lv_at hl 1 rfl) ?_
      refine lv_ishl hx hb dX7_seal_36 ?_
      refine lv_ixor hx hb dX7_seal_37 ?_
      obtain ⟨f6, hf6, hF⟩ := zob hF
      refine z_iast (ws' := MW g q (mA S4 11 f6)) hx hb hK hP hD hS 7 rfl hf6 rfl dX7_seal_38 (fun H locs hP hD hS => ?_)
      obtain ⟨S7, eS7⟩ : ∃ y : MS, y = (mA S4 11 f6) := ⟨_, rfl⟩
      rw [← eS7] at hP hD
      have hF := bd_eq eS7 hF
      refine lv_aload_n hx hb dX7_seal_39 rfl (lv_at hl 0 rfl) ?_
      refine z_get (ci := 7) (v := .ref (q 7)) (C := RX7) (T := TX7) (N := 37) hx hb hts inX7 hown hK hP 0 rfl rfl 11 (by decide) (List.mem_of_getElem? (i := 2) rfl) rfl rfl dX7_seal_40 ?_
      refine lv_bipush (v := 17) hx hb dX7_seal_43 (by decide) ?_
      obtain ⟨v8, hv8, hF⟩ := zob hF
      refine z_iald hx hb hK hP 7 rfl hv8 dX7_seal_45 ?_
      refine lv_iload_n hx hb dX7_seal_46 rfl (lv_at hl 1 rfl) ?_
      refine lv_ishr hx hb dX7_seal_47 ?_
      refine lv_iconst (v := 1) hx hb dX7_seal_48 (by decide) ?_
      refine lv_iand hx hb dX7_seal_49 ?_
      obtain ⟨e9a, e9b⟩ := Prod.mk.inj (zin hF)
      exact z_wi hx hb hr hlk hP hD hS (congrArg (fun z => some (Value.int z)) e9a) (by rw [e9b]) dX7_seal_50
    · have hF := zit c3 hF
      refine lv_bipush (v := (-3)) hx hb dX7_seal_19 (by decide) ?_
      obtain ⟨e9a, e9b⟩ := Prod.mk.inj (zin hF)
      exact z_wi hx hb hr hlk hP hD hS (congrArg (fun z => some (Value.int z)) e9a) (by rw [e9b]) dX7_seal_21
  · have hF := zit c1 hF
    refine lv_iconst (v := (-1)) hx hb dX7_seal_8 (by decide) ?_
    obtain ⟨e9a, e9b⟩ := Prod.mk.inj (zin hF)
    exact z_wi hx hb hr hlk hP hD hS (congrArg (fun z => some (Value.int z)) e9a) (by rw [e9b]) dX7_seal_9
def f7_seed (S : MS) (x1 : Int64) : Option (Int64 × MS) := bd (α := Int64) (S.2.2) (fun (v1 : Int64) => bd (mZ S x1) (fun (S2 : MS) => some (v1, S2)))
abbrev rmX7_seed : Room := { frames := 0, cells := 0, slots := 0, locals := 0 }
set_option maxHeartbeats 4000000 in
set_option maxRecDepth 100000 in
theorem c7_seed (l : Launch) (g : zG) (q : Nat → Nat) (S : MS) (x1 : Int64) (ro : Int64) (S_o : MS) (hF : f7_seed S x1 = some (ro, S_o)) : zRW l g yX7_seed wsX7_seed rmX7_seed [.ref (q 0), .long x1] (MW g q S) (some (.long ro)) (MW g q S_o) := by
  refine zRW_of (cc := cX7_seed) (maxL := 5) (ret := (some .long)) (by decide) rfl (Nat.le_of_ble_eq_true rfl) ?_
  intro p e s m args below meth c A H locs ls hx hb hr hml hts hown hlk hK hA hP hD hS hl
  have hown : s.vm.findClass RX7 = some m.cls := hown
  have hl : lv_has ls 5 [(0, .ref (q 0)), (1, .long x1)] := hl
  have inX7 : ∀ w ∈ wsX70, w ∈ wsX7_seed := fun _ h => List.mem_cons_of_mem _ (List.mem_append_right _ h)
  unfold f7_seed at hF
  refine lv_aload_n hx hb dX7_seed_0 rfl (lv_at hl 0 rfl) ?_
  refine z_get (ci := 7) (v := .long (S.2.2)) (C := RX7) (T := TX7) (N := 37) hx hb hts inX7 hown hK hP 0 rfl rfl 34 (by decide) (List.mem_of_getElem? (i := 1) rfl) rfl rfl dX7_seed_1 ?_
  refine lv_topl (fun v1 ev1 => ?_)
  have hF := bd_eq ev1 hF
  refine lv_lstore_n (lv' := [(3, .long v1), (0, .ref (q 0)), (1, .long x1)]) hx hb dX7_seed_4 rfl hl (by decide) rfl (fun ls hl => ?_)
  refine lv_aload_n hx hb dX7_seed_5 rfl (lv_at hl 1 rfl) ?_
  refine lv_lload_n hx hb dX7_seed_6 rfl (lv_at hl 2 rfl) ?_
  refine z_put (ci := 7) (v := .long x1) (C := RX7) (T := TX7) (N := 37) (ws' := MW g q (mZ S x1)) hx hb hts inX7 tyX7 tyX7_ok nmX7 hown hK hP hD hS 0 rfl rfl 34 (by decide) (List.mem_of_getElem? (i := 1) rfl) rfl rfl rfl rfl (Nat.le_of_ble_eq_true rfl) rfl dX7_seed_7 (fun H locs hP hD hS => ?_)
  obtain ⟨S2, eS2⟩ : ∃ y : MS, y = (mZ S x1) := ⟨_, rfl⟩
  rw [← eS2] at hP hD
  have hF := bd_eq eS2 hF
  refine lv_lload_n hx hb dX7_seed_10 rfl (lv_at hl 0 rfl) ?_
  obtain ⟨e9a, e9b⟩ := Prod.mk.inj (zin hF)
  exact z_wl hx hb hr hlk hP hD hS (congrArg (fun z => some (Value.long z)) e9a) (by rw [e9b]) dX7_seed_11
def f7_share_l15 (x1 : Int32) (x2 : Int32) : Nat → Int32 → Int32 → MS → Option (Int32 × MS)
  | 0, _, _, _ => none
  | n15 + 1, y2, y3, S4 => if ((1 : Int32) <<< ((S4.1 2) &&& 31)) ≤ y3 then (f7_factorial (S4.1 2)).bind fun v6 => (f7_common y2 v6).bind fun v7 => if x2 = 0 then (f7_factorial (S4.1 2)).bind fun v9 => (zdv v9 v7).bind fun v10 => some (v10, S4) else (zdv y2 v7).bind fun v11 => some (v11, S4) else if (f7_has y3 x1) = 0 then (f7_ones y3).bind fun v13 => (f7_factorial v13).bind fun v14 => (f7_ones y3).bind fun v15 => (f7_factorial (((S4.1 2) - 1) - v15)).bind fun v16 => bd (α := Int32) (v14 * v16) (fun (v17 : Int32) => (f7_rightBy S4 (y3 ||| ((1 : Int32) <<< (x1 &&& 31)))).bind fun (v19, S18) => (f7_rightBy S18 y3).bind fun (v21, S20) => bd (α := Int32) (y2 + (v17 * (v19 - v21))) (fun (v22 : Int32) => f7_share_l15 x1 x2 n15 v22 (y3 + 1) S20)) else f7_share_l15 x1 x2 n15 y2 (y3 + 1) S4
def f7_share (S : MS) (x1 : Int32) (x2 : Int32) : Option (Int32 × MS) := if (f7_isWalker S x1) = 0 then some ((-1), S) else f7_share_l15 x1 x2 FU 0 0 S
abbrev rmX7_share : Room := { frames := 7, cells := 0, slots := 0, locals := 168 }
set_option maxHeartbeats 4000000 in
set_option maxRecDepth 100000 in
theorem c7_share (l : Launch) (g : zG) (q : Nat → Nat) (S : MS) (x1 : Int32) (x2 : Int32) (ro : Int32) (S_o : MS) (hF : f7_share S x1 x2 = some (ro, S_o)) : zRW l g yX7_share wsX7_share rmX7_share [.ref (q 0), .int x1, .int x2] (MW g q S) (some (.int ro)) (MW g q S_o) := by
  refine zRW_of (cc := cX7_share) (maxL := 6) (ret := (some .int)) (by decide) rfl (Nat.le_of_ble_eq_true rfl) ?_
  intro p e s m args below meth c A H locs ls hx hb hr hml hts hown hlk hK hA hP hD hS hl
  have hown : s.vm.findClass RX7 = some m.cls := hown
  have hl : lv_has ls 6 [(0, .ref (q 0)), (1, .int x1), (2, .int x2)] := hl
  have inX7 : ∀ w ∈ wsX70, w ∈ wsX7_share := fun _ h => List.mem_cons_of_mem _ (List.mem_append_right _ h)
  unfold f7_share at hF
  refine lv_aload_n hx hb dX7_share_0 rfl (lv_at hl 0 rfl) ?_
  refine lv_iload_n hx hb dX7_share_1 rfl (lv_at hl 1 rfl) ?_
  refine z_rgo (va_runV (As := [.int x1]) (rest := []) ⟨hx, hb, hml, hown, hts⟩ (c7_isWalker l g q S x1) (cwV 1 hts gX7_share_X7_isWalker rfl rfl rfl (by decide +kernel) ⟨Nat.le_of_ble_eq_true rfl, Nat.le_of_ble_eq_true rfl⟩) (z_rpreV (ci := 7) (q := (RX7, TX7, 37)) (q0 := 0) hP hK rfl rfl) rfl rfl hl.1 rfl (lv_room (Nat.le_of_ble_eq_true rfl)) dX7_share_2 ⟨Nat.zero_le _, Nat.zero_le _⟩) ?_
  refine lv_if_ne (tgt := 10) hx hb dX7_share_5 (by decide) (fun c1 => ?_) (fun c1 => ?_)
  · have hF := zif c1 hF
    refine lv_iconst (v := 0) hx hb dX7_share_10 (by decide) ?_
    refine lv_istore_n (lv' := [(3, .int 0), (0, .ref (q 0)), (1, .int x1), (2, .int x2)]) hx hb dX7_share_11 rfl hl (by decide) rfl (fun ls hl => ?_)
    refine lv_iconst (v := 0) hx hb dX7_share_12 (by decide) ?_
    refine lv_istore (lv' := [(4, .int 0), (3, .int 0), (0, .ref (q 0)), (1, .int x1), (2, .int x2)]) hx hb dX7_share_13 hl (by decide) rfl (fun ls hl => ?_)
    have L15 : ∀ (n15 : Nat) (y2 : Int32) (y3 : Int32) (S4 : MS) (H : Heap) (locs : List Loc) (ls : Array Slot), f7_share_l15 x1 x2 n15 y2 y3 S4 = some (ro, S_o) → va_P (zD g) vwCl (MW g q S4) H → va_D A (MW g q S4) → va_S A s.heap H locs → lv_has ls 6 [(0, .ref (q 0)), (1, .int x1), (2, .int x2), (3, .int y2), (4, .int y3)] → W p l e (headSpec wsX7_share rmX7_share).room s m args below meth c H locs 0 0 (MQ below (zWQ g A (MW g q S_o) (some (.int ro))) args s 0 0 A) (F0 m 15 ls []) := by
      intro n15
      induction n15 with
      | zero =>
        intro y2 y3 S4 H locs ls hF hP hD hS hl
        exact absurd (show (none : Option (Int32 × MS)) = some _ from hF) (fun h9 => by cases h9)
      | succ n15 ih15 =>
        intro y2 y3 S4 H locs ls hF hP hD hS hl
        rw [f7_share_l15] at hF
        refine lv_iload hx hb dX7_share_15 (lv_at hl 4 rfl) ?_
        refine lv_iconst (v := 1) hx hb dX7_share_17 (by decide) ?_
        refine lv_aload_n hx hb dX7_share_18 rfl (lv_at hl 0 rfl) ?_
        refine z_get (ci := 7) (v := .int (S4.1 2)) (C := RX7) (T := TX7) (N := 37) hx hb hts inX7 hown hK hP 0 rfl rfl 2 (by decide) (List.mem_of_getElem? (i := 1) rfl) rfl rfl dX7_share_19 ?_
        refine lv_ishl hx hb dX7_share_22 ?_
        refine lv_icmp_ge (tgt := 90) hx hb dX7_share_23 (by decide) (fun c5 => ?_) (fun c5 => ?_)
        · have hF := zit c5 hF
          refine lv_iload_n hx hb dX7_share_90 rfl (lv_at hl 3 rfl) ?_
          refine lv_aload_n hx hb dX7_share_91 rfl (lv_at hl 0 rfl) ?_
          refine z_get (ci := 7) (v := .int (S4.1 2)) (C := RX7) (T := TX7) (N := 37) hx hb hts inX7 hown hK hP 0 rfl rfl 2 (by decide) (List.mem_of_getElem? (i := 1) rfl) rfl rfl dX7_share_92 ?_
          obtain ⟨v6, hv6, hF⟩ := zob hF
          refine z_rgo (va_runS (As := [.int (S4.1 2)]) (rest := [.int y2]) ⟨hx, hb, hml, hown, hts⟩ (c7_factorial l g   (S4.1 2) v6 hv6) (va_cwS 1 hts gX7_share_X7_factorial rfl rfl rfl (by decide +kernel) ⟨Nat.le_of_ble_eq_true rfl, Nat.le_of_ble_eq_true rfl⟩) (z_rpre z_nil hK) rfl rfl hl.1 rfl (lv_room (Nat.le_of_ble_eq_true rfl)) dX7_share_95 ⟨Nat.zero_le _, Nat.zero_le _⟩) ?_
          obtain ⟨v7, hv7, hF⟩ := zob hF
          refine z_rgo (va_runS (As := [.int y2, .int v6]) (rest := []) ⟨hx, hb, hml, hown, hts⟩ (c7_common l g   y2 v6 v7 hv7) (va_cwS 2 hts gX7_share_X7_common rfl rfl rfl (by decide +kernel) ⟨Nat.le_of_ble_eq_true rfl, Nat.le_of_ble_eq_true rfl⟩) (z_rpre z_nil hK) rfl rfl hl.1 rfl (lv_room (Nat.le_of_ble_eq_true rfl)) dX7_share_98 ⟨Nat.zero_le _, Nat.zero_le _⟩) ?_
          refine lv_istore (lv' := [(4, .int v7), (0, .ref (q 0)), (1, .int x1), (2, .int x2), (3, .int y2)]) hx hb dX7_share_101 hl (by decide) rfl (fun ls hl => ?_)
          refine lv_iload_n hx hb dX7_share_103 rfl (lv_at hl 3 rfl) ?_
          refine lv_if_eq (tgt := 114) hx hb dX7_share_104 (by decide) (fun c8 => ?_) (fun c8 => ?_)
          · have hF := zit c8 hF
            refine lv_aload_n hx hb dX7_share_114 rfl (lv_at hl 1 rfl) ?_
            refine z_get (ci := 7) (v := .int (S4.1 2)) (C := RX7) (T := TX7) (N := 37) hx hb hts inX7 hown hK hP 0 rfl rfl 2 (by decide) (List.mem_of_getElem? (i := 1) rfl) rfl rfl dX7_share_115 ?_
            obtain ⟨v9, hv9, hF⟩ := zob hF
            refine z_rgo (va_runS (As := [.int (S4.1 2)]) (rest := []) ⟨hx, hb, hml, hown, hts⟩ (c7_factorial l g   (S4.1 2) v9 hv9) (va_cwS 1 hts gX7_share_X7_factorial rfl rfl rfl (by decide +kernel) ⟨Nat.le_of_ble_eq_true rfl, Nat.le_of_ble_eq_true rfl⟩) (z_rpre z_nil hK) rfl rfl hl.1 rfl (lv_room (Nat.le_of_ble_eq_true rfl)) dX7_share_118 ⟨Nat.zero_le _, Nat.zero_le _⟩) ?_
            refine lv_iload hx hb dX7_share_121 (lv_at hl 0 rfl) ?_
            obtain ⟨v10, hv10, hF⟩ := zob hF
            refine z_idiv hx hb dX7_share_123 hv10 ?_
            obtain ⟨e9a, e9b⟩ := Prod.mk.inj (zin hF)
            exact z_wi hx hb hr hlk hP hD hS (congrArg (fun z => some (Value.int z)) e9a) (by rw [e9b]) dX7_share_124
          · have hF := zif c8 hF
            refine lv_iload_n hx hb dX7_share_107 rfl (lv_at hl 4 rfl) ?_
            refine lv_iload hx hb dX7_share_108 (lv_at hl 0 rfl) ?_
            obtain ⟨v11, hv11, hF⟩ := zob hF
            refine z_idiv hx hb dX7_share_110 hv11 ?_
            refine lv_goto (tgt := 124) hx hb dX7_share_111 (by decide) ?_
            obtain ⟨e9a, e9b⟩ := Prod.mk.inj (zin hF)
            exact z_wi hx hb hr hlk hP hD hS (congrArg (fun z => some (Value.int z)) e9a) (by rw [e9b]) dX7_share_124
        · have hF := zif c5 hF
          refine lv_iload hx hb dX7_share_26 (lv_at hl 4 rfl) ?_
          refine lv_iload_n hx hb dX7_share_28 rfl (lv_at hl 1 rfl) ?_
          refine z_rgo (va_runS (As := [.int y3, .int x1]) (rest := []) ⟨hx, hb, hml, hown, hts⟩ (c7_has l g   y3 x1) (va_cwS 2 hts gX7_share_X7_has rfl rfl rfl (by decide +kernel) ⟨Nat.le_of_ble_eq_true rfl, Nat.le_of_ble_eq_true rfl⟩) (z_rpre z_nil hK) rfl rfl hl.1 rfl (lv_room (Nat.le_of_ble_eq_true rfl)) dX7_share_29 ⟨Nat.zero_le _, Nat.zero_le _⟩) ?_
          refine lv_if_ne (tgt := 84) hx hb dX7_share_32 (by decide) (fun c12 => ?_) (fun c12 => ?_)
          · have hF := zif c12 hF
            refine lv_iinc (v := (y3 + 1)) (lv' := [(4, .int (y3 + 1)), (0, .ref (q 0)), (1, .int x1), (2, .int x2), (3, .int y2)]) hx hb dX7_share_84 hl (k := 4) rfl rfl (by decide) rfl (fun ls hl => ?_)
            refine lv_goto (tgt := 15) hx hb dX7_share_87 (by decide) ?_
            exact ih15 y2 (y3 + 1) S4 H locs ls hF hP hD hS (lv_sub hl [1, 2, 3, 4, 0] rfl)
          · have hF := zit c12 hF
            refine lv_iload hx hb dX7_share_35 (lv_at hl 4 rfl) ?_
            obtain ⟨v13, hv13, hF⟩ := zob hF
            refine z_rgo (va_runS (As := [.int y3]) (rest := []) ⟨hx, hb, hml, hown, hts⟩ (c7_ones l g   y3 v13 hv13) (va_cwS 1 hts gX7_share_X7_ones rfl rfl rfl (by decide +kernel) ⟨Nat.le_of_ble_eq_true rfl, Nat.le_of_ble_eq_true rfl⟩) (z_rpre z_nil hK) rfl rfl hl.1 rfl (lv_room (Nat.le_of_ble_eq_true rfl)) dX7_share_37 ⟨Nat.zero_le _, Nat.zero_le _⟩) ?_
            obtain ⟨v14, hv14, hF⟩ := zob hF
            refine z_rgo (va_runS (As := [.int v13]) (rest := []) ⟨hx, hb, hml, hown, hts⟩ (c7_factorial l g   v13 v14 hv14) (va_cwS 1 hts gX7_share_X7_factorial rfl rfl rfl (by decide +kernel) ⟨Nat.le_of_ble_eq_true rfl, Nat.le_of_ble_eq_true rfl⟩) (z_rpre z_nil hK) rfl rfl hl.1 rfl (lv_room (Nat.le_of_ble_eq_true rfl)) dX7_share_40 ⟨Nat.zero_le _, Nat.zero_le _⟩) ?_
            refine lv_aload_n hx hb dX7_share_43 rfl (lv_at hl 0 rfl) ?_
            refine z_get (ci := 7) (v := .int (S4.1 2)) (C := RX7) (T := TX7) (N := 37) hx hb hts inX7 hown hK hP 0 rfl rfl 2 (by decide) (List.mem_of_getElem? (i := 1) rfl) rfl rfl dX7_share_44 ?_
            refine lv_iconst (v := 1) hx hb dX7_share_47 (by decide) ?_
            refine lv_isub hx hb dX7_share_48 ?_
            refine lv_iload hx hb dX7_share_49 (lv_at hl 4 rfl) ?_
            obtain ⟨v15, hv15, hF⟩ := zob hF
            refine z_rgo (va_runS (As := [.int y3]) (rest := [.int ((S4.1 2) - 1), .int v14]) ⟨hx, hb, hml, hown, hts⟩ (c7_ones l g   y3 v15 hv15) (va_cwS 1 hts gX7_share_X7_ones rfl rfl rfl (by decide +kernel) ⟨Nat.le_of_ble_eq_true rfl, Nat.le_of_ble_eq_true rfl⟩) (z_rpre z_nil hK) rfl rfl hl.1 rfl (lv_room (Nat.le_of_ble_eq_true rfl)) dX7_share_51 ⟨Nat.zero_le _, Nat.zero_le _⟩) ?_
            refine lv_isub hx hb dX7_share_54 ?_
            obtain ⟨v16, hv16, hF⟩ := zob hF
            refine z_rgo (va_runS (As := [.int (((S4.1 2) - 1) - v15)]) (rest := [.int v14]) ⟨hx, hb, hml, hown, hts⟩ (c7_factorial l g   (((S4.1 2) - 1) - v15) v16 hv16) (va_cwS 1 hts gX7_share_X7_factorial rfl rfl rfl (by decide +kernel) ⟨Nat.le_of_ble_eq_true rfl, Nat.le_of_ble_eq_true rfl⟩) (z_rpre z_nil hK) rfl rfl hl.1 rfl (lv_room (Nat.le_of_ble_eq_true rfl)) dX7_share_55 ⟨Nat.zero_le _, Nat.zero_le _⟩) ?_
            refine lv_imul hx hb dX7_share_58 ?_
            refine lv_topi (fun v17 ev17 => ?_)
            have hF := bd_eq ev17 hF
            refine lv_istore (lv' := [(5, .int v17), (0, .ref (q 0)), (1, .int x1), (2, .int x2), (3, .int y2), (4, .int y3)]) hx hb dX7_share_59 hl (by decide) rfl (fun ls hl => ?_)
            refine lv_iload_n hx hb dX7_share_61 rfl (lv_at hl 4 rfl) ?_
            refine lv_iload hx hb dX7_share_62 (lv_at hl 0 rfl) ?_
            refine lv_aload_n hx hb dX7_share_64 rfl (lv_at hl 1 rfl) ?_
            refine lv_iload hx hb dX7_share_65 (lv_at hl 5 rfl) ?_
            refine lv_iconst (v := 1) hx hb dX7_share_67 (by decide) ?_
            refine lv_iload_n hx hb dX7_share_68 rfl (lv_at hl 2 rfl) ?_
            refine lv_ishl hx hb dX7_share_69 ?_
            refine lv_ior hx hb dX7_share_70 ?_
            obtain ⟨⟨v19, S18⟩, hS18, hF⟩ := zob hF
            refine z_wgoW (va_runV (As := [.int (y3 ||| ((1 : Int32) <<< (x1 &&& 31)))]) (rest := [.int v17, .int y2]) ⟨hx, hb, hml, hown, hts⟩ ((c7_rightBy l g q S4 (y3 ||| ((1 : Int32) <<< (x1 &&& 31))) v19  S18 hS18) H.size) (cwV 1 hts gX7_share_X7_rightBy rfl rfl rfl (by decide +kernel) ⟨Nat.le_of_ble_eq_true rfl, Nat.le_of_ble_eq_true rfl⟩) (z_wpreV (ci := 7) (q := (RX7, TX7, 37)) (q0 := 0) hP hK (z_any hD) rfl rfl) rfl rfl hl.1 rfl (lv_room (Nat.le_of_ble_eq_true rfl)) dX7_share_71 ⟨Nat.zero_le _, Nat.zero_le _⟩) hP hD hS hA (fun H locs hP hD hS => ?_)
            show W p l e (headSpec wsX7_share rmX7_share).room s m args below meth c H locs 0 0 (MQ below (zWQ g A (MW g q S_o) (some (.int ro))) args s 0 0 A) (F0 m 74 ls [.int v19, .int v17, .int y2])
            refine lv_aload_n hx hb dX7_share_74 rfl (lv_at hl 1 rfl) ?_
            refine lv_iload hx hb dX7_share_75 (lv_at hl 5 rfl) ?_
            obtain ⟨⟨v21, S20⟩, hS20, hF⟩ := zob hF
            refine z_wgoW (va_runV (As := [.int y3]) (rest := [.int v19, .int v17, .int y2]) ⟨hx, hb, hml, hown, hts⟩ ((c7_rightBy l g q S18 y3 v21  S20 hS20) H.size) (cwV 1 hts gX7_share_X7_rightBy rfl rfl rfl (by decide +kernel) ⟨Nat.le_of_ble_eq_true rfl, Nat.le_of_ble_eq_true rfl⟩) (z_wpreV (ci := 7) (q := (RX7, TX7, 37)) (q0 := 0) hP hK (z_any hD) rfl rfl) rfl rfl hl.1 rfl (lv_room (Nat.le_of_ble_eq_true rfl)) dX7_share_77 ⟨Nat.zero_le _, Nat.zero_le _⟩) hP hD hS hA (fun H locs hP hD hS => ?_)
            show W p l e (headSpec wsX7_share rmX7_share).room s m args below meth c H locs 0 0 (MQ below (zWQ g A (MW g q S_o) (some (.int ro))) args s 0 0 A) (F0 m 80 ls [.int v21, .int v19, .int v17, .int y2])
            refine lv_isub hx hb dX7_share_80 ?_
            refine lv_imul hx hb dX7_share_81 ?_
            refine lv_iadd hx hb dX7_share_82 ?_
            refine lv_topi (fun v22 ev22 => ?_)
            have hF := bd_eq ev22 hF
            refine lv_istore_n (lv' := [(3, .int v22), (5, .int v17), (0, .ref (q 0)), (1, .int x1), (2, .int x2), (4, .int y3)]) hx hb dX7_share_83 rfl hl (by decide) rfl (fun ls hl => ?_)
            refine lv_iinc (v := (y3 + 1)) (lv' := [(4, .int (y3 + 1)), (3, .int v22), (5, .int v17), (0, .ref (q 0)), (1, .int x1), (2, .int x2)]) hx hb dX7_share_84 hl (k := 5) rfl rfl (by decide) rfl (fun ls hl => ?_)
            refine lv_goto (tgt := 15) hx hb dX7_share_87 (by decide) ?_
            exact ih15 v22 (y3 + 1) S20 H locs ls hF hP hD hS (lv_sub hl [3, 4, 5, 1, 0] rfl)
    exact L15 FU 0 0 S H locs ls hF hP hD hS (lv_sub hl [2, 3, 4, 1, 0] rfl)
  · have hF := zit c1 hF
    refine lv_iconst (v := (-1)) hx hb dX7_share_8 (by decide) ?_
    obtain ⟨e9a, e9b⟩ := Prod.mk.inj (zin hF)
    exact z_wi hx hb hr hlk hP hD hS (congrArg (fun z => some (Value.int z)) e9a) (by rw [e9b]) dX7_share_9
def f7_shut (S : MS) (x1 : Int32) : Option (Int32 × MS) := if (f7_isPipe S x1) = 0 then some ((-1), S) else (f7_keepAct S).bind fun S2 => (zrd (S2.2.1 11) 38 16).bind fun v3 => (zwr (S2.2.1 11) 38 16 (v3 ^^^ ((1 : Int32) <<< (x1 &&& 31)))).bind fun f4 => bd (mA S2 11 f4) (fun (S5 : MS) => (zrd (S5.2.1 11) 38 16).bind fun v6 => some (((v6 >>> (x1 &&& 31)) &&& 1), S5))
abbrev rmX7_shut : Room := { frames := 2, cells := 0, slots := 0, locals := 46 }
set_option maxHeartbeats 4000000 in
set_option maxRecDepth 100000 in
theorem c7_shut (l : Launch) (g : zG) (q : Nat → Nat) (S : MS) (x1 : Int32) (ro : Int32) (S_o : MS) (hF : f7_shut S x1 = some (ro, S_o)) : zRW l g yX7_shut wsX7_shut rmX7_shut [.ref (q 0), .int x1] (MW g q S) (some (.int ro)) (MW g q S_o) := by
  refine zRW_of (cc := cX7_shut) (maxL := 2) (ret := (some .int)) (by decide) rfl (Nat.le_of_ble_eq_true rfl) ?_
  intro p e s m args below meth c A H locs ls hx hb hr hml hts hown hlk hK hA hP hD hS hl
  have hown : s.vm.findClass RX7 = some m.cls := hown
  have hl : lv_has ls 2 [(0, .ref (q 0)), (1, .int x1)] := hl
  have inX7 : ∀ w ∈ wsX70, w ∈ wsX7_shut := fun _ h => List.mem_cons_of_mem _ (List.mem_append_right _ h)
  unfold f7_shut at hF
  refine lv_aload_n hx hb dX7_shut_0 rfl (lv_at hl 0 rfl) ?_
  refine lv_iload_n hx hb dX7_shut_1 rfl (lv_at hl 1 rfl) ?_
  refine z_rgo (va_runV (As := [.int x1]) (rest := []) ⟨hx, hb, hml, hown, hts⟩ (c7_isPipe l g q S x1) (cwV 1 hts gX7_shut_X7_isPipe rfl rfl rfl (by decide +kernel) ⟨Nat.le_of_ble_eq_true rfl, Nat.le_of_ble_eq_true rfl⟩) (z_rpreV (ci := 7) (q := (RX7, TX7, 37)) (q0 := 0) hP hK rfl rfl) rfl rfl hl.1 rfl (lv_room (Nat.le_of_ble_eq_true rfl)) dX7_shut_2 ⟨Nat.zero_le _, Nat.zero_le _⟩) ?_
  refine lv_if_ne (tgt := 10) hx hb dX7_shut_5 (by decide) (fun c1 => ?_) (fun c1 => ?_)
  · have hF := zif c1 hF
    refine lv_aload_n hx hb dX7_shut_10 rfl (lv_at hl 0 rfl) ?_
    obtain ⟨S2, hS2, hF⟩ := zob hF
    refine z_wgoW (va_runV (As := []) (rest := []) ⟨hx, hb, hml, hown, hts⟩ ((c7_keepAct l g q S   S2 hS2) H.size) (cwV 0 hts gX7_shut_X7_keepAct rfl rfl rfl (by decide +kernel) ⟨Nat.le_of_ble_eq_true rfl, Nat.le_of_ble_eq_true rfl⟩) (z_wpreV (ci := 7) (q := (RX7, TX7, 37)) (q0 := 0) hP hK (z_any hD) rfl rfl) rfl rfl hl.1 rfl (lv_room (Nat.le_of_ble_eq_true rfl)) dX7_shut_11 ⟨Nat.zero_le _, Nat.zero_le _⟩) hP hD hS hA (fun H locs hP hD hS => ?_)
    show W p l e (headSpec wsX7_shut rmX7_shut).room s m args below meth c H locs 0 0 (MQ below (zWQ g A (MW g q S_o) (some (.int ro))) args s 0 0 A) (F0 m 14 ls [])
    refine lv_aload_n hx hb dX7_shut_14 rfl (lv_at hl 0 rfl) ?_
    refine z_get (ci := 7) (v := .ref (q 7)) (C := RX7) (T := TX7) (N := 37) hx hb hts inX7 hown hK hP 0 rfl rfl 11 (by decide) (List.mem_of_getElem? (i := 1) rfl) rfl rfl dX7_shut_15 ?_
    refine lv_bipush (v := 16) hx hb dX7_shut_18 (by decide) ?_
    refine lv_dup2_11 hx hb dX7_shut_20 rfl rfl ?_
    obtain ⟨v3, hv3, hF⟩ := zob hF
    refine z_iald hx hb hK hP 7 rfl hv3 dX7_shut_21 ?_
    refine lv_iconst (v := 1) hx hb dX7_shut_22 (by decide) ?_
    refine lv_iload_n hx hb dX7_shut_23 rfl (lv_at hl 1 rfl) ?_
    refine lv_ishl hx hb dX7_shut_24 ?_
    refine lv_ixor hx hb dX7_shut_25 ?_
    obtain ⟨f4, hf4, hF⟩ := zob hF
    refine z_iast (ws' := MW g q (mA S2 11 f4)) hx hb hK hP hD hS 7 rfl hf4 rfl dX7_shut_26 (fun H locs hP hD hS => ?_)
    obtain ⟨S5, eS5⟩ : ∃ y : MS, y = (mA S2 11 f4) := ⟨_, rfl⟩
    rw [← eS5] at hP hD
    have hF := bd_eq eS5 hF
    refine lv_aload_n hx hb dX7_shut_27 rfl (lv_at hl 0 rfl) ?_
    refine z_get (ci := 7) (v := .ref (q 7)) (C := RX7) (T := TX7) (N := 37) hx hb hts inX7 hown hK hP 0 rfl rfl 11 (by decide) (List.mem_of_getElem? (i := 1) rfl) rfl rfl dX7_shut_28 ?_
    refine lv_bipush (v := 16) hx hb dX7_shut_31 (by decide) ?_
    obtain ⟨v6, hv6, hF⟩ := zob hF
    refine z_iald hx hb hK hP 7 rfl hv6 dX7_shut_33 ?_
    refine lv_iload_n hx hb dX7_shut_34 rfl (lv_at hl 1 rfl) ?_
    refine lv_ishr hx hb dX7_shut_35 ?_
    refine lv_iconst (v := 1) hx hb dX7_shut_36 (by decide) ?_
    refine lv_iand hx hb dX7_shut_37 ?_
    obtain ⟨e9a, e9b⟩ := Prod.mk.inj (zin hF)
    exact z_wi hx hb hr hlk hP hD hS (congrArg (fun z => some (Value.int z)) e9a) (by rw [e9b]) dX7_shut_38
  · have hF := zit c1 hF
    refine lv_iconst (v := (-1)) hx hb dX7_shut_8 (by decide) ?_
    obtain ⟨e9a, e9b⟩ := Prod.mk.inj (zin hF)
    exact z_wi hx hb hr hlk hP hD hS (congrArg (fun z => some (Value.int z)) e9a) (by rw [e9b]) dX7_shut_9
def f7_step (S : MS) : Option (Int32 × MS) := (f7_keepAct S).bind fun S1 => (f7_stepOn S1 0).bind fun (v3, S2) => some (v3, S2)
abbrev rmX7_step : Room := { frames := 5, cells := 0, slots := 0, locals := 125 }
set_option maxHeartbeats 4000000 in
set_option maxRecDepth 100000 in
theorem c7_step (l : Launch) (g : zG) (q : Nat → Nat) (S : MS) (ro : Int32) (S_o : MS) (hF : f7_step S = some (ro, S_o)) : zRW l g yX7_step wsX7_step rmX7_step [.ref (q 0)] (MW g q S) (some (.int ro)) (MW g q S_o) := by
  refine zRW_of (cc := cX7_step) (maxL := 1) (ret := (some .int)) (by decide) rfl (Nat.le_of_ble_eq_true rfl) ?_
  intro p e s m args below meth c A H locs ls hx hb hr hml hts hown hlk hK hA hP hD hS hl
  have hown : s.vm.findClass RX7 = some m.cls := hown
  have hl : lv_has ls 1 [(0, .ref (q 0))] := hl
  unfold f7_step at hF
  refine lv_aload_n hx hb dX7_step_0 rfl (lv_at hl 0 rfl) ?_
  obtain ⟨S1, hS1, hF⟩ := zob hF
  refine z_wgoW (va_runV (As := []) (rest := []) ⟨hx, hb, hml, hown, hts⟩ ((c7_keepAct l g q S   S1 hS1) H.size) (cwV 0 hts gX7_step_X7_keepAct rfl rfl rfl (by decide +kernel) ⟨Nat.le_of_ble_eq_true rfl, Nat.le_of_ble_eq_true rfl⟩) (z_wpreV (ci := 7) (q := (RX7, TX7, 37)) (q0 := 0) hP hK (z_any hD) rfl rfl) rfl rfl hl.1 rfl (lv_room (Nat.le_of_ble_eq_true rfl)) dX7_step_1 ⟨Nat.zero_le _, Nat.zero_le _⟩) hP hD hS hA (fun H locs hP hD hS => ?_)
  show W p l e (headSpec wsX7_step rmX7_step).room s m args below meth c H locs 0 0 (MQ below (zWQ g A (MW g q S_o) (some (.int ro))) args s 0 0 A) (F0 m 4 ls [])
  refine lv_aload_n hx hb dX7_step_4 rfl (lv_at hl 0 rfl) ?_
  refine lv_iconst (v := 0) hx hb dX7_step_5 (by decide) ?_
  obtain ⟨⟨v3, S2⟩, hS2, hF⟩ := zob hF
  refine z_wgoW (va_runV (As := [.int 0]) (rest := []) ⟨hx, hb, hml, hown, hts⟩ ((c7_stepOn l g q S1 0 v3  S2 hS2) H.size) (cwV 1 hts gX7_step_X7_stepOn rfl rfl rfl (by decide +kernel) ⟨Nat.le_of_ble_eq_true rfl, Nat.le_of_ble_eq_true rfl⟩) (z_wpreV (ci := 7) (q := (RX7, TX7, 37)) (q0 := 0) hP hK (z_any hD) rfl rfl) rfl rfl hl.1 rfl (lv_room (Nat.le_of_ble_eq_true rfl)) dX7_step_6 ⟨Nat.zero_le _, Nat.zero_le _⟩) hP hD hS hA (fun H locs hP hD hS => ?_)
  show W p l e (headSpec wsX7_step rmX7_step).room s m args below meth c H locs 0 0 (MQ below (zWQ g A (MW g q S_o) (some (.int ro))) args s 0 0 A) (F0 m 9 ls [.int v3])
  obtain ⟨e9a, e9b⟩ := Prod.mk.inj (zin hF)
  exact z_wi hx hb hr hlk hP hD hS (congrArg (fun z => some (Value.int z)) e9a) (by rw [e9b]) dX7_step_9
def f7_turning_l26 (x1 : Int32) : Nat → Int32 → Int32 → MS → Option (Int32 × MS)
  | 0, _, _, _ => none
  | n26 + 1, y4, y5, S6 => if 4 ≤ y5 then some (y4, S6) else (f7_mayTurn S6 x1 y5).bind fun (v9, S8) => bd (α := Int32) (if v9 = 0 then 0 else ((1 : Int32) <<< (y5 &&& 31))) (fun (v10 : Int32) => bd (α := Int32) (y4 ||| v10) (fun (v12 : Int32) => f7_turning_l26 x1 n26 v12 (y5 + 1) S8))
def f7_turning (S : MS) (x1 : Int32) : Option (Int32 × MS) := if (f7_isWalker S x1) = 0 then some ((-1), S) else (f7_isOut S 0 x1).bind fun v2 => if v2 = 0 then f7_turning_l26 x1 FU 0 0 S else some ((-3), S)
abbrev rmX7_turning : Room := { frames := 6, cells := 0, slots := 0, locals := 151 }
set_option maxHeartbeats 4000000 in
set_option maxRecDepth 100000 in
theorem c7_turning (l : Launch) (g : zG) (q : Nat → Nat) (S : MS) (x1 : Int32) (ro : Int32) (S_o : MS) (hF : f7_turning S x1 = some (ro, S_o)) : zRW l g yX7_turning wsX7_turning rmX7_turning [.ref (q 0), .int x1] (MW g q S) (some (.int ro)) (MW g q S_o) := by
  refine zRW_of (cc := cX7_turning) (maxL := 4) (ret := (some .int)) (by decide) rfl (Nat.le_of_ble_eq_true rfl) ?_
  intro p e s m args below meth c A H locs ls hx hb hr hml hts hown hlk hK hA hP hD hS hl
  have hown : s.vm.findClass RX7 = some m.cls := hown
  have hl : lv_has ls 4 [(0, .ref (q 0)), (1, .int x1)] := hl
  unfold f7_turning at hF
  refine lv_aload_n hx hb dX7_turning_0 rfl (lv_at hl 0 rfl) ?_
  refine lv_iload_n hx hb dX7_turning_1 rfl (lv_at hl 1 rfl) ?_
  refine z_rgo (va_runV (As := [.int x1]) (rest := []) ⟨hx, hb, hml, hown, hts⟩ (c7_isWalker l g q S x1) (cwV 1 hts gX7_turning_X7_isWalker rfl rfl rfl (by decide +kernel) ⟨Nat.le_of_ble_eq_true rfl, Nat.le_of_ble_eq_true rfl⟩) (z_rpreV (ci := 7) (q := (RX7, TX7, 37)) (q0 := 0) hP hK rfl rfl) rfl rfl hl.1 rfl (lv_room (Nat.le_of_ble_eq_true rfl)) dX7_turning_2 ⟨Nat.zero_le _, Nat.zero_le _⟩) ?_
  refine lv_if_ne (tgt := 10) hx hb dX7_turning_5 (by decide) (fun c1 => ?_) (fun c1 => ?_)
  · have hF := zif c1 hF
    refine lv_aload_n hx hb dX7_turning_10 rfl (lv_at hl 0 rfl) ?_
    refine lv_iconst (v := 0) hx hb dX7_turning_11 (by decide) ?_
    refine lv_iload_n hx hb dX7_turning_12 rfl (lv_at hl 1 rfl) ?_
    obtain ⟨v2, hv2, hF⟩ := zob hF
    refine z_rgo (va_runV (As := [.int 0, .int x1]) (rest := []) ⟨hx, hb, hml, hown, hts⟩ (c7_isOut l g q S 0 x1 v2 hv2) (cwV 2 hts gX7_turning_X7_isOut rfl rfl rfl (by decide +kernel) ⟨Nat.le_of_ble_eq_true rfl, Nat.le_of_ble_eq_true rfl⟩) (z_rpreV (ci := 7) (q := (RX7, TX7, 37)) (q0 := 0) hP hK rfl rfl) rfl rfl hl.1 rfl (lv_room (Nat.le_of_ble_eq_true rfl)) dX7_turning_13 ⟨Nat.zero_le _, Nat.zero_le _⟩) ?_
    refine lv_if_eq (tgt := 22) hx hb dX7_turning_16 (by decide) (fun c3 => ?_) (fun c3 => ?_)
    · have hF := zit c3 hF
      refine lv_iconst (v := 0) hx hb dX7_turning_22 (by decide) ?_
      refine lv_istore_n (lv' := [(2, .int 0), (0, .ref (q 0)), (1, .int x1)]) hx hb dX7_turning_23 rfl hl (by decide) rfl (fun ls hl => ?_)
      refine lv_iconst (v := 0) hx hb dX7_turning_24 (by decide) ?_
      refine lv_istore_n (lv' := [(3, .int 0), (2, .int 0), (0, .ref (q 0)), (1, .int x1)]) hx hb dX7_turning_25 rfl hl (by decide) rfl (fun ls hl => ?_)
      have L26 : ∀ (n26 : Nat) (y4 : Int32) (y5 : Int32) (S6 : MS) (H : Heap) (locs : List Loc) (ls : Array Slot), f7_turning_l26 x1 n26 y4 y5 S6 = some (ro, S_o) → va_P (zD g) vwCl (MW g q S6) H → va_D A (MW g q S6) → va_S A s.heap H locs → lv_has ls 4 [(0, .ref (q 0)), (1, .int x1), (2, .int y4), (3, .int y5)] → W p l e (headSpec wsX7_turning rmX7_turning).room s m args below meth c H locs 0 0 (MQ below (zWQ g A (MW g q S_o) (some (.int ro))) args s 0 0 A) (F0 m 26 ls []) := by
        intro n26
        induction n26 with
        | zero =>
          intro y4 y5 S6 H locs ls hF hP hD hS hl
          exact absurd (show (none : Option (Int32 × MS)) = some _ from hF) (fun h9 => by cases h9)
        | succ n26 ih26 =>
          intro y4 y5 S6 H locs ls hF hP hD hS hl
          rw [f7_turning_l26] at hF
          refine lv_iload_n hx hb dX7_turning_26 rfl (lv_at hl 3 rfl) ?_
          refine lv_iconst (v := 4) hx hb dX7_turning_27 (by decide) ?_
          refine lv_icmp_ge (tgt := 56) hx hb dX7_turning_28 (by decide) (fun c7 => ?_) (fun c7 => ?_)
          · have hF := zit c7 hF
            refine lv_iload_n hx hb dX7_turning_56 rfl (lv_at hl 2 rfl) ?_
            obtain ⟨e9a, e9b⟩ := Prod.mk.inj (zin hF)
            exact z_wi hx hb hr hlk hP hD hS (congrArg (fun z => some (Value.int z)) e9a) (by rw [e9b]) dX7_turning_57
          · have hF := zif c7 hF
            refine lv_iload_n hx hb dX7_turning_31 rfl (lv_at hl 2 rfl) ?_
            refine lv_aload_n hx hb dX7_turning_32 rfl (lv_at hl 0 rfl) ?_
            refine lv_iload_n hx hb dX7_turning_33 rfl (lv_at hl 1 rfl) ?_
            refine lv_iload_n hx hb dX7_turning_34 rfl (lv_at hl 3 rfl) ?_
            obtain ⟨⟨v9, S8⟩, hS8, hF⟩ := zob hF
            refine z_wgoW (va_runV (As := [.int x1, .int y5]) (rest := [.int y4]) ⟨hx, hb, hml, hown, hts⟩ ((c7_mayTurn l g q S6 x1 y5 v9  S8 hS8) H.size) (cwV 2 hts gX7_turning_X7_mayTurn rfl rfl rfl (by decide +kernel) ⟨Nat.le_of_ble_eq_true rfl, Nat.le_of_ble_eq_true rfl⟩) (z_wpreV (ci := 7) (q := (RX7, TX7, 37)) (q0 := 0) hP hK (z_any hD) rfl rfl) rfl rfl hl.1 rfl (lv_room (Nat.le_of_ble_eq_true rfl)) dX7_turning_35 ⟨Nat.zero_le _, Nat.zero_le _⟩) hP hD hS hA (fun H locs hP hD hS => ?_)
            show W p l e (headSpec wsX7_turning rmX7_turning).room s m args below meth c H locs 0 0 (MQ below (zWQ g A (MW g q S_o) (some (.int ro))) args s 0 0 A) (F0 m 38 ls [.int v9, .int y4])
            obtain ⟨v10, hVv10⟩ : ∃ y : Int32, (if v9 = 0 then 0 else ((1 : Int32) <<< (y5 &&& 31)) : Int32) = y := ⟨_, rfl⟩
            have hF := bd_eq hVv10.symm hF
            have Jv10 : W p l e (headSpec wsX7_turning rmX7_turning).room s m args below meth c H locs 0 0 (MQ below (zWQ g A (MW g q S_o) (some (.int ro))) args s 0 0 A) (F0 m 48 ls [.int v10, .int y4]) := by
              refine lv_ior hx hb dX7_turning_48 ?_
              refine lv_topi (fun v12 ev12 => ?_)
              have hF := bd_eq ev12 hF
              refine lv_istore_n (lv' := [(2, .int v12), (0, .ref (q 0)), (1, .int x1), (3, .int y5)]) hx hb dX7_turning_49 rfl hl (by decide) rfl (fun ls hl => ?_)
              refine lv_iinc (v := (y5 + 1)) (lv' := [(3, .int (y5 + 1)), (2, .int v12), (0, .ref (q 0)), (1, .int x1)]) hx hb dX7_turning_50 hl (k := 3) rfl rfl (by decide) rfl (fun ls hl => ?_)
              refine lv_goto (tgt := 26) hx hb dX7_turning_53 (by decide) ?_
              exact ih26 v12 (y5 + 1) S8 H locs ls hF hP hD hS (lv_sub hl [2, 3, 1, 0] rfl)
            refine lv_if_eq (tgt := 47) hx hb dX7_turning_38 (by decide) (fun c11 => ?_) (fun c11 => ?_)
            · have hVv10 := zit c11 hVv10
              refine lv_iconst (v := 0) hx hb dX7_turning_47 (by decide) ?_
              subst hVv10
              exact Jv10
            · have hVv10 := zif c11 hVv10
              refine lv_iconst (v := 1) hx hb dX7_turning_41 (by decide) ?_
              refine lv_iload_n hx hb dX7_turning_42 rfl (lv_at hl 3 rfl) ?_
              refine lv_ishl hx hb dX7_turning_43 ?_
              refine lv_goto (tgt := 48) hx hb dX7_turning_44 (by decide) ?_
              subst hVv10
              exact Jv10
      exact L26 FU 0 0 S H locs ls hF hP hD hS (lv_sub hl [2, 3, 1, 0] rfl)
    · have hF := zif c3 hF
      refine lv_bipush (v := (-3)) hx hb dX7_turning_19 (by decide) ?_
      obtain ⟨e9a, e9b⟩ := Prod.mk.inj (zin hF)
      exact z_wi hx hb hr hlk hP hD hS (congrArg (fun z => some (Value.int z)) e9a) (by rw [e9b]) dX7_turning_21
  · have hF := zit c1 hF
    refine lv_iconst (v := (-1)) hx hb dX7_turning_8 (by decide) ?_
    obtain ⟨e9a, e9b⟩ := Prod.mk.inj (zin hF)
    exact z_wi hx hb hr hlk hP hD hS (congrArg (fun z => some (Value.int z)) e9a) (by rw [e9b]) dX7_turning_9
def f7_undo_l36 : Nat → Int32 → MS → Option (Int32 × MS)
  | 0, _, _ => none
  | n36 + 1, y4, S5 => if 19 ≤ y4 then some ((S5.1 26), S5) else (zrd (S5.2.1 28) 266 ((19 * (S5.1 27)) + y4)).bind fun v7 => (zwr (S5.2.1 11) 38 y4 v7).bind fun f8 => bd (mA S5 11 f8) (fun (S9 : MS) => f7_undo_l36 n36 (y4 + 1) S9)
def f7_undo (S : MS) : Option (Int32 × MS) := if (S.1 26) = 0 then some ((-3), S) else bd (sI S 26 ((S.1 26) - 1)) (fun (S2 : MS) => bd (sI S2 27 (((S2.1 27) + 13) - ((S2.1 27) + 13) / 14 * 14)) (fun (S3 : MS) => f7_undo_l36 FU 0 S3))
abbrev rmX7_undo : Room := { frames := 0, cells := 0, slots := 0, locals := 0 }
set_option maxHeartbeats 4000000 in
set_option maxRecDepth 100000 in
theorem c7_undo (l : Launch) (g : zG) (q : Nat → Nat) (S : MS) (ro : Int32) (S_o : MS) (hF : f7_undo S = some (ro, S_o)) : zRW l g yX7_undo wsX7_undo rmX7_undo [.ref (q 0)] (MW g q S) (some (.int ro)) (MW g q S_o) := by
  refine zRW_of (cc := cX7_undo) (maxL := 2) (ret := (some .int)) (by decide) rfl (Nat.le_of_ble_eq_true rfl) ?_
  intro p e s m args below meth c A H locs ls hx hb hr hml hts hown hlk hK hA hP hD hS hl
  have hown : s.vm.findClass RX7 = some m.cls := hown
  have hl : lv_has ls 2 [(0, .ref (q 0))] := hl
  have inX7 : ∀ w ∈ wsX70, w ∈ wsX7_undo := fun _ h => List.mem_cons_of_mem _ (List.mem_append_right _ h)
  unfold f7_undo at hF
  refine lv_aload_n hx hb dX7_undo_0 rfl (lv_at hl 0 rfl) ?_
  refine z_get (ci := 7) (v := .int (S.1 26)) (C := RX7) (T := TX7) (N := 37) hx hb hts inX7 hown hK hP 0 rfl rfl 26 (by decide) (List.mem_of_getElem? (i := 1) rfl) rfl rfl dX7_undo_1 ?_
  refine lv_if_ne (tgt := 10) hx hb dX7_undo_4 (by decide) (fun c1 => ?_) (fun c1 => ?_)
  · have hF := zif c1 hF
    refine lv_aload_n hx hb dX7_undo_10 rfl (lv_at hl 0 rfl) ?_
    refine lv_dup hx hb dX7_undo_11 rfl ?_
    refine z_get (ci := 7) (v := .int (S.1 26)) (C := RX7) (T := TX7) (N := 37) hx hb hts inX7 hown hK hP 0 rfl rfl 26 (by decide) (List.mem_of_getElem? (i := 1) rfl) rfl rfl dX7_undo_12 ?_
    refine lv_iconst (v := 1) hx hb dX7_undo_15 (by decide) ?_
    refine lv_isub hx hb dX7_undo_16 ?_
    refine z_put (ci := 7) (v := .int ((S.1 26) - 1)) (C := RX7) (T := TX7) (N := 37) (ws' := MW g q (sI S 26 ((S.1 26) - 1))) hx hb hts inX7 tyX7 tyX7_ok nmX7 hown hK hP hD hS 0 rfl rfl 26 (by decide) (List.mem_of_getElem? (i := 1) rfl) rfl rfl rfl rfl (Nat.le_of_ble_eq_true rfl) rfl dX7_undo_17 (fun H locs hP hD hS => ?_)
    obtain ⟨S2, eS2⟩ : ∃ y : MS, y = (sI S 26 ((S.1 26) - 1)) := ⟨_, rfl⟩
    rw [← eS2] at hP hD
    have hF := bd_eq eS2 hF
    refine lv_aload_n hx hb dX7_undo_20 rfl (lv_at hl 0 rfl) ?_
    refine lv_aload_n hx hb dX7_undo_21 rfl (lv_at hl 0 rfl) ?_
    refine z_get (ci := 7) (v := .int (S2.1 27)) (C := RX7) (T := TX7) (N := 37) hx hb hts inX7 hown hK hP 0 rfl rfl 27 (by decide) (List.mem_of_getElem? (i := 2) rfl) rfl rfl dX7_undo_22 ?_
    refine lv_bipush (v := 13) hx hb dX7_undo_25 (by decide) ?_
    refine lv_iadd hx hb dX7_undo_27 ?_
    refine lv_bipush (v := 14) hx hb dX7_undo_28 (by decide) ?_
    refine lv_irem hx hb dX7_undo_30 (by decide) ?_
    refine z_put (ci := 7) (v := .int (((S2.1 27) + 13) - ((S2.1 27) + 13) / 14 * 14)) (C := RX7) (T := TX7) (N := 37) (ws' := MW g q (sI S2 27 (((S2.1 27) + 13) - ((S2.1 27) + 13) / 14 * 14))) hx hb hts inX7 tyX7 tyX7_ok nmX7 hown hK hP hD hS 0 rfl rfl 27 (by decide) (List.mem_of_getElem? (i := 2) rfl) rfl rfl rfl rfl (Nat.le_of_ble_eq_true rfl) rfl dX7_undo_31 (fun H locs hP hD hS => ?_)
    obtain ⟨S3, eS3⟩ : ∃ y : MS, y = (sI S2 27 (((S2.1 27) + 13) - ((S2.1 27) + 13) / 14 * 14)) := ⟨_, rfl⟩
    rw [← eS3] at hP hD
    have hF := bd_eq eS3 hF
    refine lv_iconst (v := 0) hx hb dX7_undo_34 (by decide) ?_
    refine lv_istore_n (lv' := [(1, .int 0), (0, .ref (q 0))]) hx hb dX7_undo_35 rfl hl (by decide) rfl (fun ls hl => ?_)
    have L36 : ∀ (n36 : Nat) (y4 : Int32) (S5 : MS) (H : Heap) (locs : List Loc) (ls : Array Slot), f7_undo_l36 n36 y4 S5 = some (ro, S_o) → va_P (zD g) vwCl (MW g q S5) H → va_D A (MW g q S5) → va_S A s.heap H locs → lv_has ls 2 [(0, .ref (q 0)), (1, .int y4)] → W p l e (headSpec wsX7_undo rmX7_undo).room s m args below meth c H locs 0 0 (MQ below (zWQ g A (MW g q S_o) (some (.int ro))) args s 0 0 A) (F0 m 36 ls []) := by
      intro n36
      induction n36 with
      | zero =>
        intro y4 S5 H locs ls hF hP hD hS hl
        exact absurd (show (none : Option (Int32 × MS)) = some _ from hF) (fun h9 => by cases h9)
      | succ n36 ih36 =>
        intro y4 S5 H locs ls hF hP hD hS hl
        rw [f7_undo_l36] at hF
        refine lv_iload_n hx hb dX7_undo_36 rfl (lv_at hl 1 rfl) ?_
        refine lv_bipush (v := 19) hx hb dX7_undo_37 (by decide) ?_
        refine lv_icmp_ge (tgt := 68) hx hb dX7_undo_39 (by decide) (fun c6 => ?_) (fun c6 => ?_)
        · have hF := zit c6 hF
          refine lv_aload_n hx hb dX7_undo_68 rfl (lv_at hl 0 rfl) ?_
          refine z_get (ci := 7) (v := .int (S5.1 26)) (C := RX7) (T := TX7) (N := 37) hx hb hts inX7 hown hK hP 0 rfl rfl 26 (by decide) (List.mem_of_getElem? (i := 1) rfl) rfl rfl dX7_undo_69 ?_
          obtain ⟨e9a, e9b⟩ := Prod.mk.inj (zin hF)
          exact z_wi hx hb hr hlk hP hD hS (congrArg (fun z => some (Value.int z)) e9a) (by rw [e9b]) dX7_undo_72
        · have hF := zif c6 hF
          refine lv_aload_n hx hb dX7_undo_42 rfl (lv_at hl 0 rfl) ?_
          refine z_get (ci := 7) (v := .ref (q 7)) (C := RX7) (T := TX7) (N := 37) hx hb hts inX7 hown hK hP 0 rfl rfl 11 (by decide) (List.mem_of_getElem? (i := 3) rfl) rfl rfl dX7_undo_43 ?_
          refine lv_iload_n hx hb dX7_undo_46 rfl (lv_at hl 1 rfl) ?_
          refine lv_aload_n hx hb dX7_undo_47 rfl (lv_at hl 0 rfl) ?_
          refine z_get (ci := 7) (v := .ref (q 13)) (C := RX7) (T := TX7) (N := 37) hx hb hts inX7 hown hK hP 0 rfl rfl 28 (by decide) (List.mem_of_getElem? (i := 4) rfl) rfl rfl dX7_undo_48 ?_
          refine lv_bipush (v := 19) hx hb dX7_undo_51 (by decide) ?_
          refine lv_aload_n hx hb dX7_undo_53 rfl (lv_at hl 0 rfl) ?_
          refine z_get (ci := 7) (v := .int (S5.1 27)) (C := RX7) (T := TX7) (N := 37) hx hb hts inX7 hown hK hP 0 rfl rfl 27 (by decide) (List.mem_of_getElem? (i := 2) rfl) rfl rfl dX7_undo_54 ?_
          refine lv_imul hx hb dX7_undo_57 ?_
          refine lv_iload_n hx hb dX7_undo_58 rfl (lv_at hl 1 rfl) ?_
          refine lv_iadd hx hb dX7_undo_59 ?_
          obtain ⟨v7, hv7, hF⟩ := zob hF
          refine z_iald hx hb hK hP 13 rfl hv7 dX7_undo_60 ?_
          obtain ⟨f8, hf8, hF⟩ := zob hF
          refine z_iast (ws' := MW g q (mA S5 11 f8)) hx hb hK hP hD hS 7 rfl hf8 rfl dX7_undo_61 (fun H locs hP hD hS => ?_)
          obtain ⟨S9, eS9⟩ : ∃ y : MS, y = (mA S5 11 f8) := ⟨_, rfl⟩
          rw [← eS9] at hP hD
          have hF := bd_eq eS9 hF
          refine lv_iinc (v := (y4 + 1)) (lv' := [(1, .int (y4 + 1)), (0, .ref (q 0))]) hx hb dX7_undo_62 hl (k := 1) rfl rfl (by decide) rfl (fun ls hl => ?_)
          refine lv_goto (tgt := 36) hx hb dX7_undo_65 (by decide) ?_
          exact ih36 (y4 + 1) S9 H locs ls hF hP hD hS (lv_sub hl [1, 0] rfl)
    exact L36 FU 0 S3 H locs ls hF hP hD hS (lv_sub hl [1, 0] rfl)
  · have hF := zit c1 hF
    refine lv_bipush (v := (-3)) hx hb dX7_undo_7 (by decide) ?_
    obtain ⟨e9a, e9b⟩ := Prod.mk.inj (zin hF)
    exact z_wi hx hb hr hlk hP hD hS (congrArg (fun z => some (Value.int z)) e9a) (by rw [e9b]) dX7_undo_9
def f7_unhear (S : MS) : Option (Int32 × MS) := bd (α := Int32) (S.1 30) (fun (v1 : Int32) => bd (sI S 30 0) (fun (S2 : MS) => some (v1, S2)))
abbrev rmX7_unhear : Room := { frames := 0, cells := 0, slots := 0, locals := 0 }
set_option maxHeartbeats 4000000 in
set_option maxRecDepth 100000 in
theorem c7_unhear (l : Launch) (g : zG) (q : Nat → Nat) (S : MS) (ro : Int32) (S_o : MS) (hF : f7_unhear S = some (ro, S_o)) : zRW l g yX7_unhear wsX7_unhear rmX7_unhear [.ref (q 0)] (MW g q S) (some (.int ro)) (MW g q S_o) := by
  refine zRW_of (cc := cX7_unhear) (maxL := 2) (ret := (some .int)) (by decide) rfl (Nat.le_of_ble_eq_true rfl) ?_
  intro p e s m args below meth c A H locs ls hx hb hr hml hts hown hlk hK hA hP hD hS hl
  have hown : s.vm.findClass RX7 = some m.cls := hown
  have hl : lv_has ls 2 [(0, .ref (q 0))] := hl
  have inX7 : ∀ w ∈ wsX70, w ∈ wsX7_unhear := fun _ h => List.mem_cons_of_mem _ (List.mem_append_right _ h)
  unfold f7_unhear at hF
  refine lv_aload_n hx hb dX7_unhear_0 rfl (lv_at hl 0 rfl) ?_
  refine z_get (ci := 7) (v := .int (S.1 30)) (C := RX7) (T := TX7) (N := 37) hx hb hts inX7 hown hK hP 0 rfl rfl 30 (by decide) (List.mem_of_getElem? (i := 1) rfl) rfl rfl dX7_unhear_1 ?_
  refine lv_topi (fun v1 ev1 => ?_)
  have hF := bd_eq ev1 hF
  refine lv_istore_n (lv' := [(1, .int v1), (0, .ref (q 0))]) hx hb dX7_unhear_4 rfl hl (by decide) rfl (fun ls hl => ?_)
  refine lv_aload_n hx hb dX7_unhear_5 rfl (lv_at hl 1 rfl) ?_
  refine lv_iconst (v := 0) hx hb dX7_unhear_6 (by decide) ?_
  refine z_put (ci := 7) (v := .int 0) (C := RX7) (T := TX7) (N := 37) (ws' := MW g q (sI S 30 0)) hx hb hts inX7 tyX7 tyX7_ok nmX7 hown hK hP hD hS 0 rfl rfl 30 (by decide) (List.mem_of_getElem? (i := 1) rfl) rfl rfl rfl rfl (Nat.le_of_ble_eq_true rfl) rfl dX7_unhear_7 (fun H locs hP hD hS => ?_)
  obtain ⟨S2, eS2⟩ : ∃ y : MS, y = (sI S 30 0) := ⟨_, rfl⟩
  rw [← eS2] at hP hD
  have hF := bd_eq eS2 hF
  refine lv_iload_n hx hb dX7_unhear_10 rfl (lv_at hl 0 rfl) ?_
  obtain ⟨e9a, e9b⟩ := Prod.mk.inj (zin hF)
  exact z_wi hx hb hr hlk hP hD hS (congrArg (fun z => some (Value.int z)) e9a) (by rw [e9b]) dX7_unhear_11
def f7_walker (S : MS) (x1 : Int32) (x2 : Int32) : Option (Int32) := if (f7_isWalker S x1) = 0 then some (-1) else if x2 = 0 then (zrd (S.2.1 11) 38 x1).bind fun v3 => some v3 else if x2 = 1 then (zrd (S.2.1 11) 38 (4 + x1)).bind fun v5 => some v5 else if x2 = 2 then (zrd (S.2.1 11) 38 (8 + x1)).bind fun v7 => some v7 else if x2 = 3 then (zrd (S.2.1 8) 4 x1).bind fun v9 => some v9 else if x2 = 4 then (zrd (S.2.1 10) 4 x1).bind fun v11 => some v11 else if x2 = 5 then (zrd (S.2.1 11) 38 (12 + x1)).bind fun v13 => some v13 else if x2 = 6 then (f7_isOut S 0 x1).bind fun v15 => if v15 = 0 then (f7_tideOn S 0).bind fun v17 => (f7_nextOn S 0 x1 v17).bind fun v18 => some v18 else some (-9) else if x2 = 7 then (zrd (S.2.1 9) 4 x1).bind fun v20 => some v20 else some (-2)
abbrev rmX7_walker : Room := { frames := 3, cells := 0, slots := 0, locals := 77 }
set_option maxHeartbeats 4000000 in
set_option maxRecDepth 100000 in
theorem c7_walker (l : Launch) (g : zG) (q : Nat → Nat) (S : MS) (x1 : Int32) (x2 : Int32) (ro : Int32) (hF : f7_walker S x1 x2 = some ro) : zRO l g yX7_walker wsX7_walker rmX7_walker [.ref (q 0), .int x1, .int x2] (MW g q S) (some (.int ro)) := by
  refine zRO_of (cc := cX7_walker) (maxL := 3) (ret := (some .int)) (by decide) rfl (Nat.le_of_ble_eq_true rfl) ?_
  intro p e s m args below meth c ls hx hb hr hml hts hown hlk hK hP hl
  have hown : s.vm.findClass RX7 = some m.cls := hown
  have hl : lv_has ls 3 [(0, .ref (q 0)), (1, .int x1), (2, .int x2)] := hl
  have inX7 : ∀ w ∈ wsX70, w ∈ wsX7_walker := fun _ h => List.mem_cons_of_mem _ (List.mem_append_right _ h)
  unfold f7_walker at hF
  refine lv_aload_n hx hb dX7_walker_0 rfl (lv_at hl 0 rfl) ?_
  refine lv_iload_n hx hb dX7_walker_1 rfl (lv_at hl 1 rfl) ?_
  refine z_rgo (va_runV (As := [.int x1]) (rest := []) ⟨hx, hb, hml, hown, hts⟩ (c7_isWalker l g q S x1) (cwV 1 hts gX7_walker_X7_isWalker rfl rfl rfl (by decide +kernel) ⟨Nat.le_of_ble_eq_true rfl, Nat.le_of_ble_eq_true rfl⟩) (z_rpreV (ci := 7) (q := (RX7, TX7, 37)) (q0 := 0) hP hK rfl rfl) rfl rfl hl.1 rfl (lv_room (Nat.le_of_ble_eq_true rfl)) dX7_walker_2 ⟨Nat.zero_le _, Nat.zero_le _⟩) ?_
  refine lv_if_ne (tgt := 10) hx hb dX7_walker_5 (by decide) (fun c1 => ?_) (fun c1 => ?_)
  · have hF := zif c1 hF
    refine lv_iload_n hx hb dX7_walker_10 rfl (lv_at hl 2 rfl) ?_
    by_cases c2 : x2 = 0
    · have hF := zit c2 hF
      refine z_tin (k := 0) (tgt := 56) hx hb dX7_walker_11 c2 ⟨by decide, by decide, rfl, by decide⟩ ?_
      refine lv_aload_n hx hb dX7_walker_56 rfl (lv_at hl 0 rfl) ?_
      refine z_get (ci := 7) (v := .ref (q 7)) (C := RX7) (T := TX7) (N := 37) hx hb hts inX7 hown hK hP 0 rfl rfl 11 (by decide) (List.mem_of_getElem? (i := 1) rfl) rfl rfl dX7_walker_57 ?_
      refine lv_iload_n hx hb dX7_walker_60 rfl (lv_at hl 1 rfl) ?_
      obtain ⟨v3, hv3, hF⟩ := zob hF
      refine z_iald hx hb hK hP 7 rfl hv3 dX7_walker_61 ?_
      have e9a := zin hF
      exact z_ri hx hb hr hlk (congrArg (fun z => some (Value.int z)) e9a) dX7_walker_62
    · have hF := zif c2 hF
      by_cases c4 : x2 = 1
      · have hF := zit c4 hF
        refine z_tin (k := 1) (tgt := 63) hx hb dX7_walker_11 c4 ⟨by decide, by decide, rfl, by decide⟩ ?_
        refine lv_aload_n hx hb dX7_walker_63 rfl (lv_at hl 0 rfl) ?_
        refine z_get (ci := 7) (v := .ref (q 7)) (C := RX7) (T := TX7) (N := 37) hx hb hts inX7 hown hK hP 0 rfl rfl 11 (by decide) (List.mem_of_getElem? (i := 1) rfl) rfl rfl dX7_walker_64 ?_
        refine lv_iconst (v := 4) hx hb dX7_walker_67 (by decide) ?_
        refine lv_iload_n hx hb dX7_walker_68 rfl (lv_at hl 1 rfl) ?_
        refine lv_iadd hx hb dX7_walker_69 ?_
        obtain ⟨v5, hv5, hF⟩ := zob hF
        refine z_iald hx hb hK hP 7 rfl hv5 dX7_walker_70 ?_
        have e9a := zin hF
        exact z_ri hx hb hr hlk (congrArg (fun z => some (Value.int z)) e9a) dX7_walker_71
      · have hF := zif c4 hF
        by_cases c6 : x2 = 2
        · have hF := zit c6 hF
          refine z_tin (k := 2) (tgt := 72) hx hb dX7_walker_11 c6 ⟨by decide, by decide, rfl, by decide⟩ ?_
          refine lv_aload_n hx hb dX7_walker_72 rfl (lv_at hl 0 rfl) ?_
          refine z_get (ci := 7) (v := .ref (q 7)) (C := RX7) (T := TX7) (N := 37) hx hb hts inX7 hown hK hP 0 rfl rfl 11 (by decide) (List.mem_of_getElem? (i := 1) rfl) rfl rfl dX7_walker_73 ?_
          refine lv_bipush (v := 8) hx hb dX7_walker_76 (by decide) ?_
          refine lv_iload_n hx hb dX7_walker_78 rfl (lv_at hl 1 rfl) ?_
          refine lv_iadd hx hb dX7_walker_79 ?_
          obtain ⟨v7, hv7, hF⟩ := zob hF
          refine z_iald hx hb hK hP 7 rfl hv7 dX7_walker_80 ?_
          have e9a := zin hF
          exact z_ri hx hb hr hlk (congrArg (fun z => some (Value.int z)) e9a) dX7_walker_81
        · have hF := zif c6 hF
          by_cases c8 : x2 = 3
          · have hF := zit c8 hF
            refine z_tin (k := 3) (tgt := 82) hx hb dX7_walker_11 c8 ⟨by decide, by decide, rfl, by decide⟩ ?_
            refine lv_aload_n hx hb dX7_walker_82 rfl (lv_at hl 0 rfl) ?_
            refine z_get (ci := 7) (v := .ref (q 4)) (C := RX7) (T := TX7) (N := 37) hx hb hts inX7 hown hK hP 0 rfl rfl 8 (by decide) (List.mem_of_getElem? (i := 2) rfl) rfl rfl dX7_walker_83 ?_
            refine lv_iload_n hx hb dX7_walker_86 rfl (lv_at hl 1 rfl) ?_
            obtain ⟨v9, hv9, hF⟩ := zob hF
            refine z_iald hx hb hK hP 4 rfl hv9 dX7_walker_87 ?_
            have e9a := zin hF
            exact z_ri hx hb hr hlk (congrArg (fun z => some (Value.int z)) e9a) dX7_walker_88
          · have hF := zif c8 hF
            by_cases c10 : x2 = 4
            · have hF := zit c10 hF
              refine z_tin (k := 4) (tgt := 89) hx hb dX7_walker_11 c10 ⟨by decide, by decide, rfl, by decide⟩ ?_
              refine lv_aload_n hx hb dX7_walker_89 rfl (lv_at hl 0 rfl) ?_
              refine z_get (ci := 7) (v := .ref (q 6)) (C := RX7) (T := TX7) (N := 37) hx hb hts inX7 hown hK hP 0 rfl rfl 10 (by decide) (List.mem_of_getElem? (i := 3) rfl) rfl rfl dX7_walker_90 ?_
              refine lv_iload_n hx hb dX7_walker_93 rfl (lv_at hl 1 rfl) ?_
              obtain ⟨v11, hv11, hF⟩ := zob hF
              refine z_iald hx hb hK hP 6 rfl hv11 dX7_walker_94 ?_
              have e9a := zin hF
              exact z_ri hx hb hr hlk (congrArg (fun z => some (Value.int z)) e9a) dX7_walker_95
            · have hF := zif c10 hF
              by_cases c12 : x2 = 5
              · have hF := zit c12 hF
                refine z_tin (k := 5) (tgt := 96) hx hb dX7_walker_11 c12 ⟨by decide, by decide, rfl, by decide⟩ ?_
                refine lv_aload_n hx hb dX7_walker_96 rfl (lv_at hl 0 rfl) ?_
                refine z_get (ci := 7) (v := .ref (q 7)) (C := RX7) (T := TX7) (N := 37) hx hb hts inX7 hown hK hP 0 rfl rfl 11 (by decide) (List.mem_of_getElem? (i := 1) rfl) rfl rfl dX7_walker_97 ?_
                refine lv_bipush (v := 12) hx hb dX7_walker_100 (by decide) ?_
                refine lv_iload_n hx hb dX7_walker_102 rfl (lv_at hl 1 rfl) ?_
                refine lv_iadd hx hb dX7_walker_103 ?_
                obtain ⟨v13, hv13, hF⟩ := zob hF
                refine z_iald hx hb hK hP 7 rfl hv13 dX7_walker_104 ?_
                have e9a := zin hF
                exact z_ri hx hb hr hlk (congrArg (fun z => some (Value.int z)) e9a) dX7_walker_105
              · have hF := zif c12 hF
                by_cases c14 : x2 = 6
                · have hF := zit c14 hF
                  refine z_tin (k := 6) (tgt := 106) hx hb dX7_walker_11 c14 ⟨by decide, by decide, rfl, by decide⟩ ?_
                  refine lv_aload_n hx hb dX7_walker_106 rfl (lv_at hl 0 rfl) ?_
                  refine lv_iconst (v := 0) hx hb dX7_walker_107 (by decide) ?_
                  refine lv_iload_n hx hb dX7_walker_108 rfl (lv_at hl 1 rfl) ?_
                  obtain ⟨v15, hv15, hF⟩ := zob hF
                  refine z_rgo (va_runV (As := [.int 0, .int x1]) (rest := []) ⟨hx, hb, hml, hown, hts⟩ (c7_isOut l g q S 0 x1 v15 hv15) (cwV 2 hts gX7_walker_X7_isOut rfl rfl rfl (by decide +kernel) ⟨Nat.le_of_ble_eq_true rfl, Nat.le_of_ble_eq_true rfl⟩) (z_rpreV (ci := 7) (q := (RX7, TX7, 37)) (q0 := 0) hP hK rfl rfl) rfl rfl hl.1 rfl (lv_room (Nat.le_of_ble_eq_true rfl)) dX7_walker_109 ⟨Nat.zero_le _, Nat.zero_le _⟩) ?_
                  refine lv_if_eq (tgt := 120) hx hb dX7_walker_112 (by decide) (fun c16 => ?_) (fun c16 => ?_)
                  · have hF := zit c16 hF
                    refine lv_aload_n hx hb dX7_walker_120 rfl (lv_at hl 0 rfl) ?_
                    refine lv_iconst (v := 0) hx hb dX7_walker_121 (by decide) ?_
                    refine lv_iload_n hx hb dX7_walker_122 rfl (lv_at hl 1 rfl) ?_
                    refine lv_aload_n hx hb dX7_walker_123 rfl (lv_at hl 0 rfl) ?_
                    refine lv_iconst (v := 0) hx hb dX7_walker_124 (by decide) ?_
                    obtain ⟨v17, hv17, hF⟩ := zob hF
                    refine z_rgo (va_runV (As := [.int 0]) (rest := [.int x1, .int 0, .ref (q 0)]) ⟨hx, hb, hml, hown, hts⟩ (c7_tideOn l g q S 0 v17 hv17) (cwV 1 hts gX7_walker_X7_tideOn rfl rfl rfl (by decide +kernel) ⟨Nat.le_of_ble_eq_true rfl, Nat.le_of_ble_eq_true rfl⟩) (z_rpreV (ci := 7) (q := (RX7, TX7, 37)) (q0 := 0) hP hK rfl rfl) rfl rfl hl.1 rfl (lv_room (Nat.le_of_ble_eq_true rfl)) dX7_walker_125 ⟨Nat.zero_le _, Nat.zero_le _⟩) ?_
                    obtain ⟨v18, hv18, hF⟩ := zob hF
                    refine z_rgo (va_runV (As := [.int 0, .int x1, .int v17]) (rest := []) ⟨hx, hb, hml, hown, hts⟩ (c7_nextOn l g q S 0 x1 v17 v18 hv18) (cwV 3 hts gX7_walker_X7_nextOn rfl rfl rfl (by decide +kernel) ⟨Nat.le_of_ble_eq_true rfl, Nat.le_of_ble_eq_true rfl⟩) (z_rpreV (ci := 7) (q := (RX7, TX7, 37)) (q0 := 0) hP hK rfl rfl) rfl rfl hl.1 rfl (lv_room (Nat.le_of_ble_eq_true rfl)) dX7_walker_128 ⟨Nat.zero_le _, Nat.zero_le _⟩) ?_
                    have e9a := zin hF
                    exact z_ri hx hb hr hlk (congrArg (fun z => some (Value.int z)) e9a) dX7_walker_131
                  · have hF := zif c16 hF
                    refine lv_bipush (v := (-9)) hx hb dX7_walker_115 (by decide) ?_
                    refine lv_goto (tgt := 131) hx hb dX7_walker_117 (by decide) ?_
                    have e9a := zin hF
                    exact z_ri hx hb hr hlk (congrArg (fun z => some (Value.int z)) e9a) dX7_walker_131
                · have hF := zif c14 hF
                  by_cases c19 : x2 = 7
                  · have hF := zit c19 hF
                    refine z_tin (k := 7) (tgt := 132) hx hb dX7_walker_11 c19 ⟨by decide, by decide, rfl, by decide⟩ ?_
                    refine lv_aload_n hx hb dX7_walker_132 rfl (lv_at hl 0 rfl) ?_
                    refine z_get (ci := 7) (v := .ref (q 5)) (C := RX7) (T := TX7) (N := 37) hx hb hts inX7 hown hK hP 0 rfl rfl 9 (by decide) (List.mem_of_getElem? (i := 4) rfl) rfl rfl dX7_walker_133 ?_
                    refine lv_iload_n hx hb dX7_walker_136 rfl (lv_at hl 1 rfl) ?_
                    obtain ⟨v20, hv20, hF⟩ := zob hF
                    refine z_iald hx hb hK hP 5 rfl hv20 dX7_walker_137 ?_
                    have e9a := zin hF
                    exact z_ri hx hb hr hlk (congrArg (fun z => some (Value.int z)) e9a) dX7_walker_138
                  · have hF := zif c19 hF
                    refine z_tout hx hb dX7_walker_11 [0, 1, 2, 3, 4, 5, 6, 7] (fun k hk => ?_) rfl (tgt := 139) (by decide) ?_
                    · simp only [List.mem_cons, List.not_mem_nil, or_false] at hk
                      rcases hk with rfl | rfl | rfl | rfl | rfl | rfl | rfl | rfl <;> assumption
                    · refine lv_bipush (v := (-2)) hx hb dX7_walker_139 (by decide) ?_
                      have e9a := zin hF
                      exact z_ri hx hb hr hlk (congrArg (fun z => some (Value.int z)) e9a) dX7_walker_141
  · have hF := zit c1 hF
    refine lv_iconst (v := (-1)) hx hb dX7_walker_8 (by decide) ?_
    have e9a := zin hF
    exact z_ri hx hb hr hlk (congrArg (fun z => some (Value.int z)) e9a) dX7_walker_9
def f7_watch_l124 (y8 : Int32) (y9 : Int32) (k88 : (Int32 → Int32 → MS → Option (Int32 × MS))) : Nat → Int32 → Int32 → MS → Option (Int32 × MS)
  | 0, _, _, _ => none
  | n124 + 1, y18, y19, S20 => if (S20.1 2) ≤ y19 then bd (α := Int32) (if y18 = 0 then y8 else y9) (fun (v22 : Int32) => k88 v22 (y9 + 1) S20) else (if y18 = 0 then some 0 else (f7_isOut S20 0 y19).bind fun v27 => if v27 = 0 then (zrd (S20.2.1 29) 4 y19).bind fun v29 => if (v29 &&& y9) = 0 then some 0 else some 1 else some 1 : Option Int32).bind fun v24 => f7_watch_l124 y8 y9 k88 n124 v24 (y19 + 1) S20
def f7_watch_l88 : Nat → Int32 → Int32 → MS → Option (Int32 × MS)
  | 0, _, _, _ => none
  | n88 + 1, y8, y9, S10 => if ((1 : Int32) <<< ((S10.1 0) &&& 31)) ≤ y9 then some (y8, S10) else (if y8 = (-9) then some 1 else (f7_ones y9).bind fun v15 => (f7_ones y8).bind fun v16 => if v16 ≤ v15 then some 0 else some 1 : Option Int32).bind fun v12 => f7_watch_l124 y8 y9 (fun y8 y9 S10 => f7_watch_l88 n88 y8 y9 S10) FU v12 0 S10
def f7_watch_l37 (y5 : Int32) (k29 : (Int32 → MS → Option (Int32 × MS))) : Nat → Int32 → MS → Option (Int32 × MS)
  | 0, _, _ => none
  | n37 + 1, y31, S32 => if (S32.1 2) ≤ y31 then (f7_stepOn S32 1).bind fun (v35, S34) => k29 (y5 + 1) S34 else (zrd (S32.2.1 29) 4 y31).bind fun v36 => (zrd (S32.2.1 11) 38 (19 + y31)).bind fun v37 => (zwr (S32.2.1 29) 4 y31 (v36 ||| ((1 : Int32) <<< (v37 &&& 31)))).bind fun f38 => bd (mA S32 29 f38) (fun (S39 : MS) => f7_watch_l37 y5 k29 n37 (y31 + 1) S39)
def f7_watch_l29 : Nat → Int32 → MS → Option (Int32 × MS)
  | 0, _, _ => none
  | n29 + 1, y5, S6 => if 8 < y5 then f7_watch_l88 FU (-9) 0 S6 else f7_watch_l37 y5 (fun y5 S6 => f7_watch_l29 n29 y5 S6) FU 0 S6
def f7_watch_l6 : Nat → Int32 → MS → Option (Int32 × MS)
  | 0, _, _ => none
  | n6 + 1, y2, S3 => if (S3.1 2) ≤ y2 then f7_watch_l29 FU 0 S3 else (zwr (S3.2.1 29) 4 y2 0).bind fun f40 => bd (mA S3 29 f40) (fun (S41 : MS) => f7_watch_l6 n6 (y2 + 1) S41)
def f7_watch (S : MS) : Option (Int32 × MS) := (f7_layTrial S).bind fun S1 => f7_watch_l6 FU 0 S1
abbrev rmX7_watch : Room := { frames := 5, cells := 0, slots := 0, locals := 125 }
set_option maxHeartbeats 4000000 in
set_option maxRecDepth 100000 in
theorem c7_watch (l : Launch) (g : zG) (q : Nat → Nat) (S : MS) (ro : Int32) (S_o : MS) (hF : f7_watch S = some (ro, S_o)) : zRW l g yX7_watch wsX7_watch rmX7_watch [.ref (q 0)] (MW g q S) (some (.int ro)) (MW g q S_o) := by
  refine zRW_of (cc := cX7_watch) (maxL := 5) (ret := (some .int)) (by decide) rfl (Nat.le_of_ble_eq_true rfl) ?_
  intro p e s m args below meth c A H locs ls hx hb hr hml hts hown hlk hK hA hP hD hS hl
  have hown : s.vm.findClass RX7 = some m.cls := hown
  have hl : lv_has ls 5 [(0, .ref (q 0))] := hl
  have inX7 : ∀ w ∈ wsX70, w ∈ wsX7_watch := fun _ h => List.mem_cons_of_mem _ (List.mem_append_right _ h)
  unfold f7_watch at hF
  refine lv_aload_n hx hb dX7_watch_0 rfl (lv_at hl 0 rfl) ?_
  obtain ⟨S1, hS1, hF⟩ := zob hF
  refine z_wgoW (va_runV (As := []) (rest := []) ⟨hx, hb, hml, hown, hts⟩ ((c7_layTrial l g q S   S1 hS1) H.size) (cwV 0 hts gX7_watch_X7_layTrial rfl rfl rfl (by decide +kernel) ⟨Nat.le_of_ble_eq_true rfl, Nat.le_of_ble_eq_true rfl⟩) (z_wpreV (ci := 7) (q := (RX7, TX7, 37)) (q0 := 0) hP hK (z_any hD) rfl rfl) rfl rfl hl.1 rfl (lv_room (Nat.le_of_ble_eq_true rfl)) dX7_watch_1 ⟨Nat.zero_le _, Nat.zero_le _⟩) hP hD hS hA (fun H locs hP hD hS => ?_)
  show W p l e (headSpec wsX7_watch rmX7_watch).room s m args below meth c H locs 0 0 (MQ below (zWQ g A (MW g q S_o) (some (.int ro))) args s 0 0 A) (F0 m 4 ls [])
  refine lv_iconst (v := 0) hx hb dX7_watch_4 (by decide) ?_
  refine lv_istore_n (lv' := [(1, .int 0), (0, .ref (q 0))]) hx hb dX7_watch_5 rfl hl (by decide) rfl (fun ls hl => ?_)
  have L6 : ∀ (n6 : Nat) (y2 : Int32) (S3 : MS) (H : Heap) (locs : List Loc) (ls : Array Slot), f7_watch_l6 n6 y2 S3 = some (ro, S_o) → va_P (zD g) vwCl (MW g q S3) H → va_D A (MW g q S3) → va_S A s.heap H locs → lv_has ls 5 [(0, .ref (q 0)), (1, .int y2)] → W p l e (headSpec wsX7_watch rmX7_watch).room s m args below meth c H locs 0 0 (MQ below (zWQ g A (MW g q S_o) (some (.int ro))) args s 0 0 A) (F0 m 6 ls []) := by
    intro n6
    induction n6 with
    | zero =>
      intro y2 S3 H locs ls hF hP hD hS hl
      exact absurd (show (none : Option (Int32 × MS)) = some _ from hF) (fun h9 => by cases h9)
    | succ n6 ih6 =>
      intro y2 S3 H locs ls hF hP hD hS hl
      rw [f7_watch_l6] at hF
      refine lv_iload_n hx hb dX7_watch_6 rfl (lv_at hl 1 rfl) ?_
      refine lv_aload_n hx hb dX7_watch_7 rfl (lv_at hl 0 rfl) ?_
      refine z_get (ci := 7) (v := .int (S3.1 2)) (C := RX7) (T := TX7) (N := 37) hx hb hts inX7 hown hK hP 0 rfl rfl 2 (by decide) (List.mem_of_getElem? (i := 1) rfl) rfl rfl dX7_watch_8 ?_
      refine lv_icmp_ge (tgt := 27) hx hb dX7_watch_11 (by decide) (fun c4 => ?_) (fun c4 => ?_)
      · have hF := zit c4 hF
        refine lv_iconst (v := 0) hx hb dX7_watch_27 (by decide) ?_
        refine lv_istore_n (lv' := [(1, .int 0), (0, .ref (q 0))]) hx hb dX7_watch_28 rfl hl (by decide) rfl (fun ls hl => ?_)
        have L29 : ∀ (n29 : Nat) (y5 : Int32) (S6 : MS) (H : Heap) (locs : List Loc) (ls : Array Slot), f7_watch_l29 n29 y5 S6 = some (ro, S_o) → va_P (zD g) vwCl (MW g q S6) H → va_D A (MW g q S6) → va_S A s.heap H locs → lv_has ls 5 [(0, .ref (q 0)), (1, .int y5)] → W p l e (headSpec wsX7_watch rmX7_watch).room s m args below meth c H locs 0 0 (MQ below (zWQ g A (MW g q S_o) (some (.int ro))) args s 0 0 A) (F0 m 29 ls []) := by
          intro n29
          induction n29 with
          | zero =>
            intro y5 S6 H locs ls hF hP hD hS hl
            exact absurd (show (none : Option (Int32 × MS)) = some _ from hF) (fun h9 => by cases h9)
          | succ n29 ih29 =>
            intro y5 S6 H locs ls hF hP hD hS hl
            rw [f7_watch_l29] at hF
            refine lv_iload_n hx hb dX7_watch_29 rfl (lv_at hl 1 rfl) ?_
            refine lv_bipush (v := 8) hx hb dX7_watch_30 (by decide) ?_
            refine lv_icmp_gt (tgt := 83) hx hb dX7_watch_32 (by decide) (fun c7 => ?_) (fun c7 => ?_)
            · have hF := zit c7 hF
              refine lv_bipush (v := (-9)) hx hb dX7_watch_83 (by decide) ?_
              refine lv_istore_n (lv' := [(1, .int (-9)), (0, .ref (q 0))]) hx hb dX7_watch_85 rfl hl (by decide) rfl (fun ls hl => ?_)
              refine lv_iconst (v := 0) hx hb dX7_watch_86 (by decide) ?_
              refine lv_istore_n (lv' := [(2, .int 0), (1, .int (-9)), (0, .ref (q 0))]) hx hb dX7_watch_87 rfl hl (by decide) rfl (fun ls hl => ?_)
              have L88 : ∀ (n88 : Nat) (y8 : Int32) (y9 : Int32) (S10 : MS) (H : Heap) (locs : List Loc) (ls : Array Slot), f7_watch_l88 n88 y8 y9 S10 = some (ro, S_o) → va_P (zD g) vwCl (MW g q S10) H → va_D A (MW g q S10) → va_S A s.heap H locs → lv_has ls 5 [(0, .ref (q 0)), (1, .int y8), (2, .int y9)] → W p l e (headSpec wsX7_watch rmX7_watch).room s m args below meth c H locs 0 0 (MQ below (zWQ g A (MW g q S_o) (some (.int ro))) args s 0 0 A) (F0 m 88 ls []) := by
                intro n88
                induction n88 with
                | zero =>
                  intro y8 y9 S10 H locs ls hF hP hD hS hl
                  exact absurd (show (none : Option (Int32 × MS)) = some _ from hF) (fun h9 => by cases h9)
                | succ n88 ih88 =>
                  intro y8 y9 S10 H locs ls hF hP hD hS hl
                  rw [f7_watch_l88] at hF
                  refine lv_iload_n hx hb dX7_watch_88 rfl (lv_at hl 2 rfl) ?_
                  refine lv_iconst (v := 1) hx hb dX7_watch_89 (by decide) ?_
                  refine lv_aload_n hx hb dX7_watch_90 rfl (lv_at hl 0 rfl) ?_
                  refine z_get (ci := 7) (v := .int (S10.1 0)) (C := RX7) (T := TX7) (N := 37) hx hb hts inX7 hown hK hP 0 rfl rfl 0 (by decide) (List.mem_of_getElem? (i := 4) rfl) rfl rfl dX7_watch_91 ?_
                  refine lv_ishl hx hb dX7_watch_94 ?_
                  refine lv_icmp_ge (tgt := 187) hx hb dX7_watch_95 (by decide) (fun c11 => ?_) (fun c11 => ?_)
                  · have hF := zit c11 hF
                    refine lv_iload_n hx hb dX7_watch_187 rfl (lv_at hl 1 rfl) ?_
                    obtain ⟨e9a, e9b⟩ := Prod.mk.inj (zin hF)
                    exact z_wi hx hb hr hlk hP hD hS (congrArg (fun z => some (Value.int z)) e9a) (by rw [e9b]) dX7_watch_188
                  · have hF := zif c11 hF
                    refine lv_iload_n hx hb dX7_watch_98 rfl (lv_at hl 1 rfl) ?_
                    refine lv_bipush (v := (-9)) hx hb dX7_watch_99 (by decide) ?_
                    obtain ⟨v12, hVv12, hF⟩ := zob hF
                    have Jv12 : W p l e (headSpec wsX7_watch rmX7_watch).room s m args below meth c H locs 0 0 (MQ below (zWQ g A (MW g q S_o) (some (.int ro))) args s 0 0 A) (F0 m 120 ls [.int v12]) := by
                      refine lv_istore_n (lv' := [(3, .int v12), (0, .ref (q 0)), (1, .int y8), (2, .int y9)]) hx hb dX7_watch_120 rfl hl (by decide) rfl (fun ls hl => ?_)
                      refine lv_iconst (v := 0) hx hb dX7_watch_121 (by decide) ?_
                      refine lv_istore (lv' := [(4, .int 0), (3, .int v12), (0, .ref (q 0)), (1, .int y8), (2, .int y9)]) hx hb dX7_watch_122 hl (by decide) rfl (fun ls hl => ?_)
                      have L124 : ∀ (n124 : Nat) (y18 : Int32) (y19 : Int32) (S20 : MS) (H : Heap) (locs : List Loc) (ls : Array Slot), f7_watch_l124 y8 y9 (fun y8 y9 S10 => f7_watch_l88 n88 y8 y9 S10) n124 y18 y19 S20 = some (ro, S_o) → va_P (zD g) vwCl (MW g q S20) H → va_D A (MW g q S20) → va_S A s.heap H locs → lv_has ls 5 [(0, .ref (q 0)), (1, .int y8), (2, .int y9), (3, .int y18), (4, .int y19)] → W p l e (headSpec wsX7_watch rmX7_watch).room s m args below meth c H locs 0 0 (MQ below (zWQ g A (MW g q S_o) (some (.int ro))) args s 0 0 A) (F0 m 124 ls []) := by
                        intro n124
                        induction n124 with
                        | zero =>
                          intro y18 y19 S20 H locs ls hF hP hD hS hl
                          exact absurd (show (none : Option (Int32 × MS)) = some _ from hF) (fun h9 => by cases h9)
                        | succ n124 ih124 =>
                          intro y18 y19 S20 H locs ls hF hP hD hS hl
                          rw [f7_watch_l124] at hF
                          refine lv_iload hx hb dX7_watch_124 (lv_at hl 4 rfl) ?_
                          refine lv_aload_n hx hb dX7_watch_126 rfl (lv_at hl 0 rfl) ?_
                          refine z_get (ci := 7) (v := .int (S20.1 2)) (C := RX7) (T := TX7) (N := 37) hx hb hts inX7 hown hK hP 0 rfl rfl 2 (by decide) (List.mem_of_getElem? (i := 1) rfl) rfl rfl dX7_watch_127 ?_
                          refine lv_icmp_ge (tgt := 171) hx hb dX7_watch_130 (by decide) (fun c21 => ?_) (fun c21 => ?_)
                          · have hF := zit c21 hF
                            refine lv_iload_n hx hb dX7_watch_171 rfl (lv_at hl 3 rfl) ?_
                            obtain ⟨v22, hVv22⟩ : ∃ y : Int32, (if y18 = 0 then y8 else y9 : Int32) = y := ⟨_, rfl⟩
                            have hF := bd_eq hVv22.symm hF
                            have Jv22 : W p l e (headSpec wsX7_watch rmX7_watch).room s m args below meth c H locs 0 0 (MQ below (zWQ g A (MW g q S_o) (some (.int ro))) args s 0 0 A) (F0 m 180 ls [.int v22]) := by
                              refine lv_istore_n (lv' := [(1, .int v22), (0, .ref (q 0)), (2, .int y9), (3, .int y18), (4, .int y19)]) hx hb dX7_watch_180 rfl hl (by decide) rfl (fun ls hl => ?_)
                              refine lv_iinc (v := (y9 + 1)) (lv' := [(2, .int (y9 + 1)), (1, .int v22), (0, .ref (q 0)), (3, .int y18), (4, .int y19)]) hx hb dX7_watch_181 hl (k := 2) rfl rfl (by decide) rfl (fun ls hl => ?_)
                              refine lv_goto (tgt := 88) hx hb dX7_watch_184 (by decide) ?_
                              exact ih88 v22 (y9 + 1) S20 H locs ls hF hP hD hS (lv_sub hl [2, 1, 0] rfl)
                            refine lv_if_eq (tgt := 179) hx hb dX7_watch_172 (by decide) (fun c23 => ?_) (fun c23 => ?_)
                            · have hVv22 := zit c23 hVv22
                              refine lv_iload_n hx hb dX7_watch_179 rfl (lv_at hl 1 rfl) ?_
                              subst hVv22
                              exact Jv22
                            · have hVv22 := zif c23 hVv22
                              refine lv_iload_n hx hb dX7_watch_175 rfl (lv_at hl 2 rfl) ?_
                              refine lv_goto (tgt := 180) hx hb dX7_watch_176 (by decide) ?_
                              subst hVv22
                              exact Jv22
                          · have hF := zif c21 hF
                            refine lv_iload_n hx hb dX7_watch_133 rfl (lv_at hl 3 rfl) ?_
                            obtain ⟨v24, hVv24, hF⟩ := zob hF
                            have Jv24 : W p l e (headSpec wsX7_watch rmX7_watch).room s m args below meth c H locs 0 0 (MQ below (zWQ g A (MW g q S_o) (some (.int ro))) args s 0 0 A) (F0 m 164 ls [.int v24]) := by
                              refine lv_istore_n (lv' := [(3, .int v24), (0, .ref (q 0)), (1, .int y8), (2, .int y9), (4, .int y19)]) hx hb dX7_watch_164 rfl hl (by decide) rfl (fun ls hl => ?_)
                              refine lv_iinc (v := (y19 + 1)) (lv' := [(4, .int (y19 + 1)), (3, .int v24), (0, .ref (q 0)), (1, .int y8), (2, .int y9)]) hx hb dX7_watch_165 hl (k := 4) rfl rfl (by decide) rfl (fun ls hl => ?_)
                              refine lv_goto (tgt := 124) hx hb dX7_watch_168 (by decide) ?_
                              exact ih124 v24 (y19 + 1) S20 H locs ls hF hP hD hS (lv_sub hl [2, 3, 4, 1, 0] rfl)
                            refine lv_if_eq (tgt := 163) hx hb dX7_watch_134 (by decide) (fun c26 => ?_) (fun c26 => ?_)
                            · have hVv24 := zit c26 hVv24
                              refine lv_iconst (v := 0) hx hb dX7_watch_163 (by decide) ?_
                              have hVv24 := zin hVv24
                              subst hVv24
                              exact Jv24
                            · have hVv24 := zif c26 hVv24
                              refine lv_aload_n hx hb dX7_watch_137 rfl (lv_at hl 0 rfl) ?_
                              refine lv_iconst (v := 0) hx hb dX7_watch_138 (by decide) ?_
                              refine lv_iload hx hb dX7_watch_139 (lv_at hl 4 rfl) ?_
                              obtain ⟨v27, hv27, hVv24⟩ := zob hVv24
                              refine z_rgo (va_runV (As := [.int 0, .int y19]) (rest := []) ⟨hx, hb, hml, hown, hts⟩ (c7_isOut l g q S20 0 y19 v27 hv27) (cwV 2 hts gX7_watch_X7_isOut rfl rfl rfl (by decide +kernel) ⟨Nat.le_of_ble_eq_true rfl, Nat.le_of_ble_eq_true rfl⟩) (z_rpreV (ci := 7) (q := (RX7, TX7, 37)) (q0 := 0) hP hK rfl rfl) rfl rfl hl.1 rfl (lv_room (Nat.le_of_ble_eq_true rfl)) dX7_watch_141 ⟨Nat.zero_le _, Nat.zero_le _⟩) ?_
                              refine lv_if_ne (tgt := 159) hx hb dX7_watch_144 (by decide) (fun c28 => ?_) (fun c28 => ?_)
                              · have hVv24 := zif c28 hVv24
                                refine lv_iconst (v := 1) hx hb dX7_watch_159 (by decide) ?_
                                refine lv_goto (tgt := 164) hx hb dX7_watch_160 (by decide) ?_
                                have hVv24 := zin hVv24
                                subst hVv24
                                exact Jv24
                              · have hVv24 := zit c28 hVv24
                                refine lv_aload_n hx hb dX7_watch_147 rfl (lv_at hl 0 rfl) ?_
                                refine z_get (ci := 7) (v := .ref (q 14)) (C := RX7) (T := TX7) (N := 37) hx hb hts inX7 hown hK hP 0 rfl rfl 29 (by decide) (List.mem_of_getElem? (i := 2) rfl) rfl rfl dX7_watch_148 ?_
                                refine lv_iload hx hb dX7_watch_151 (lv_at hl 4 rfl) ?_
                                obtain ⟨v29, hv29, hVv24⟩ := zob hVv24
                                refine z_iald hx hb hK hP 14 rfl hv29 dX7_watch_153 ?_
                                refine lv_iload_n hx hb dX7_watch_154 rfl (lv_at hl 2 rfl) ?_
                                refine lv_iand hx hb dX7_watch_155 ?_
                                refine lv_if_eq (tgt := 163) hx hb dX7_watch_156 (by decide) (fun c30 => ?_) (fun c30 => ?_)
                                · have hVv24 := zit c30 hVv24
                                  refine lv_iconst (v := 0) hx hb dX7_watch_163 (by decide) ?_
                                  have hVv24 := zin hVv24
                                  subst hVv24
                                  exact Jv24
                                · have hVv24 := zif c30 hVv24
                                  refine lv_iconst (v := 1) hx hb dX7_watch_159 (by decide) ?_
                                  refine lv_goto (tgt := 164) hx hb dX7_watch_160 (by decide) ?_
                                  have hVv24 := zin hVv24
                                  subst hVv24
                                  exact Jv24
                      exact L124 FU v12 0 S10 H locs ls hF hP hD hS (lv_sub hl [2, 3, 4, 1, 0] rfl)
                    refine lv_icmp_eq (tgt := 115) hx hb dX7_watch_101 (by decide) (fun c14 => ?_) (fun c14 => ?_)
                    · have hVv12 := zit c14 hVv12
                      refine lv_iconst (v := 1) hx hb dX7_watch_115 (by decide) ?_
                      refine lv_goto (tgt := 120) hx hb dX7_watch_116 (by decide) ?_
                      have hVv12 := zin hVv12
                      subst hVv12
                      exact Jv12
                    · have hVv12 := zif c14 hVv12
                      refine lv_iload_n hx hb dX7_watch_104 rfl (lv_at hl 2 rfl) ?_
                      obtain ⟨v15, hv15, hVv12⟩ := zob hVv12
                      refine z_rgo (va_runS (As := [.int y9]) (rest := []) ⟨hx, hb, hml, hown, hts⟩ (c7_ones l g   y9 v15 hv15) (va_cwS 1 hts gX7_watch_X7_ones rfl rfl rfl (by decide +kernel) ⟨Nat.le_of_ble_eq_true rfl, Nat.le_of_ble_eq_true rfl⟩) (z_rpre z_nil hK) rfl rfl hl.1 rfl (lv_room (Nat.le_of_ble_eq_true rfl)) dX7_watch_105 ⟨Nat.zero_le _, Nat.zero_le _⟩) ?_
                      refine lv_iload_n hx hb dX7_watch_108 rfl (lv_at hl 1 rfl) ?_
                      obtain ⟨v16, hv16, hVv12⟩ := zob hVv12
                      refine z_rgo (va_runS (As := [.int y8]) (rest := [.int v15]) ⟨hx, hb, hml, hown, hts⟩ (c7_ones l g   y8 v16 hv16) (va_cwS 1 hts gX7_watch_X7_ones rfl rfl rfl (by decide +kernel) ⟨Nat.le_of_ble_eq_true rfl, Nat.le_of_ble_eq_true rfl⟩) (z_rpre z_nil hK) rfl rfl hl.1 rfl (lv_room (Nat.le_of_ble_eq_true rfl)) dX7_watch_109 ⟨Nat.zero_le _, Nat.zero_le _⟩) ?_
                      refine lv_icmp_ge (tgt := 119) hx hb dX7_watch_112 (by decide) (fun c17 => ?_) (fun c17 => ?_)
                      · have hVv12 := zit c17 hVv12
                        refine lv_iconst (v := 0) hx hb dX7_watch_119 (by decide) ?_
                        have hVv12 := zin hVv12
                        subst hVv12
                        exact Jv12
                      · have hVv12 := zif c17 hVv12
                        refine lv_iconst (v := 1) hx hb dX7_watch_115 (by decide) ?_
                        refine lv_goto (tgt := 120) hx hb dX7_watch_116 (by decide) ?_
                        have hVv12 := zin hVv12
                        subst hVv12
                        exact Jv12
              exact L88 FU (-9) 0 S6 H locs ls hF hP hD hS (lv_sub hl [2, 1, 0] rfl)
            · have hF := zif c7 hF
              refine lv_iconst (v := 0) hx hb dX7_watch_35 (by decide) ?_
              refine lv_istore_n (lv' := [(2, .int 0), (0, .ref (q 0)), (1, .int y5)]) hx hb dX7_watch_36 rfl hl (by decide) rfl (fun ls hl => ?_)
              have L37 : ∀ (n37 : Nat) (y31 : Int32) (S32 : MS) (H : Heap) (locs : List Loc) (ls : Array Slot), f7_watch_l37 y5 (fun y5 S6 => f7_watch_l29 n29 y5 S6) n37 y31 S32 = some (ro, S_o) → va_P (zD g) vwCl (MW g q S32) H → va_D A (MW g q S32) → va_S A s.heap H locs → lv_has ls 5 [(0, .ref (q 0)), (1, .int y5), (2, .int y31)] → W p l e (headSpec wsX7_watch rmX7_watch).room s m args below meth c H locs 0 0 (MQ below (zWQ g A (MW g q S_o) (some (.int ro))) args s 0 0 A) (F0 m 37 ls []) := by
                intro n37
                induction n37 with
                | zero =>
                  intro y31 S32 H locs ls hF hP hD hS hl
                  exact absurd (show (none : Option (Int32 × MS)) = some _ from hF) (fun h9 => by cases h9)
                | succ n37 ih37 =>
                  intro y31 S32 H locs ls hF hP hD hS hl
                  rw [f7_watch_l37] at hF
                  refine lv_iload_n hx hb dX7_watch_37 rfl (lv_at hl 2 rfl) ?_
                  refine lv_aload_n hx hb dX7_watch_38 rfl (lv_at hl 0 rfl) ?_
                  refine z_get (ci := 7) (v := .int (S32.1 2)) (C := RX7) (T := TX7) (N := 37) hx hb hts inX7 hown hK hP 0 rfl rfl 2 (by decide) (List.mem_of_getElem? (i := 1) rfl) rfl rfl dX7_watch_39 ?_
                  refine lv_icmp_ge (tgt := 71) hx hb dX7_watch_42 (by decide) (fun c33 => ?_) (fun c33 => ?_)
                  · have hF := zit c33 hF
                    refine lv_aload_n hx hb dX7_watch_71 rfl (lv_at hl 0 rfl) ?_
                    refine lv_iconst (v := 1) hx hb dX7_watch_72 (by decide) ?_
                    obtain ⟨⟨v35, S34⟩, hS34, hF⟩ := zob hF
                    refine z_wgoW (va_runV (As := [.int 1]) (rest := []) ⟨hx, hb, hml, hown, hts⟩ ((c7_stepOn l g q S32 1 v35  S34 hS34) H.size) (cwV 1 hts gX7_watch_X7_stepOn rfl rfl rfl (by decide +kernel) ⟨Nat.le_of_ble_eq_true rfl, Nat.le_of_ble_eq_true rfl⟩) (z_wpreV (ci := 7) (q := (RX7, TX7, 37)) (q0 := 0) hP hK (z_any hD) rfl rfl) rfl rfl hl.1 rfl (lv_room (Nat.le_of_ble_eq_true rfl)) dX7_watch_73 ⟨Nat.zero_le _, Nat.zero_le _⟩) hP hD hS hA (fun H locs hP hD hS => ?_)
                    show W p l e (headSpec wsX7_watch rmX7_watch).room s m args below meth c H locs 0 0 (MQ below (zWQ g A (MW g q S_o) (some (.int ro))) args s 0 0 A) (F0 m 76 ls [.int v35])
                    refine lv_pop hx hb dX7_watch_76 rfl ?_
                    refine lv_iinc (v := (y5 + 1)) (lv' := [(1, .int (y5 + 1)), (0, .ref (q 0)), (2, .int y31)]) hx hb dX7_watch_77 hl (k := 1) rfl rfl (by decide) rfl (fun ls hl => ?_)
                    refine lv_goto (tgt := 29) hx hb dX7_watch_80 (by decide) ?_
                    exact ih29 (y5 + 1) S34 H locs ls hF hP hD hS (lv_sub hl [1, 0] rfl)
                  · have hF := zif c33 hF
                    refine lv_aload_n hx hb dX7_watch_45 rfl (lv_at hl 0 rfl) ?_
                    refine z_get (ci := 7) (v := .ref (q 14)) (C := RX7) (T := TX7) (N := 37) hx hb hts inX7 hown hK hP 0 rfl rfl 29 (by decide) (List.mem_of_getElem? (i := 2) rfl) rfl rfl dX7_watch_46 ?_
                    refine lv_iload_n hx hb dX7_watch_49 rfl (lv_at hl 2 rfl) ?_
                    refine lv_dup2_11 hx hb dX7_watch_50 rfl rfl ?_
                    obtain ⟨v36, hv36, hF⟩ := zob hF
                    refine z_iald hx hb hK hP 14 rfl hv36 dX7_watch_51 ?_
                    refine lv_iconst (v := 1) hx hb dX7_watch_52 (by decide) ?_
                    refine lv_aload_n hx hb dX7_watch_53 rfl (lv_at hl 0 rfl) ?_
                    refine z_get (ci := 7) (v := .ref (q 7)) (C := RX7) (T := TX7) (N := 37) hx hb hts inX7 hown hK hP 0 rfl rfl 11 (by decide) (List.mem_of_getElem? (i := 3) rfl) rfl rfl dX7_watch_54 ?_
                    refine lv_bipush (v := 19) hx hb dX7_watch_57 (by decide) ?_
                    refine lv_iload_n hx hb dX7_watch_59 rfl (lv_at hl 2 rfl) ?_
                    refine lv_iadd hx hb dX7_watch_60 ?_
                    obtain ⟨v37, hv37, hF⟩ := zob hF
                    refine z_iald hx hb hK hP 7 rfl hv37 dX7_watch_61 ?_
                    refine lv_ishl hx hb dX7_watch_62 ?_
                    refine lv_ior hx hb dX7_watch_63 ?_
                    obtain ⟨f38, hf38, hF⟩ := zob hF
                    refine z_iast (ws' := MW g q (mA S32 29 f38)) hx hb hK hP hD hS 14 rfl hf38 rfl dX7_watch_64 (fun H locs hP hD hS => ?_)
                    obtain ⟨S39, eS39⟩ : ∃ y : MS, y = (mA S32 29 f38) := ⟨_, rfl⟩
                    rw [← eS39] at hP hD
                    have hF := bd_eq eS39 hF
                    refine lv_iinc (v := (y31 + 1)) (lv' := [(2, .int (y31 + 1)), (0, .ref (q 0)), (1, .int y5)]) hx hb dX7_watch_65 hl (k := 2) rfl rfl (by decide) rfl (fun ls hl => ?_)
                    refine lv_goto (tgt := 37) hx hb dX7_watch_68 (by decide) ?_
                    exact ih37 (y31 + 1) S39 H locs ls hF hP hD hS (lv_sub hl [1, 2, 0] rfl)
              exact L37 FU 0 S6 H locs ls hF hP hD hS (lv_sub hl [1, 2, 0] rfl)
        exact L29 FU 0 S3 H locs ls hF hP hD hS (lv_sub hl [1, 0] rfl)
      · have hF := zif c4 hF
        refine lv_aload_n hx hb dX7_watch_14 rfl (lv_at hl 0 rfl) ?_
        refine z_get (ci := 7) (v := .ref (q 14)) (C := RX7) (T := TX7) (N := 37) hx hb hts inX7 hown hK hP 0 rfl rfl 29 (by decide) (List.mem_of_getElem? (i := 2) rfl) rfl rfl dX7_watch_15 ?_
        refine lv_iload_n hx hb dX7_watch_18 rfl (lv_at hl 1 rfl) ?_
        refine lv_iconst (v := 0) hx hb dX7_watch_19 (by decide) ?_
        obtain ⟨f40, hf40, hF⟩ := zob hF
        refine z_iast (ws' := MW g q (mA S3 29 f40)) hx hb hK hP hD hS 14 rfl hf40 rfl dX7_watch_20 (fun H locs hP hD hS => ?_)
        obtain ⟨S41, eS41⟩ : ∃ y : MS, y = (mA S3 29 f40) := ⟨_, rfl⟩
        rw [← eS41] at hP hD
        have hF := bd_eq eS41 hF
        refine lv_iinc (v := (y2 + 1)) (lv' := [(1, .int (y2 + 1)), (0, .ref (q 0))]) hx hb dX7_watch_21 hl (k := 1) rfl rfl (by decide) rfl (fun ls hl => ?_)
        refine lv_goto (tgt := 6) hx hb dX7_watch_24 (by decide) ?_
        exact ih6 (y2 + 1) S41 H locs ls hF hP hD hS (lv_sub hl [1, 0] rfl)
  exact L6 FU 0 S1 H locs ls hF hP hD hS (lv_sub hl [1, 0] rfl)
def f7_way_l49 (y4 : Int32) (y5 : Int32) (S : MS) (k25 : (Int32 → Int32 → Option (Int32))) : Nat → Int32 → Int32 → Option (Int32)
  | 0, _, _ => none
  | n49 + 1, y8, y9 => if (S.1 0) ≤ y9 then k25 y8 (y5 + 1) else (if (f7_has y4 y9) = 0 then some 0 else (f7_joinedOn S 0 y9).bind fun v14 => some v14 : Option Int32).bind fun v11 => bd (α := Int32) (y8 ||| v11) (fun (v15 : Int32) => f7_way_l49 y4 y5 S k25 n49 v15 (y9 + 1))
def f7_way_l25 (x2 : Int32) (S : MS) : Nat → Int32 → Int32 → Option (Int32)
  | 0, _, _ => none
  | n25 + 1, y4, y5 => if 6 ≤ y5 then some (-9) else if (f7_has y4 x2) = 0 then f7_way_l49 y4 y5 S (fun y4 y5 => f7_way_l25 x2 S n25 y4 y5) FU y4 0 else some y5
def f7_way (S : MS) (x1 : Int32) (x2 : Int32) : Option (Int32) := if (f7_isJoint S x1) = 0 then some (-1) else if (f7_isJoint S x2) = 0 then some (-1) else bd (α := Int32) ((1 : Int32) <<< (x1 &&& 31)) (fun (v3 : Int32) => f7_way_l25 x2 S FU v3 0)
abbrev rmX7_way : Room := { frames := 2, cells := 0, slots := 0, locals := 46 }
set_option maxHeartbeats 4000000 in
set_option maxRecDepth 100000 in
theorem c7_way (l : Launch) (g : zG) (q : Nat → Nat) (S : MS) (x1 : Int32) (x2 : Int32) (ro : Int32) (hF : f7_way S x1 x2 = some ro) : zRO l g yX7_way wsX7_way rmX7_way [.ref (q 0), .int x1, .int x2] (MW g q S) (some (.int ro)) := by
  refine zRO_of (cc := cX7_way) (maxL := 7) (ret := (some .int)) (by decide) rfl (Nat.le_of_ble_eq_true rfl) ?_
  intro p e s m args below meth c ls hx hb hr hml hts hown hlk hK hP hl
  have hown : s.vm.findClass RX7 = some m.cls := hown
  have hl : lv_has ls 7 [(0, .ref (q 0)), (1, .int x1), (2, .int x2)] := hl
  have inX7 : ∀ w ∈ wsX70, w ∈ wsX7_way := fun _ h => List.mem_cons_of_mem _ (List.mem_append_right _ h)
  unfold f7_way at hF
  refine lv_aload_n hx hb dX7_way_0 rfl (lv_at hl 0 rfl) ?_
  refine lv_iload_n hx hb dX7_way_1 rfl (lv_at hl 1 rfl) ?_
  refine z_rgo (va_runV (As := [.int x1]) (rest := []) ⟨hx, hb, hml, hown, hts⟩ (c7_isJoint l g q S x1) (cwV 1 hts gX7_way_X7_isJoint rfl rfl rfl (by decide +kernel) ⟨Nat.le_of_ble_eq_true rfl, Nat.le_of_ble_eq_true rfl⟩) (z_rpreV (ci := 7) (q := (RX7, TX7, 37)) (q0 := 0) hP hK rfl rfl) rfl rfl hl.1 rfl (lv_room (Nat.le_of_ble_eq_true rfl)) dX7_way_2 ⟨Nat.zero_le _, Nat.zero_le _⟩) ?_
  refine lv_if_eq (tgt := 16) hx hb dX7_way_5 (by decide) (fun c1 => ?_) (fun c1 => ?_)
  · have hF := zit c1 hF
    refine lv_iconst (v := (-1)) hx hb dX7_way_16 (by decide) ?_
    have e9a := zin hF
    exact z_ri hx hb hr hlk (congrArg (fun z => some (Value.int z)) e9a) dX7_way_17
  · have hF := zif c1 hF
    refine lv_aload_n hx hb dX7_way_8 rfl (lv_at hl 0 rfl) ?_
    refine lv_iload_n hx hb dX7_way_9 rfl (lv_at hl 2 rfl) ?_
    refine z_rgo (va_runV (As := [.int x2]) (rest := []) ⟨hx, hb, hml, hown, hts⟩ (c7_isJoint l g q S x2) (cwV 1 hts gX7_way_X7_isJoint rfl rfl rfl (by decide +kernel) ⟨Nat.le_of_ble_eq_true rfl, Nat.le_of_ble_eq_true rfl⟩) (z_rpreV (ci := 7) (q := (RX7, TX7, 37)) (q0 := 0) hP hK rfl rfl) rfl rfl hl.1 rfl (lv_room (Nat.le_of_ble_eq_true rfl)) dX7_way_10 ⟨Nat.zero_le _, Nat.zero_le _⟩) ?_
    refine lv_if_ne (tgt := 18) hx hb dX7_way_13 (by decide) (fun c2 => ?_) (fun c2 => ?_)
    · have hF := zif c2 hF
      refine lv_iconst (v := 1) hx hb dX7_way_18 (by decide) ?_
      refine lv_iload_n hx hb dX7_way_19 rfl (lv_at hl 1 rfl) ?_
      refine lv_ishl hx hb dX7_way_20 ?_
      refine lv_topi (fun v3 ev3 => ?_)
      have hF := bd_eq ev3 hF
      refine lv_istore_n (lv' := [(3, .int v3), (0, .ref (q 0)), (1, .int x1), (2, .int x2)]) hx hb dX7_way_21 rfl hl (by decide) rfl (fun ls hl => ?_)
      refine lv_iconst (v := 0) hx hb dX7_way_22 (by decide) ?_
      refine lv_istore (lv' := [(4, .int 0), (3, .int v3), (0, .ref (q 0)), (1, .int x1), (2, .int x2)]) hx hb dX7_way_23 hl (by decide) rfl (fun ls hl => ?_)
      have L25 : ∀ (n25 : Nat) (y4 : Int32) (y5 : Int32) (ls : Array Slot), f7_way_l25 x2 S n25 y4 y5 = some ro → lv_has ls 7 [(0, .ref (q 0)), (2, .int x2), (3, .int y4), (4, .int y5)] → W p l e (headSpec wsX7_way rmX7_way).room s m args below meth c s.heap [] 0 0 (MQ below (zRQ (some (.int ro))) args s 0 0 (fun _ => False)) (F0 m 25 ls []) := by
        intro n25
        induction n25 with
        | zero =>
          intro y4 y5 ls hF hl
          exact absurd (show (none : Option (Int32)) = some _ from hF) (fun h9 => by cases h9)
        | succ n25 ih25 =>
          intro y4 y5 ls hF hl
          rw [f7_way_l25] at hF
          refine lv_iload hx hb dX7_way_25 (lv_at hl 3 rfl) ?_
          refine lv_bipush (v := 6) hx hb dX7_way_27 (by decide) ?_
          refine lv_icmp_ge (tgt := 98) hx hb dX7_way_29 (by decide) (fun c6 => ?_) (fun c6 => ?_)
          · have hF := zit c6 hF
            refine lv_bipush (v := (-9)) hx hb dX7_way_98 (by decide) ?_
            have e9a := zin hF
            exact z_ri hx hb hr hlk (congrArg (fun z => some (Value.int z)) e9a) dX7_way_100
          · have hF := zif c6 hF
            refine lv_iload_n hx hb dX7_way_32 rfl (lv_at hl 2 rfl) ?_
            refine lv_iload_n hx hb dX7_way_33 rfl (lv_at hl 1 rfl) ?_
            refine z_rgo (va_runS (As := [.int y4, .int x2]) (rest := []) ⟨hx, hb, hml, hown, hts⟩ (c7_has l g   y4 x2) (va_cwS 2 hts gX7_way_X7_has rfl rfl rfl (by decide +kernel) ⟨Nat.le_of_ble_eq_true rfl, Nat.le_of_ble_eq_true rfl⟩) (z_rpre z_nil hK) rfl rfl hl.1 rfl (lv_room (Nat.le_of_ble_eq_true rfl)) dX7_way_34 ⟨Nat.zero_le _, Nat.zero_le _⟩) ?_
            refine lv_if_eq (tgt := 43) hx hb dX7_way_37 (by decide) (fun c7 => ?_) (fun c7 => ?_)
            · have hF := zit c7 hF
              refine lv_iload_n hx hb dX7_way_43 rfl (lv_at hl 2 rfl) ?_
              refine lv_istore (lv' := [(5, .int y4), (0, .ref (q 0)), (2, .int x2), (3, .int y4), (4, .int y5)]) hx hb dX7_way_44 hl (by decide) rfl (fun ls hl => ?_)
              refine lv_iconst (v := 0) hx hb dX7_way_46 (by decide) ?_
              refine lv_istore (lv' := [(6, .int 0), (5, .int y4), (0, .ref (q 0)), (2, .int x2), (3, .int y4), (4, .int y5)]) hx hb dX7_way_47 hl (by decide) rfl (fun ls hl => ?_)
              have L49 : ∀ (n49 : Nat) (y8 : Int32) (y9 : Int32) (ls : Array Slot), f7_way_l49 y4 y5 S (fun y4 y5 => f7_way_l25 x2 S n25 y4 y5) n49 y8 y9 = some ro → lv_has ls 7 [(0, .ref (q 0)), (2, .int x2), (3, .int y4), (4, .int y5), (5, .int y8), (6, .int y9)] → W p l e (headSpec wsX7_way rmX7_way).room s m args below meth c s.heap [] 0 0 (MQ below (zRQ (some (.int ro))) args s 0 0 (fun _ => False)) (F0 m 49 ls []) := by
                intro n49
                induction n49 with
                | zero =>
                  intro y8 y9 ls hF hl
                  exact absurd (show (none : Option (Int32)) = some _ from hF) (fun h9 => by cases h9)
                | succ n49 ih49 =>
                  intro y8 y9 ls hF hl
                  rw [f7_way_l49] at hF
                  refine lv_iload hx hb dX7_way_49 (lv_at hl 5 rfl) ?_
                  refine lv_aload_n hx hb dX7_way_51 rfl (lv_at hl 0 rfl) ?_
                  refine z_get (ci := 7) (v := .int (S.1 0)) (C := RX7) (T := TX7) (N := 37) hx hb hts inX7 hown hK hP 0 rfl rfl 0 (by decide) (List.mem_of_getElem? (i := 1) rfl) rfl rfl dX7_way_52 ?_
                  refine lv_icmp_ge (tgt := 89) hx hb dX7_way_55 (by decide) (fun c10 => ?_) (fun c10 => ?_)
                  · have hF := zit c10 hF
                    refine lv_iload hx hb dX7_way_89 (lv_at hl 4 rfl) ?_
                    refine lv_istore_n (lv' := [(3, .int y8), (0, .ref (q 0)), (2, .int x2), (4, .int y5), (5, .int y8), (6, .int y9)]) hx hb dX7_way_91 rfl hl (by decide) rfl (fun ls hl => ?_)
                    refine lv_iinc (v := (y5 + 1)) (lv' := [(4, .int (y5 + 1)), (3, .int y8), (0, .ref (q 0)), (2, .int x2), (5, .int y8), (6, .int y9)]) hx hb dX7_way_92 hl (k := 3) rfl rfl (by decide) rfl (fun ls hl => ?_)
                    refine lv_goto (tgt := 25) hx hb dX7_way_95 (by decide) ?_
                    exact ih25 y8 (y5 + 1) ls hF (lv_sub hl [2, 3, 1, 0] rfl)
                  · have hF := zif c10 hF
                    refine lv_iload hx hb dX7_way_58 (lv_at hl 4 rfl) ?_
                    refine lv_iload_n hx hb dX7_way_60 rfl (lv_at hl 2 rfl) ?_
                    refine lv_iload hx hb dX7_way_61 (lv_at hl 5 rfl) ?_
                    refine z_rgo (va_runS (As := [.int y4, .int y9]) (rest := [.int y8]) ⟨hx, hb, hml, hown, hts⟩ (c7_has l g   y4 y9) (va_cwS 2 hts gX7_way_X7_has rfl rfl rfl (by decide +kernel) ⟨Nat.le_of_ble_eq_true rfl, Nat.le_of_ble_eq_true rfl⟩) (z_rpre z_nil hK) rfl rfl hl.1 rfl (lv_room (Nat.le_of_ble_eq_true rfl)) dX7_way_63 ⟨Nat.zero_le _, Nat.zero_le _⟩) ?_
                    obtain ⟨v11, hVv11, hF⟩ := zob hF
                    have Jv11 : W p l e (headSpec wsX7_way rmX7_way).room s m args below meth c s.heap [] 0 0 (MQ below (zRQ (some (.int ro))) args s 0 0 (fun _ => False)) (F0 m 80 ls [.int v11, .int y8]) := by
                      refine lv_ior hx hb dX7_way_80 ?_
                      refine lv_topi (fun v15 ev15 => ?_)
                      have hF := bd_eq ev15 hF
                      refine lv_istore (lv' := [(5, .int v15), (0, .ref (q 0)), (2, .int x2), (3, .int y4), (4, .int y5), (6, .int y9)]) hx hb dX7_way_81 hl (by decide) rfl (fun ls hl => ?_)
                      refine lv_iinc (v := (y9 + 1)) (lv' := [(6, .int (y9 + 1)), (5, .int v15), (0, .ref (q 0)), (2, .int x2), (3, .int y4), (4, .int y5)]) hx hb dX7_way_83 hl (k := 5) rfl rfl (by decide) rfl (fun ls hl => ?_)
                      refine lv_goto (tgt := 49) hx hb dX7_way_86 (by decide) ?_
                      exact ih49 v15 (y9 + 1) ls hF (lv_sub hl [2, 3, 4, 5, 1, 0] rfl)
                    refine lv_if_eq (tgt := 79) hx hb dX7_way_66 (by decide) (fun c13 => ?_) (fun c13 => ?_)
                    · have hVv11 := zit c13 hVv11
                      refine lv_iconst (v := 0) hx hb dX7_way_79 (by decide) ?_
                      have hVv11 := zin hVv11
                      subst hVv11
                      exact Jv11
                    · have hVv11 := zif c13 hVv11
                      refine lv_aload_n hx hb dX7_way_69 rfl (lv_at hl 0 rfl) ?_
                      refine lv_iconst (v := 0) hx hb dX7_way_70 (by decide) ?_
                      refine lv_iload hx hb dX7_way_71 (lv_at hl 5 rfl) ?_
                      obtain ⟨v14, hv14, hVv11⟩ := zob hVv11
                      refine z_rgo (va_runV (As := [.int 0, .int y9]) (rest := [.int y8]) ⟨hx, hb, hml, hown, hts⟩ (c7_joinedOn l g q S 0 y9 v14 hv14) (cwV 2 hts gX7_way_X7_joinedOn rfl rfl rfl (by decide +kernel) ⟨Nat.le_of_ble_eq_true rfl, Nat.le_of_ble_eq_true rfl⟩) (z_rpreV (ci := 7) (q := (RX7, TX7, 37)) (q0 := 0) hP hK rfl rfl) rfl rfl hl.1 rfl (lv_room (Nat.le_of_ble_eq_true rfl)) dX7_way_73 ⟨Nat.zero_le _, Nat.zero_le _⟩) ?_
                      refine lv_goto (tgt := 80) hx hb dX7_way_76 (by decide) ?_
                      have hVv11 := zin hVv11
                      subst hVv11
                      exact Jv11
              exact L49 FU y4 0 ls hF (lv_sub hl [2, 3, 4, 5, 1, 0] rfl)
            · have hF := zif c7 hF
              refine lv_iload hx hb dX7_way_40 (lv_at hl 3 rfl) ?_
              have e9a := zin hF
              exact z_ri hx hb hr hlk (congrArg (fun z => some (Value.int z)) e9a) dX7_way_42
      exact L25 FU v3 0 ls hF (lv_sub hl [2, 4, 1, 0] rfl)
    · have hF := zit c2 hF
      refine lv_iconst (v := (-1)) hx hb dX7_way_16 (by decide) ?_
      have e9a := zin hF
      exact z_ri hx hb hr hlk (congrArg (fun z => some (Value.int z)) e9a) dX7_way_17
def f7_wipe (S : MS) : Option (Int32 × MS) := bd (α := Int32) (S.1 20) (fun (v1 : Int32) => bd (sI S 20 0) (fun (S2 : MS) => some (v1, S2)))
abbrev rmX7_wipe : Room := { frames := 0, cells := 0, slots := 0, locals := 0 }
set_option maxHeartbeats 4000000 in
set_option maxRecDepth 100000 in
theorem c7_wipe (l : Launch) (g : zG) (q : Nat → Nat) (S : MS) (ro : Int32) (S_o : MS) (hF : f7_wipe S = some (ro, S_o)) : zRW l g yX7_wipe wsX7_wipe rmX7_wipe [.ref (q 0)] (MW g q S) (some (.int ro)) (MW g q S_o) := by
  refine zRW_of (cc := cX7_wipe) (maxL := 2) (ret := (some .int)) (by decide) rfl (Nat.le_of_ble_eq_true rfl) ?_
  intro p e s m args below meth c A H locs ls hx hb hr hml hts hown hlk hK hA hP hD hS hl
  have hown : s.vm.findClass RX7 = some m.cls := hown
  have hl : lv_has ls 2 [(0, .ref (q 0))] := hl
  have inX7 : ∀ w ∈ wsX70, w ∈ wsX7_wipe := fun _ h => List.mem_cons_of_mem _ (List.mem_append_right _ h)
  unfold f7_wipe at hF
  refine lv_aload_n hx hb dX7_wipe_0 rfl (lv_at hl 0 rfl) ?_
  refine z_get (ci := 7) (v := .int (S.1 20)) (C := RX7) (T := TX7) (N := 37) hx hb hts inX7 hown hK hP 0 rfl rfl 20 (by decide) (List.mem_of_getElem? (i := 1) rfl) rfl rfl dX7_wipe_1 ?_
  refine lv_topi (fun v1 ev1 => ?_)
  have hF := bd_eq ev1 hF
  refine lv_istore_n (lv' := [(1, .int v1), (0, .ref (q 0))]) hx hb dX7_wipe_4 rfl hl (by decide) rfl (fun ls hl => ?_)
  refine lv_aload_n hx hb dX7_wipe_5 rfl (lv_at hl 1 rfl) ?_
  refine lv_iconst (v := 0) hx hb dX7_wipe_6 (by decide) ?_
  refine z_put (ci := 7) (v := .int 0) (C := RX7) (T := TX7) (N := 37) (ws' := MW g q (sI S 20 0)) hx hb hts inX7 tyX7 tyX7_ok nmX7 hown hK hP hD hS 0 rfl rfl 20 (by decide) (List.mem_of_getElem? (i := 1) rfl) rfl rfl rfl rfl (Nat.le_of_ble_eq_true rfl) rfl dX7_wipe_7 (fun H locs hP hD hS => ?_)
  obtain ⟨S2, eS2⟩ : ∃ y : MS, y = (sI S 20 0) := ⟨_, rfl⟩
  rw [← eS2] at hP hD
  have hF := bd_eq eS2 hF
  refine lv_iload_n hx hb dX7_wipe_10 rfl (lv_at hl 0 rfl) ?_
  obtain ⟨e9a, e9b⟩ := Prod.mk.inj (zin hF)
  exact z_wi hx hb hr hlk hP hD hS (congrArg (fun z => some (Value.int z)) e9a) (by rw [e9b]) dX7_wipe_11
def f7_write (S : MS) (x1 : Int32) : Option (Int32 × MS) := if (f7_in ((x1).toInt64) 0 255) = 0 then some ((-2), S) else if (S.1 20) = 60 then some ((-4), S) else (zwr (S.2.1 19) 60 (S.1 20) x1).bind fun f3 => bd (mA S 19 f3) (fun (S4 : MS) => bd (sI S4 20 ((S4.1 20) + 1)) (fun (S5 : MS) => some ((S5.1 20), S5)))
abbrev rmX7_write : Room := { frames := 1, cells := 0, slots := 0, locals := 25 }
set_option maxHeartbeats 4000000 in
set_option maxRecDepth 100000 in
theorem c7_write (l : Launch) (g : zG) (q : Nat → Nat) (S : MS) (x1 : Int32) (ro : Int32) (S_o : MS) (hF : f7_write S x1 = some (ro, S_o)) : zRW l g yX7_write wsX7_write rmX7_write [.ref (q 0), .int x1] (MW g q S) (some (.int ro)) (MW g q S_o) := by
  refine zRW_of (cc := cX7_write) (maxL := 2) (ret := (some .int)) (by decide) rfl (Nat.le_of_ble_eq_true rfl) ?_
  intro p e s m args below meth c A H locs ls hx hb hr hml hts hown hlk hK hA hP hD hS hl
  have hown : s.vm.findClass RX7 = some m.cls := hown
  have hl : lv_has ls 2 [(0, .ref (q 0)), (1, .int x1)] := hl
  have inX7 : ∀ w ∈ wsX70, w ∈ wsX7_write := fun _ h => List.mem_cons_of_mem _ (List.mem_append_right _ h)
  unfold f7_write at hF
  refine lv_iload_n hx hb dX7_write_0 rfl (lv_at hl 1 rfl) ?_
  refine lv_i2l (v := (x1).toInt64) hx hb dX7_write_1 rfl ?_
  refine lv_lconst (v := 0) hx hb dX7_write_2 (by decide) ?_
  refine lv_ldc2 (own := RX7) (v := 255) hx hb hown (hts (.constantLong RX7 75 255) (List.mem_of_getElem? (i := 1) rfl)) dX7_write_3 ?_
  refine z_rgo (va_runS (As := [.long ((x1).toInt64), .long 0, .long 255]) (rest := []) ⟨hx, hb, hml, hown, hts⟩ (c7_in l g   ((x1).toInt64) 0 255) (va_cwS 3 hts gX7_write_X7_in rfl rfl rfl (by decide +kernel) ⟨Nat.le_of_ble_eq_true rfl, Nat.le_of_ble_eq_true rfl⟩) (z_rpre z_nil hK) rfl rfl hl.1 rfl (lv_room (Nat.le_of_ble_eq_true rfl)) dX7_write_6 ⟨Nat.zero_le _, Nat.zero_le _⟩) ?_
  refine lv_if_ne (tgt := 15) hx hb dX7_write_9 (by decide) (fun c1 => ?_) (fun c1 => ?_)
  · have hF := zif c1 hF
    refine lv_aload_n hx hb dX7_write_15 rfl (lv_at hl 0 rfl) ?_
    refine z_get (ci := 7) (v := .int (S.1 20)) (C := RX7) (T := TX7) (N := 37) hx hb hts inX7 hown hK hP 0 rfl rfl 20 (by decide) (List.mem_of_getElem? (i := 2) rfl) rfl rfl dX7_write_16 ?_
    refine lv_bipush (v := 60) hx hb dX7_write_19 (by decide) ?_
    refine lv_icmp_ne (tgt := 27) hx hb dX7_write_21 (by decide) (fun c2 => ?_) (fun c2 => ?_)
    · have hF := zif c2 hF
      refine lv_aload_n hx hb dX7_write_27 rfl (lv_at hl 0 rfl) ?_
      refine z_get (ci := 7) (v := .ref (q 12)) (C := RX7) (T := TX7) (N := 37) hx hb hts inX7 hown hK hP 0 rfl rfl 19 (by decide) (List.mem_of_getElem? (i := 3) rfl) rfl rfl dX7_write_28 ?_
      refine lv_aload_n hx hb dX7_write_31 rfl (lv_at hl 0 rfl) ?_
      refine z_get (ci := 7) (v := .int (S.1 20)) (C := RX7) (T := TX7) (N := 37) hx hb hts inX7 hown hK hP 0 rfl rfl 20 (by decide) (List.mem_of_getElem? (i := 2) rfl) rfl rfl dX7_write_32 ?_
      refine lv_iload_n hx hb dX7_write_35 rfl (lv_at hl 1 rfl) ?_
      obtain ⟨f3, hf3, hF⟩ := zob hF
      refine z_iast (ws' := MW g q (mA S 19 f3)) hx hb hK hP hD hS 12 rfl hf3 rfl dX7_write_36 (fun H locs hP hD hS => ?_)
      obtain ⟨S4, eS4⟩ : ∃ y : MS, y = (mA S 19 f3) := ⟨_, rfl⟩
      rw [← eS4] at hP hD
      have hF := bd_eq eS4 hF
      refine lv_aload_n hx hb dX7_write_37 rfl (lv_at hl 0 rfl) ?_
      refine lv_dup hx hb dX7_write_38 rfl ?_
      refine z_get (ci := 7) (v := .int (S4.1 20)) (C := RX7) (T := TX7) (N := 37) hx hb hts inX7 hown hK hP 0 rfl rfl 20 (by decide) (List.mem_of_getElem? (i := 2) rfl) rfl rfl dX7_write_39 ?_
      refine lv_iconst (v := 1) hx hb dX7_write_42 (by decide) ?_
      refine lv_iadd hx hb dX7_write_43 ?_
      refine z_put (ci := 7) (v := .int ((S4.1 20) + 1)) (C := RX7) (T := TX7) (N := 37) (ws' := MW g q (sI S4 20 ((S4.1 20) + 1))) hx hb hts inX7 tyX7 tyX7_ok nmX7 hown hK hP hD hS 0 rfl rfl 20 (by decide) (List.mem_of_getElem? (i := 2) rfl) rfl rfl rfl rfl (Nat.le_of_ble_eq_true rfl) rfl dX7_write_44 (fun H locs hP hD hS => ?_)
      obtain ⟨S5, eS5⟩ : ∃ y : MS, y = (sI S4 20 ((S4.1 20) + 1)) := ⟨_, rfl⟩
      rw [← eS5] at hP hD
      have hF := bd_eq eS5 hF
      refine lv_aload_n hx hb dX7_write_47 rfl (lv_at hl 0 rfl) ?_
      refine z_get (ci := 7) (v := .int (S5.1 20)) (C := RX7) (T := TX7) (N := 37) hx hb hts inX7 hown hK hP 0 rfl rfl 20 (by decide) (List.mem_of_getElem? (i := 2) rfl) rfl rfl dX7_write_48 ?_
      obtain ⟨e9a, e9b⟩ := Prod.mk.inj (zin hF)
      exact z_wi hx hb hr hlk hP hD hS (congrArg (fun z => some (Value.int z)) e9a) (by rw [e9b]) dX7_write_51
    · have hF := zit c2 hF
      refine lv_bipush (v := (-4)) hx hb dX7_write_24 (by decide) ?_
      obtain ⟨e9a, e9b⟩ := Prod.mk.inj (zin hF)
      exact z_wi hx hb hr hlk hP hD hS (congrArg (fun z => some (Value.int z)) e9a) (by rw [e9b]) dX7_write_26
  · have hF := zit c1 hF
    refine lv_bipush (v := (-2)) hx hb dX7_write_12 (by decide) ?_
    obtain ⟨e9a, e9b⟩ := Prod.mk.inj (zin hF)
    exact z_wi hx hb hr hlk hP hD hS (congrArg (fun z => some (Value.int z)) e9a) (by rw [e9b]) dX7_write_14
def f7_years_l21 (x1 : Int32) : Nat → Int32 → MS → Option (Int32 × MS)
  | 0, _, _ => none
  | n21 + 1, y3, S4 => if x1 ≤ y3 then (f7_outOn S4 1 1).bind fun v6 => (f7_ones v6).bind fun v7 => some (v7, S4) else bd (mZ S4 (((S4.2.2) * 6364136223846793005) + 1442695040888963407)) (fun (S8 : MS) => bd (α := Int32) (((((((S8.2.2)).toUInt64 >>> ((33 : Int32).toInt64.toUInt64 &&& Int64.toUInt64 63)).toInt64) - ((((S8.2.2)).toUInt64 >>> ((33 : Int32).toInt64.toUInt64 &&& Int64.toUInt64 63)).toInt64) / 14 * 14)).toInt32) (fun (v9 : Int32) => if v9 ≤ 7 then if (f7_isPipe S8 v9) = 0 then f7_years_l21 x1 n21 (y3 + 1) S8 else (zrd (S8.2.1 11) 38 35).bind fun v12 => (zwr (S8.2.1 11) 38 35 (v12 ^^^ ((1 : Int32) <<< (v9 &&& 31)))).bind fun f13 => bd (mA S8 11 f13) (fun (S14 : MS) => f7_years_l21 x1 n21 (y3 + 1) S14) else (f7_stepOn S8 1).bind fun (v16, S15) => f7_years_l21 x1 n21 (y3 + 1) S15))
def f7_years (S : MS) (x1 : Int32) : Option (Int32 × MS) := if (f7_in ((x1).toInt64) 1 30) = 0 then some ((-2), S) else (f7_layTrial S).bind fun S2 => f7_years_l21 x1 FU 0 S2
abbrev rmX7_years : Room := { frames := 5, cells := 0, slots := 0, locals := 125 }
set_option maxHeartbeats 4000000 in
set_option maxRecDepth 100000 in
theorem c7_years (l : Launch) (g : zG) (q : Nat → Nat) (S : MS) (x1 : Int32) (ro : Int32) (S_o : MS) (hF : f7_years S x1 = some (ro, S_o)) : zRW l g yX7_years wsX7_years rmX7_years [.ref (q 0), .int x1] (MW g q S) (some (.int ro)) (MW g q S_o) := by
  refine zRW_of (cc := cX7_years) (maxL := 4) (ret := (some .int)) (by decide) rfl (Nat.le_of_ble_eq_true rfl) ?_
  intro p e s m args below meth c A H locs ls hx hb hr hml hts hown hlk hK hA hP hD hS hl
  have hown : s.vm.findClass RX7 = some m.cls := hown
  have hl : lv_has ls 4 [(0, .ref (q 0)), (1, .int x1)] := hl
  have inX7 : ∀ w ∈ wsX70, w ∈ wsX7_years := fun _ h => List.mem_cons_of_mem _ (List.mem_append_right _ h)
  unfold f7_years at hF
  refine lv_iload_n hx hb dX7_years_0 rfl (lv_at hl 1 rfl) ?_
  refine lv_i2l (v := (x1).toInt64) hx hb dX7_years_1 rfl ?_
  refine lv_lconst (v := 1) hx hb dX7_years_2 (by decide) ?_
  refine lv_ldc2 (own := RX7) (v := 30) hx hb hown (hts (.constantLong RX7 191 30) (List.mem_of_getElem? (i := 1) rfl)) dX7_years_3 ?_
  refine z_rgo (va_runS (As := [.long ((x1).toInt64), .long 1, .long 30]) (rest := []) ⟨hx, hb, hml, hown, hts⟩ (c7_in l g   ((x1).toInt64) 1 30) (va_cwS 3 hts gX7_years_X7_in rfl rfl rfl (by decide +kernel) ⟨Nat.le_of_ble_eq_true rfl, Nat.le_of_ble_eq_true rfl⟩) (z_rpre z_nil hK) rfl rfl hl.1 rfl (lv_room (Nat.le_of_ble_eq_true rfl)) dX7_years_6 ⟨Nat.zero_le _, Nat.zero_le _⟩) ?_
  refine lv_if_ne (tgt := 15) hx hb dX7_years_9 (by decide) (fun c1 => ?_) (fun c1 => ?_)
  · have hF := zif c1 hF
    refine lv_aload_n hx hb dX7_years_15 rfl (lv_at hl 0 rfl) ?_
    obtain ⟨S2, hS2, hF⟩ := zob hF
    refine z_wgoW (va_runV (As := []) (rest := []) ⟨hx, hb, hml, hown, hts⟩ ((c7_layTrial l g q S   S2 hS2) H.size) (cwV 0 hts gX7_years_X7_layTrial rfl rfl rfl (by decide +kernel) ⟨Nat.le_of_ble_eq_true rfl, Nat.le_of_ble_eq_true rfl⟩) (z_wpreV (ci := 7) (q := (RX7, TX7, 37)) (q0 := 0) hP hK (z_any hD) rfl rfl) rfl rfl hl.1 rfl (lv_room (Nat.le_of_ble_eq_true rfl)) dX7_years_16 ⟨Nat.zero_le _, Nat.zero_le _⟩) hP hD hS hA (fun H locs hP hD hS => ?_)
    show W p l e (headSpec wsX7_years rmX7_years).room s m args below meth c H locs 0 0 (MQ below (zWQ g A (MW g q S_o) (some (.int ro))) args s 0 0 A) (F0 m 19 ls [])
    refine lv_iconst (v := 0) hx hb dX7_years_19 (by decide) ?_
    refine lv_istore_n (lv' := [(2, .int 0), (0, .ref (q 0)), (1, .int x1)]) hx hb dX7_years_20 rfl hl (by decide) rfl (fun ls hl => ?_)
    have L21 : ∀ (n21 : Nat) (y3 : Int32) (S4 : MS) (H : Heap) (locs : List Loc) (ls : Array Slot), f7_years_l21 x1 n21 y3 S4 = some (ro, S_o) → va_P (zD g) vwCl (MW g q S4) H → va_D A (MW g q S4) → va_S A s.heap H locs → lv_has ls 4 [(0, .ref (q 0)), (1, .int x1), (2, .int y3)] → W p l e (headSpec wsX7_years rmX7_years).room s m args below meth c H locs 0 0 (MQ below (zWQ g A (MW g q S_o) (some (.int ro))) args s 0 0 A) (F0 m 21 ls []) := by
      intro n21
      induction n21 with
      | zero =>
        intro y3 S4 H locs ls hF hP hD hS hl
        exact absurd (show (none : Option (Int32 × MS)) = some _ from hF) (fun h9 => by cases h9)
      | succ n21 ih21 =>
        intro y3 S4 H locs ls hF hP hD hS hl
        rw [f7_years_l21] at hF
        refine lv_iload_n hx hb dX7_years_21 rfl (lv_at hl 2 rfl) ?_
        refine lv_iload_n hx hb dX7_years_22 rfl (lv_at hl 1 rfl) ?_
        refine lv_icmp_ge (tgt := 97) hx hb dX7_years_23 (by decide) (fun c5 => ?_) (fun c5 => ?_)
        · have hF := zit c5 hF
          refine lv_aload_n hx hb dX7_years_97 rfl (lv_at hl 0 rfl) ?_
          refine lv_iconst (v := 1) hx hb dX7_years_98 (by decide) ?_
          refine lv_iconst (v := 1) hx hb dX7_years_99 (by decide) ?_
          obtain ⟨v6, hv6, hF⟩ := zob hF
          refine z_rgo (va_runV (As := [.int 1, .int 1]) (rest := []) ⟨hx, hb, hml, hown, hts⟩ (c7_outOn l g q S4 1 1 v6 hv6) (cwV 2 hts gX7_years_X7_outOn rfl rfl rfl (by decide +kernel) ⟨Nat.le_of_ble_eq_true rfl, Nat.le_of_ble_eq_true rfl⟩) (z_rpreV (ci := 7) (q := (RX7, TX7, 37)) (q0 := 0) hP hK rfl rfl) rfl rfl hl.1 rfl (lv_room (Nat.le_of_ble_eq_true rfl)) dX7_years_100 ⟨Nat.zero_le _, Nat.zero_le _⟩) ?_
          obtain ⟨v7, hv7, hF⟩ := zob hF
          refine z_rgo (va_runS (As := [.int v6]) (rest := []) ⟨hx, hb, hml, hown, hts⟩ (c7_ones l g   v6 v7 hv7) (va_cwS 1 hts gX7_years_X7_ones rfl rfl rfl (by decide +kernel) ⟨Nat.le_of_ble_eq_true rfl, Nat.le_of_ble_eq_true rfl⟩) (z_rpre z_nil hK) rfl rfl hl.1 rfl (lv_room (Nat.le_of_ble_eq_true rfl)) dX7_years_103 ⟨Nat.zero_le _, Nat.zero_le _⟩) ?_
          obtain ⟨e9a, e9b⟩ := Prod.mk.inj (zin hF)
          exact z_wi hx hb hr hlk hP hD hS (congrArg (fun z => some (Value.int z)) e9a) (by rw [e9b]) dX7_years_106
        · have hF := zif c5 hF
          refine lv_aload_n hx hb dX7_years_26 rfl (lv_at hl 0 rfl) ?_
          refine lv_aload_n hx hb dX7_years_27 rfl (lv_at hl 0 rfl) ?_
          refine z_get (ci := 7) (v := .long (S4.2.2)) (C := RX7) (T := TX7) (N := 37) hx hb hts inX7 hown hK hP 0 rfl rfl 34 (by decide) (List.mem_of_getElem? (i := 2) rfl) rfl rfl dX7_years_28 ?_
          refine lv_ldc2 (own := RX7) (v := 6364136223846793005) hx hb hown (hts (.constantLong RX7 243 6364136223846793005) (List.mem_of_getElem? (i := 3) rfl)) dX7_years_31 ?_
          refine lv_lmul hx hb dX7_years_34 ?_
          refine lv_ldc2 (own := RX7) (v := 1442695040888963407) hx hb hown (hts (.constantLong RX7 245 1442695040888963407) (List.mem_of_getElem? (i := 4) rfl)) dX7_years_35 ?_
          refine lv_ladd hx hb dX7_years_38 ?_
          refine z_put (ci := 7) (v := .long (((S4.2.2) * 6364136223846793005) + 1442695040888963407)) (C := RX7) (T := TX7) (N := 37) (ws' := MW g q (mZ S4 (((S4.2.2) * 6364136223846793005) + 1442695040888963407))) hx hb hts inX7 tyX7 tyX7_ok nmX7 hown hK hP hD hS 0 rfl rfl 34 (by decide) (List.mem_of_getElem? (i := 2) rfl) rfl rfl rfl rfl (Nat.le_of_ble_eq_true rfl) rfl dX7_years_39 (fun H locs hP hD hS => ?_)
          obtain ⟨S8, eS8⟩ : ∃ y : MS, y = (mZ S4 (((S4.2.2) * 6364136223846793005) + 1442695040888963407)) := ⟨_, rfl⟩
          rw [← eS8] at hP hD
          have hF := bd_eq eS8 hF
          refine lv_aload_n hx hb dX7_years_42 rfl (lv_at hl 0 rfl) ?_
          refine z_get (ci := 7) (v := .long (S8.2.2)) (C := RX7) (T := TX7) (N := 37) hx hb hts inX7 hown hK hP 0 rfl rfl 34 (by decide) (List.mem_of_getElem? (i := 2) rfl) rfl rfl dX7_years_43 ?_
          refine lv_bipush (v := 33) hx hb dX7_years_46 (by decide) ?_
          refine lv_lushr (v := (((S8.2.2)).toUInt64 >>> ((33 : Int32).toInt64.toUInt64 &&& Int64.toUInt64 63)).toInt64) hx hb dX7_years_48 rfl ?_
          refine lv_ldc2 (own := RX7) (v := 14) hx hb hown (hts (.constantLong RX7 247 14) (List.mem_of_getElem? (i := 5) rfl)) dX7_years_49 ?_
          refine lv_lrem hx hb dX7_years_52 (by decide) ?_
          refine lv_l2i (v := ((((((S8.2.2)).toUInt64 >>> ((33 : Int32).toInt64.toUInt64 &&& Int64.toUInt64 63)).toInt64) - ((((S8.2.2)).toUInt64 >>> ((33 : Int32).toInt64.toUInt64 &&& Int64.toUInt64 63)).toInt64) / 14 * 14)).toInt32) hx hb dX7_years_53 rfl ?_
          refine lv_topi (fun v9 ev9 => ?_)
          have hF := bd_eq ev9 hF
          refine lv_istore_n (lv' := [(3, .int v9), (0, .ref (q 0)), (1, .int x1), (2, .int y3)]) hx hb dX7_years_54 rfl hl (by decide) rfl (fun ls hl => ?_)
          refine lv_iload_n hx hb dX7_years_55 rfl (lv_at hl 0 rfl) ?_
          refine lv_bipush (v := 7) hx hb dX7_years_56 (by decide) ?_
          refine lv_icmp_le (tgt := 70) hx hb dX7_years_58 (by decide) (fun c10 => ?_) (fun c10 => ?_)
          · have hF := zit c10 hF
            refine lv_aload_n hx hb dX7_years_70 rfl (lv_at hl 1 rfl) ?_
            refine lv_iload_n hx hb dX7_years_71 rfl (lv_at hl 0 rfl) ?_
            refine z_rgo (va_runV (As := [.int v9]) (rest := []) ⟨hx, hb, hml, hown, hts⟩ (c7_isPipe l g q S8 v9) (cwV 1 hts gX7_years_X7_isPipe rfl rfl rfl (by decide +kernel) ⟨Nat.le_of_ble_eq_true rfl, Nat.le_of_ble_eq_true rfl⟩) (z_rpreV (ci := 7) (q := (RX7, TX7, 37)) (q0 := 0) hP hK rfl rfl) rfl rfl hl.1 rfl (lv_room (Nat.le_of_ble_eq_true rfl)) dX7_years_72 ⟨Nat.zero_le _, Nat.zero_le _⟩) ?_
            refine lv_if_eq (tgt := 91) hx hb dX7_years_75 (by decide) (fun c11 => ?_) (fun c11 => ?_)
            · have hF := zit c11 hF
              refine lv_iinc (v := (y3 + 1)) (lv' := [(2, .int (y3 + 1)), (3, .int v9), (0, .ref (q 0)), (1, .int x1)]) hx hb dX7_years_91 hl (k := 3) rfl rfl (by decide) rfl (fun ls hl => ?_)
              refine lv_goto (tgt := 21) hx hb dX7_years_94 (by decide) ?_
              exact ih21 (y3 + 1) S8 H locs ls hF hP hD hS (lv_sub hl [2, 3, 0] rfl)
            · have hF := zif c11 hF
              refine lv_aload_n hx hb dX7_years_78 rfl (lv_at hl 1 rfl) ?_
              refine z_get (ci := 7) (v := .ref (q 7)) (C := RX7) (T := TX7) (N := 37) hx hb hts inX7 hown hK hP 0 rfl rfl 11 (by decide) (List.mem_of_getElem? (i := 6) rfl) rfl rfl dX7_years_79 ?_
              refine lv_bipush (v := 35) hx hb dX7_years_82 (by decide) ?_
              refine lv_dup2_11 hx hb dX7_years_84 rfl rfl ?_
              obtain ⟨v12, hv12, hF⟩ := zob hF
              refine z_iald hx hb hK hP 7 rfl hv12 dX7_years_85 ?_
              refine lv_iconst (v := 1) hx hb dX7_years_86 (by decide) ?_
              refine lv_iload_n hx hb dX7_years_87 rfl (lv_at hl 0 rfl) ?_
              refine lv_ishl hx hb dX7_years_88 ?_
              refine lv_ixor hx hb dX7_years_89 ?_
              obtain ⟨f13, hf13, hF⟩ := zob hF
              refine z_iast (ws' := MW g q (mA S8 11 f13)) hx hb hK hP hD hS 7 rfl hf13 rfl dX7_years_90 (fun H locs hP hD hS => ?_)
              obtain ⟨S14, eS14⟩ : ∃ y : MS, y = (mA S8 11 f13) := ⟨_, rfl⟩
              rw [← eS14] at hP hD
              have hF := bd_eq eS14 hF
              refine lv_iinc (v := (y3 + 1)) (lv' := [(2, .int (y3 + 1)), (3, .int v9), (0, .ref (q 0)), (1, .int x1)]) hx hb dX7_years_91 hl (k := 3) rfl rfl (by decide) rfl (fun ls hl => ?_)
              refine lv_goto (tgt := 21) hx hb dX7_years_94 (by decide) ?_
              exact ih21 (y3 + 1) S14 H locs ls hF hP hD hS (lv_sub hl [2, 3, 0] rfl)
          · have hF := zif c10 hF
            refine lv_aload_n hx hb dX7_years_61 rfl (lv_at hl 1 rfl) ?_
            refine lv_iconst (v := 1) hx hb dX7_years_62 (by decide) ?_
            obtain ⟨⟨v16, S15⟩, hS15, hF⟩ := zob hF
            refine z_wgoW (va_runV (As := [.int 1]) (rest := []) ⟨hx, hb, hml, hown, hts⟩ ((c7_stepOn l g q S8 1 v16  S15 hS15) H.size) (cwV 1 hts gX7_years_X7_stepOn rfl rfl rfl (by decide +kernel) ⟨Nat.le_of_ble_eq_true rfl, Nat.le_of_ble_eq_true rfl⟩) (z_wpreV (ci := 7) (q := (RX7, TX7, 37)) (q0 := 0) hP hK (z_any hD) rfl rfl) rfl rfl hl.1 rfl (lv_room (Nat.le_of_ble_eq_true rfl)) dX7_years_63 ⟨Nat.zero_le _, Nat.zero_le _⟩) hP hD hS hA (fun H locs hP hD hS => ?_)
            show W p l e (headSpec wsX7_years rmX7_years).room s m args below meth c H locs 0 0 (MQ below (zWQ g A (MW g q S_o) (some (.int ro))) args s 0 0 A) (F0 m 66 ls [.int v16])
            refine lv_pop hx hb dX7_years_66 rfl ?_
            refine lv_goto (tgt := 91) hx hb dX7_years_67 (by decide) ?_
            refine lv_iinc (v := (y3 + 1)) (lv' := [(2, .int (y3 + 1)), (3, .int v9), (0, .ref (q 0)), (1, .int x1)]) hx hb dX7_years_91 hl (k := 3) rfl rfl (by decide) rfl (fun ls hl => ?_)
            refine lv_goto (tgt := 21) hx hb dX7_years_94 (by decide) ?_
            exact ih21 (y3 + 1) S15 H locs ls hF hP hD hS (lv_sub hl [2, 3, 0] rfl)
    exact L21 FU 0 S2 H locs ls hF hP hD hS (lv_sub hl [1, 2, 0] rfl)
  · have hF := zit c1 hF
    refine lv_bipush (v := (-2)) hx hb dX7_years_12 (by decide) ?_
    obtain ⟨e9a, e9b⟩ := Prod.mk.inj (zin hF)
    exact z_wi hx hb hr hlk hP hD hS (congrArg (fun z => some (Value.int z)) e9a) (by rw [e9b]) dX7_years_14

abbrev rmX4_init : Room := { frames := 2, cells := 9, slots := 55, locals := 32 }
set_option maxHeartbeats 4000000 in
set_option maxRecDepth 100000 in
theorem c4_init (l : Launch) (g : zG) (a : Nat) : zCT l g yX4_init wsX4_init rmX4_init a 4 [.null, .null, .int 0, .int 0] (fun q => RW g q 0 zR0) 9 55 := by
  refine zCT_of (cc := cX4_init) (maxL := 1) (by decide) rfl (Nat.le_of_ble_eq_true rfl) rfl ?_
  intro p e s m args below meth c A H locs ls hx hb hr hml hts hown hlk hin hK hA hP hD hS hl
  have hown : s.vm.findClass RX4 = some m.cls := hown
  have hl : lv_has ls 1 [(0, .ref a)] := hl
  have inX4 : ∀ w ∈ wsX40, w ∈ wsX4_init := fun _ h => List.mem_cons_of_mem _ (List.mem_append_right _ h)
  have inX3 : ∀ w ∈ wsX30, w ∈ wsX4_init := fun _ h => List.mem_cons_of_mem _ (List.mem_append_left _ (List.mem_append_right _ h))
  refine lv_aload_n hx hb dX4_init_0 rfl (lv_at hl 0 rfl) ?_
  refine W.objInit hx hb hown (hts (.methodLink RX4 3 objectInit) (List.mem_of_getElem? (i := 1) rfl)) (hts (.instanceMethod objectInit) (List.mem_of_getElem? (i := 2) rfl)) (hts (.code objectInit ⟨#[0xb1]⟩ 1 none) (List.mem_of_getElem? (i := 3) rfl)) rfl (by rw [hml]; exact hl.1) rfl dX4_init_1 (Nat.le_of_ble_eq_true rfl) (Nat.le_of_ble_eq_true rfl) ?_
  refine W.eq (g2 := F0 m 4 ls []) rfl ?_
  refine lv_aload_n hx hb dX4_init_4 rfl (lv_at hl 0 rfl) ?_
  refine va_new (ci := 3) (fs := [.int 0, .int 0, .int 0, .int 0, .int 0, .int 0, .null, .null, .null, .null, .null, .null, .null]) (C := RX3) (T := TX3) (N := 13) hx hb hts inX3 tyX3 tyX3_ok hown (hts (.classLink RX4 9 RX3) (List.mem_of_getElem? (i := 4) rfl)) (hts (.instantiable RX3 13) (List.mem_of_getElem? (i := 5) rfl)) (hts (.initialized RX3) (List.mem_of_getElem? (i := 6) rfl)) hK.1.1 hP hD hS hA rfl (fun j hj => by rcases (show j = 0 ∨ j = 1 ∨ j = 2 ∨ j = 3 ∨ j = 4 ∨ j = 5 ∨ j = 6 ∨ j = 7 ∨ j = 8 ∨ j = 9 ∨ j = 10 ∨ j = 11 ∨ j = 12 by omega) with rfl | rfl | rfl | rfl | rfl | rfl | rfl | rfl | rfl | rfl | rfl | rfl | rfl <;> rfl) (Nat.le_of_ble_eq_true rfl) (Nat.le_of_ble_eq_true rfl) dX4_init_5 (fun b1 H hP hD hS => ?_)
  refine W.widen (k := 1) (n := 13) (by decide) (by decide) ?_
  refine lv_dup hx hb dX4_init_8 rfl ?_
  refine z_cgo (va_runIN (As := []) (rest := [.ref b1, .ref a]) ⟨hx, hb, hml, hown, hts⟩ ((c3_init l g b1) H.size) ⟨va_cnB 0 hts gX4_init_X3_init_n11 rfl rfl rfl (hK.1.nest 2 rfl) (hts (.initialized RX3) (List.mem_of_getElem? (i := 6) rfl)) (by decide +kernel) ⟨Nat.le_of_ble_eq_true rfl, Nat.le_of_ble_eq_true rfl⟩, rfl, hts (.instanceMethod yX3_init) (List.mem_of_getElem? (i := 10) rfl)⟩ (z_cpre hP hK hD) rfl rfl hl.1 rfl (lv_room (Nat.le_of_ble_eq_true rfl)) dX4_init_9 ⟨Nat.le_of_ble_eq_true rfl, Nat.le_of_ble_eq_true rfl⟩) hP hD hS hA (fun q1 H locs hq1 hP hD hS => ?_)
  rw [← hq1]
  refine W.widen (k := 8) (n := 51) (by decide) (by decide) ?_
  refine z_putF (ci := 4) (v := .ref (q1 0)) (C := RX4) (T := TX4) (N := 4) (ws' := ([(a, .inr (4, [.ref (q1 0), .null, .int 0, .int 0]))] : va_W) ++ NW g q1 0 zM0) hx hb hts inX4 tyX4 tyX4_ok nmX4 hown hK.1 hP hD hS 0 rfl rfl 0 (by decide) (List.mem_of_getElem? (i := 7) rfl) rfl rfl hin rfl rfl rfl (Nat.le_of_ble_eq_true rfl) rfl dX4_init_12 (fun H locs hP hD hS => ?_)
  refine lv_aload_n hx hb dX4_init_15 rfl (lv_at hl 0 rfl) ?_
  refine lv_iconst (v := 4) hx hb dX4_init_16 (by decide) ?_
  refine z_newi hx hb (hts (.arrayClass .int) (List.mem_of_getElem? (i := 8) rfl)) hK.1 hP hD hS hA 4 (by decide) rfl (by decide) (Nat.le_of_ble_eq_true rfl) (Nat.le_of_ble_eq_true rfl) dX4_init_17 (fun f1 H hP hD hS => ?_)
  refine W.widen (k := 9) (n := 55) (by decide) (by decide) ?_
  refine z_putF (ci := 4) (v := .ref f1) (C := RX4) (T := TX4) (N := 4) (ws' := (([(a, .inr (4, [.ref (q1 0), .ref f1, .int 0, .int 0]))] : va_W) ++ NW g q1 0 zM0) ++ [(f1, .inl (g.2.2.1, 4, .inl (fun _ => 0)))]) hx hb hts inX4 tyX4 tyX4_ok nmX4 hown hK.1 hP hD hS 0 rfl rfl 1 (by decide) (List.mem_of_getElem? (i := 9) rfl) rfl rfl hin rfl rfl rfl (Nat.le_of_ble_eq_true rfl) rfl dX4_init_19 (fun H locs hP hD hS => ?_)
  have pm : ((([(a, .inr (4, [.ref (q1 0), .ref f1, .int 0, .int 0]))] : va_W) ++ NW g q1 0 zM0) ++ [(f1, (.inl (g.2.2.1, 4, .inl (fun _ => 0)) : va_E))]).Perm (RW g (fun i => if i = 0 then a else if i = 1 then f1 else q1 (i - 2)) 0 zR0) := by
    rw [List.append_assoc]
    exact (List.perm_append_comm (l₁ := NW g q1 0 zM0) (l₂ := [(f1, (.inl (g.2.2.1, 4, .inl (fun _ => 0)) : va_E))])).cons _
  exact z_cret (fun i => if i = 0 then a else if i = 1 then f1 else q1 (i - 2)) hx hb hr hlk rfl (zP_perm hP pm) (zD_perm hD pm) hS dX4_init_22
def roC (g : zG) (q : Nat → Nat) : Nat → va_W
  | 0 => []
  | n + 1 => roC g q n ++ OW g q (2 + 5 * n) zM0
theorem roC_congr (g : zG) {q q2 : Nat → Nat} : ∀ n : Nat, (∀ i, i < 2 + 5 * n → q i = q2 i) → roC g q n = roC g q2 n
  | 0, _ => rfl
  | n + 1, h => by
    unfold roC OW
    rw [roC_congr g n (fun i hi => h i (by omega)), h _ (by omega), h (2 + 5 * n + 1) (by omega), h (2 + 5 * n + 2) (by omega), h (2 + 5 * n + 3) (by omega), h (2 + 5 * n + 4) (by omega)]
def roCa (g : zG) (q : Nat → Nat) (k : Nat) : va_W := [(q 0, .inr (5, [.ref (q 1), .int 0])), (q 1, .inl (g.2.2.2.2, 14, .inr (.inr (.inr (.inr (fun i => if i < k then some (q (2 + 5 * i)) else none))))))]
def roCW (g : zG) (q : Nat → Nat) : va_W := (q 0, .inr (5, [.ref (q 1), .int 0])) :: (q 1, .inl (g.2.2.2.2, 14, .inr (.inr (.inr (.inr (fun i => some (q (2 + 5 * i)))))))) :: roC g q 14
theorem arrV_cg (cA : ClassId) (n : Nat) {f f2 : Nat → Value} (h : ∀ j, j < n → f j = f2 j) : arrV cA n f = arrV cA n f2 := by
  unfold arrV
  congr 1
  congr 1
  funext j
  exact h j.val j.isLt
theorem roC_end {g : zG} {q : Nat → Nat} {H : Heap} (h : va_P (zD g) vwCl (roCa g q 14 ++ roC g q 14) H) : va_P (zD g) vwCl (roCW g q) H := by
  intro k x hx
  match k with
  | 0 => exact h 0 x hx
  | 1 =>
    have h1 := h 1 _ rfl
    have e : x = (q 1, .inl (g.2.2.2.2, 14, .inr (.inr (.inr (.inr (fun i => some (q (2 + 5 * i)))))))) := (Option.some.inj hx).symm
    subst e
    show H[q 1]? = some (vp_cell _ _)
    have h2 : H[q 1]? = some (vp_cell g.2.2.2.2 (14, .inr (.inr (.inr (.inr (fun i => if i < 14 then some (q (2 + 5 * i)) else none)))))) := h1
    rw [h2, vp_cell_q, vp_cell_q]
    exact congrArg some (arrV_cg _ _ (fun j hj => by rw [if_pos hj]))
  | k + 2 => exact h (k + 2) x hx
theorem roC_endD {g : zG} {q : Nat → Nat} {A : Nat → Prop} (h : va_D A (roCa g q 14 ++ roC g q 14)) : va_D A (roCW g q) := by
  rw [zD_iff] at h ⊢
  refine ⟨h.1, fun x hx => ?_⟩
  have e : (roCW g q).map Prod.fst = (roCa g q 14 ++ roC g q 14).map Prod.fst := rfl
  have h2 : x.1 ∈ (roCa g q 14 ++ roC g q 14).map Prod.fst := by rw [← e]; exact List.mem_map_of_mem hx
  obtain ⟨y, h3, h4⟩ := List.mem_map.mp h2
  rw [← h4]
  exact h.2 y h3
def roQ (q q1 : Nat → Nat) (k : Nat) : Nat → Nat := fun i => if i < 2 + 5 * k then q i else q1 (i - (2 + 5 * k))
theorem roQ_lo {q q1 : Nat → Nat} {k i : Nat} (h : i < 2 + 5 * k) : roQ q q1 k i = q i := if_pos h
theorem roQ_hi {q q1 : Nat → Nat} {k i : Nat} : roQ q q1 k (2 + 5 * k + i) = q1 i := by
  unfold roQ
  rw [if_neg (by omega), show 2 + 5 * k + i - (2 + 5 * k) = i by omega]
theorem roC_step (g : zG) (q q1 : Nat → Nat) (k : Nat) : roC g (roQ q q1 k) (k + 1) = roC g q k ++ OW g q1 0 zM0 := by
  have e1 : roC g (roQ q q1 k) (k + 1) = roC g (roQ q q1 k) k ++ OW g (roQ q q1 k) (2 + 5 * k) zM0 := rfl
  have e2 : roC g (roQ q q1 k) k = roC g q k := roC_congr g k (fun i hi => roQ_lo hi)
  have e3 : OW g (roQ q q1 k) (2 + 5 * k) zM0 = OW g q1 0 zM0 := by
    have h0 : roQ q q1 k (2 + 5 * k) = q1 0 := roQ_hi (i := 0)
    unfold OW
    rw [h0, roQ_hi, roQ_hi, roQ_hi, roQ_hi]
  rw [e1, e2, e3]
theorem roCa_step (g : zG) (q q1 : Nat → Nat) (k : Nat) : [(q 0, (.inr (5, [.ref (q 1), .int 0]) : va_E)), (q 1, .inl (g.2.2.2.2, 14, .inr (.inr (.inr (.inr (va_up (fun i => if i < k then some (q (2 + 5 * i)) else none) k (some (q1 0))))))))] = roCa g (roQ q q1 k) (k + 1) := by
  unfold roCa
  rw [roQ_lo (i := 0) (by omega), roQ_lo (i := 1) (by omega)]
  have : va_up (fun i => if i < k then some (q (2 + 5 * i)) else none) k (some (q1 0)) = fun i => if i < k + 1 then some (roQ q q1 k (2 + 5 * i)) else none := by
    funext i
    unfold va_up
    dsimp only
    by_cases h : i = k
    · subst h
      rw [if_pos rfl, if_pos (by omega)]
      exact congrArg some (roQ_hi (i := 0)).symm
    · rw [if_neg h]
      by_cases h2 : i < k
      · rw [if_pos h2, if_pos (by omega), roQ_lo (by omega)]
      · rw [if_neg h2, if_neg (by omega)]
  rw [this]
abbrev rmX5_init : Room := { frames := 2, cells := 71, slots := 364, locals := 32 }
set_option maxHeartbeats 4000000 in
set_option maxRecDepth 100000 in
theorem c5_init (l : Launch) (g : zG) (a : Nat) : zCT l g yX5_init wsX5_init rmX5_init a 5 [.null, .int 0] (fun q => roCW g q) 71 364 := by
  refine zCT_of (cc := cX5_init) (maxL := 2) (by decide) rfl (Nat.le_of_ble_eq_true rfl) rfl ?_
  intro p e s m args below meth c A H locs ls hx hb hr hml hts hown hlk hin hK hA hP hD hS hl
  have hown : s.vm.findClass RX5 = some m.cls := hown
  have hl : lv_has ls 2 [(0, .ref a)] := hl
  have inX5 : ∀ w ∈ wsX50, w ∈ wsX5_init := fun _ h => List.mem_cons_of_mem _ (List.mem_append_left _ (List.mem_append_right _ h))
  have inX2 : ∀ w ∈ wsX20, w ∈ wsX5_init := fun _ h => List.mem_cons_of_mem _ (List.mem_append_right _ h)
  have hL : ∀ (n j : Nat) (q : Nat → Nat) (H : Heap) (locs : List Loc) (ls : Array Slot), n + j = 14 → q 0 = a → va_P (zD g) vwCl (roCa g q j ++ roC g q j) H → va_D A (roCa g q j ++ roC g q j) → va_S A s.heap H locs → lv_has ls 2 [(1, .int (nI j)), (0, .ref (q 0))] → W p l e (headSpec wsX5_init rmX5_init).room s m args below meth c H locs (1 + 5 * j) (14 + 25 * j) (MQ below (zCQ g A a (fun q => roCW g q)) args s 71 364 A) (F0 m 15 ls []) := by
    intro n
    induction n with
    | zero =>
      intro j q H locs ls hj hq0 hP hD hS hl
      obtain rfl : j = 14 := by omega
      refine lv_iload_n hx hb dX5_init_15 rfl (lv_at hl 0 rfl) ?_
      refine lv_aload_n hx hb dX5_init_16 rfl (lv_at hl 1 rfl) ?_
      refine z_get (ci := 5) (v := .ref (q 1)) (fs := [.ref (q 1), .int 0]) (C := RX5) (T := TX5) (N := 2) hx hb hts inX5 hown hK.1 hP 0 rfl rfl 0 (by decide) (List.mem_of_getElem? (i := 5) rfl) rfl rfl dX5_init_17 ?_
      refine va_alen (v := 14) hx hb hK.1.1 hP 1 2 rfl rfl rfl dX5_init_20 ?_
      refine lv_icmp_ge (tgt := 43) hx hb dX5_init_21 (by decide) (fun c1 => ?_) (fun c1 => absurd (by decide) c1)
      exact z_cret q hx hb hr hlk hq0 (roC_end hP) (roC_endD hD) hS dX5_init_43
    | succ n ih =>
      intro j q H locs ls hj hq0 hP hD hS hl
      have hj2 : j < 14 := by omega
      refine lv_iload_n hx hb dX5_init_15 rfl (lv_at hl 0 rfl) ?_
      refine lv_aload_n hx hb dX5_init_16 rfl (lv_at hl 1 rfl) ?_
      refine z_get (ci := 5) (v := .ref (q 1)) (fs := [.ref (q 1), .int 0]) (C := RX5) (T := TX5) (N := 2) hx hb hts inX5 hown hK.1 hP 0 rfl rfl 0 (by decide) (List.mem_of_getElem? (i := 5) rfl) rfl rfl dX5_init_17 ?_
      refine va_alen (v := 14) hx hb hK.1.1 hP 1 2 rfl rfl rfl dX5_init_20 ?_
      refine lv_icmp_ge (tgt := 43) hx hb dX5_init_21 (by decide) (fun c1 => absurd c1 (nI_ge (b := 14) hj2 (by decide))) (fun c1 => ?_)
      refine lv_aload_n hx hb dX5_init_24 rfl (lv_at hl 1 rfl) ?_
      refine z_get (ci := 5) (v := .ref (q 1)) (fs := [.ref (q 1), .int 0]) (C := RX5) (T := TX5) (N := 2) hx hb hts inX5 hown hK.1 hP 0 rfl rfl 0 (by decide) (List.mem_of_getElem? (i := 5) rfl) rfl rfl dX5_init_25 ?_
      refine lv_iload_n hx hb dX5_init_28 rfl (lv_at hl 0 rfl) ?_
      refine va_new (ci := 2) (fs := [.null, .null, .null, .null, .int 0, .int 0, .int 0, .int 0, .int 0]) (C := RX2) (T := TX2) (N := 9) hx hb hts inX2 tyX2 tyX2_ok hown (hts (.classLink RX5 9 RX2) (List.mem_of_getElem? (i := 4) rfl)) (hts (.instantiable RX2 9) (List.mem_of_getElem? (i := 6) rfl)) (hts (.initialized RX2) (List.mem_of_getElem? (i := 7) rfl)) hK.1.1 hP hD hS hA rfl (fun j hj => by rcases (show j = 0 ∨ j = 1 ∨ j = 2 ∨ j = 3 ∨ j = 4 ∨ j = 5 ∨ j = 6 ∨ j = 7 ∨ j = 8 by omega) with rfl | rfl | rfl | rfl | rfl | rfl | rfl | rfl | rfl <;> rfl) (by show _ ≤ 71; omega) (by show _ ≤ 364; omega) dX5_init_29 (fun b1 H hP hD hS => ?_)
      refine lv_dup hx hb dX5_init_32 rfl ?_
      refine z_cgo (va_runIN (As := []) (rest := [.ref b1, .int (nI j), .ref (q 1)]) ⟨hx, hb, hml, hown, hts⟩ ((c2_init l g b1) H.size) ⟨va_cnB 0 hts gX5_init_X2_init_n17 rfl rfl rfl (hK.1.nest 4 rfl) (hts (.initialized RX2) (List.mem_of_getElem? (i := 7) rfl)) (by decide +kernel) ⟨Nat.le_of_ble_eq_true rfl, Nat.le_of_ble_eq_true rfl⟩, rfl, hts (.instanceMethod yX2_init) (List.mem_of_getElem? (i := 8) rfl)⟩ (z_cpre hP hK hD) rfl rfl hl.1 rfl (lv_room (Nat.le_of_ble_eq_true rfl)) dX5_init_33 ⟨by show _ ≤ 71; omega, by show _ ≤ 364; omega⟩) hP hD hS hA (fun q1 H locs hq1 hP hD hS => ?_)
      rw [← hq1]
      obtain ⟨kk, hkk⟩ := List.getElem?_of_mem (List.mem_append_right (roCa g q j ++ roC g q j) (List.mem_cons_self (a := (q1 0, (.inr (2, [.ref (q1 (0 + 1)), .ref (q1 (0 + 2)), .ref (q1 (0 + 3)), .ref (q1 (0 + 4)), .int 0, .int 0, .int 0, .int 0, .int 0]) : va_E))) (l := [(q1 (0 + 1), .inl (g.2.2.1, 4, .inl (zM0.2 0))), (q1 (0 + 2), .inl (g.2.2.1, 4, .inl (zM0.2 1))), (q1 (0 + 3), .inl (g.2.2.1, 4, .inl (zM0.2 2))), (q1 (0 + 4), .inl (g.2.2.1, 4, .inl (zM0.2 3)))])))
      have hkk : ((roCa g q j ++ roC g q j) ++ OW g q1 0 zM0)[kk]? = some (q1 0, .inr (2, [.ref (q1 (0 + 1)), .ref (q1 (0 + 2)), .ref (q1 (0 + 3)), .ref (q1 (0 + 4)), .int 0, .int 0, .int 0, .int 0, .int 0])) := hkk
      refine va_astq (v := q1 0) (r := (RX2, TX2, 9)) hx hb hK.1.1 hP hD hS 1 2 kk 2 rfl rfl hkk rfl (i := nI j) (vp_in_nI (n := j) (N := 14) hj2 (by decide)) dX5_init_36 (fun H locs hP hD hS => ?_)
      rw [nI_clamp (by omega)] at hP hD
      have eW : ((roCa g q j ++ roC g q j) ++ OW g q1 0 zM0).set 1 (q 1, .inl (g.2.2.2.2, 14, .inr (.inr (.inr (.inr (va_up (fun i => if i < j then some (q (2 + 5 * i)) else none) j (some (q1 0)))))))) = roCa g (roQ q q1 j) (j + 1) ++ roC g (roQ q q1 j) (j + 1) := by
        rw [← roCa_step, roC_step, List.append_assoc]
        rfl
      have hP : va_P (zD g) vwCl (roCa g (roQ q q1 j) (j + 1) ++ roC g (roQ q q1 j) (j + 1)) H := by rw [← eW]; exact hP
      have hD : va_D A (roCa g (roQ q q1 j) (j + 1) ++ roC g (roQ q q1 j) (j + 1)) := by rw [← eW]; exact hD
      refine lv_iinc (v := nI (j + 1)) (lv' := [(1, .int (nI (j + 1))), (0, .ref (q 0))]) hx hb dX5_init_37 hl (k := 0) rfl (nI_1 j) (by decide) rfl (fun ls hl => ?_)
      refine lv_goto (tgt := 15) hx hb dX5_init_40 (by decide) ?_
      refine W.widen (k := 1 + 5 * (j + 1)) (n := 14 + 25 * (j + 1)) (by omega) (by omega) ?_
      exact ih (j + 1) (roQ q q1 j) H locs ls (by omega) ((roQ_lo (by omega)).trans hq0) hP hD hS (by rw [roQ_lo (by omega)]; exact hl)
  refine lv_aload_n hx hb dX5_init_0 rfl (lv_at hl 0 rfl) ?_
  refine W.objInit hx hb hown (hts (.methodLink RX5 3 objectInit) (List.mem_of_getElem? (i := 1) rfl)) (hts (.instanceMethod objectInit) (List.mem_of_getElem? (i := 2) rfl)) (hts (.code objectInit ⟨#[0xb1]⟩ 1 none) (List.mem_of_getElem? (i := 3) rfl)) rfl (by rw [hml]; exact hl.1) rfl dX5_init_1 (Nat.le_of_ble_eq_true rfl) (Nat.le_of_ble_eq_true rfl) ?_
  refine W.eq (g2 := F0 m 4 ls []) rfl ?_
  refine lv_aload_n hx hb dX5_init_4 rfl (lv_at hl 0 rfl) ?_
  refine lv_bipush (v := 14) hx hb dX5_init_5 (by decide) ?_
  refine va_newq (C := "ManholeBirths$Moment") hx hb hown (hts (.classLink RX5 9 RX2) (List.mem_of_getElem? (i := 4) rfl)) hK.2 hK.1.1 hP hD hS hA (N' := 14) (by decide) rfl (by decide) (Nat.le_of_ble_eq_true rfl) (Nat.le_of_ble_eq_true rfl) dX5_init_7 (fun m1 cA H hK1 hP hD hS => ?_)
  obtain ⟨kA1, comp1, g1, g2, g3, h1⟩ := (hK.1.1.2 2 _ rfl).2
  obtain ⟨kA2, comp2, g4, g5, g6, h2⟩ := (hK1.2 3 (cA, .object "ManholeBirths$Moment") rfl).2
  have e1 : cA = g.2.2.2.2 := Option.some.inj (h2.symm.trans h1)
  subst e1
  refine W.widen (k := 1) (n := 14) (by decide) (by decide) ?_
  refine z_putF (ci := 5) (v := .ref m1) (C := RX5) (T := TX5) (N := 2) (ws' := [(a, .inr (5, [.ref m1, .int 0])), (m1, .inl (g.2.2.2.2, 14, .inr (.inr (.inr (.inr (fun _ => none))))))]) hx hb hts inX5 tyX5 tyX5_ok nmX5 hown hK.1 hP hD hS 0 rfl rfl 0 (by decide) (List.mem_of_getElem? (i := 5) rfl) rfl rfl hin rfl rfl rfl (Nat.le_of_ble_eq_true rfl) rfl dX5_init_10 (fun H locs hP hD hS => ?_)
  refine lv_iconst (v := 0) hx hb dX5_init_13 (by decide) ?_
  refine lv_istore_n (lv' := [(1, .int 0), (0, .ref a)]) hx hb dX5_init_14 rfl hl (by decide) rfl (fun ls hl => ?_)
  have e0 : [(a, (.inr (5, [.ref m1, .int 0]) : va_E)), (m1, .inl (g.2.2.2.2, 14, .inr (.inr (.inr (.inr (fun _ => none))))))] = roCa g (fun i => if i = 0 then a else m1) 0 ++ roC g (fun i => if i = 0 then a else m1) 0 := by
    unfold roCa roC
    rfl
  rw [e0] at hP hD
  exact hL 14 0 (fun i => if i = 0 then a else m1) H locs ls rfl rfl hP hD hS hl
def zC0 : Cs := (fun _ => zM0, fun _ => zM0, (fun i => i, 0), zT0, zR0, zR0, fun _ => 0, zU0, 0, 0)
def qC (a f1 : Nat) (q1 q2 q3 q4 q5 q6 q7 q8 q9 : Nat → Nat) : Nat → Nat := (fun i => if i = 0 then a else if i < 3 then q1 (i - 1) else if i < 13 then q2 (i - 3) else if i < 23 then q3 (i - 13) else if i < 28 then q4 (i - 23) else if i < 33 then q5 (i - 28) else if i = 33 then f1 else if i < 36 then q6 (i - 34) else if i < 41 then q7 (i - 36) else if i < 46 then q8 (i - 41) else if i < 50 then q9 (i - 46) else q6 (i - 48))
theorem roC_roW (g : zG) (q q6 : Nat → Nat) (h : ∀ i, 50 ≤ i → q i = q6 (i - 48)) : roW g q (fun _ => zM0) = roC g q6 14 := by
  have e : ∀ n : Nat, OW g q (50 + 5 * n) zM0 = OW g q6 (2 + 5 * n) zM0 := by
    intro n
    unfold OW
    rw [h _ (by omega), h (50 + 5 * n + 1) (by omega), h (50 + 5 * n + 2) (by omega), h (50 + 5 * n + 3) (by omega), h (50 + 5 * n + 4) (by omega)]
    rw [show 50 + 5 * n - 48 = 2 + 5 * n by omega, show 50 + 5 * n + 1 - 48 = 2 + 5 * n + 1 by omega, show 50 + 5 * n + 2 - 48 = 2 + 5 * n + 2 by omega, show 50 + 5 * n + 3 - 48 = 2 + 5 * n + 3 by omega, show 50 + 5 * n + 4 - 48 = 2 + 5 * n + 4 by omega]
  have e2 : ∀ n : Nat, roL g q (fun _ => zM0) n = roC g q6 n := by
    intro n
    induction n with
    | zero => rfl
    | succ n ih => unfold roL roC; rw [ih, e]
  rw [roW_eq, e2]
theorem qC_hi {a f1 : Nat} {q1 q2 q3 q4 q5 q6 q7 q8 q9 : Nat → Nat} {i : Nat} (h : 50 ≤ i) : qC a f1 q1 q2 q3 q4 q5 q6 q7 q8 q9 i = q6 (i - 48) := by
  unfold qC
  rw [if_neg (by omega), if_neg (by omega), if_neg (by omega), if_neg (by omega), if_neg (by omega), if_neg (by omega), if_neg (by omega), if_neg (by omega), if_neg (by omega), if_neg (by omega), if_neg (by omega)]
theorem pm4 {P R W D : va_W} : ((P ++ (R ++ W)) ++ D).Perm (P ++ (R ++ (D ++ W))) := by
  rw [List.append_assoc, List.append_assoc]
  exact ((List.perm_append_comm (l₁ := W) (l₂ := D)).append_left R).append_left P
set_option maxHeartbeats 4000000 in
set_option maxRecDepth 100000 in
theorem cw_new (g : zG) (a f1 : Nat) (q1 q2 q3 q4 q5 q6 q7 q8 q9 : Nat → Nat) : (((((((((((([(a, .inr (6, [.ref (q1 0), .ref (q2 0), .ref (q3 0), .ref (q3 (0 + 2)), .ref (q4 0), .ref (q5 0), .ref f1, .ref (q6 0), .ref (q7 0), .ref (q8 0), .ref (q9 0), .int 0, .long 0]))] : va_W) ++ LW g q1 0 zT0) ++ RW g q2 0 zR0) ++ RW g q3 0 zR0) ++ OW g q4 0 zM0) ++ OW g q5 0 zM0) ++ ([(f1, .inl (g.2.2.1, 4, .inl (fun _ => 0)))] : va_W)) ++ roCW g q6) ++ OW g q7 0 zM0) ++ OW g q8 0 zM0) ++ HW g q9 0 zU0)).Perm (CW g (qC a f1 q1 q2 q3 q4 q5 q6 q7 q8 q9) zC0) := by
  have e1 : ((((((((((([(a, .inr (6, [.ref (q1 0), .ref (q2 0), .ref (q3 0), .ref (q3 (0 + 2)), .ref (q4 0), .ref (q5 0), .ref f1, .ref (q6 0), .ref (q7 0), .ref (q8 0), .ref (q9 0), .int 0, .long 0]))] : va_W) ++ LW g q1 0 zT0) ++ RW g q2 0 zR0) ++ RW g q3 0 zR0) ++ OW g q4 0 zM0) ++ OW g q5 0 zM0) ++ ([(f1, .inl (g.2.2.1, 4, .inl (fun _ => 0)))] : va_W)) ++ roCW g q6) ++ OW g q7 0 zM0) ++ OW g q8 0 zM0) ++ HW g q9 0 zU0) = ((([(a, .inr (6, [.ref (q1 0), .ref (q2 0), .ref (q3 0), .ref (q3 (0 + 2)), .ref (q4 0), .ref (q5 0), .ref f1, .ref (q6 0), .ref (q7 0), .ref (q8 0), .ref (q9 0), .int 0, .long 0]))] : va_W) ++ (LW g q1 0 zT0 ++ (RW g q2 0 zR0 ++ (RW g q3 0 zR0 ++ (OW g q4 0 zM0 ++ (OW g q5 0 zM0 ++ ([(f1, .inl (g.2.2.1, 4, .inl (fun _ => 0)))] : va_W))))))) ++ (([(q6 0, .inr (5, [.ref (q6 1), .int 0])), (q6 1, .inl (g.2.2.2.2, 14, .inr (.inr (.inr (.inr (fun i => some (q6 (2 + 5 * i))))))))] : va_W) ++ roC g q6 14)) ++ (OW g q7 0 zM0 ++ (OW g q8 0 zM0 ++ HW g q9 0 zU0)) := by
    simp only [List.append_assoc, List.cons_append, List.nil_append, roCW]
  have e3 : (fun i => some ((qC a f1 q1 q2 q3 q4 q5 q6 q7 q8 q9) (50 + 5 * i))) = (fun i => some (q6 (2 + 5 * i))) := by
    funext i
    rw [qC_hi (by omega), show 50 + 5 * i - 48 = 2 + 5 * i by omega]
  have e2 : CW g (qC a f1 q1 q2 q3 q4 q5 q6 q7 q8 q9) zC0 = (([(a, .inr (6, [.ref (q1 0), .ref (q2 0), .ref (q3 0), .ref (q3 (0 + 2)), .ref (q4 0), .ref (q5 0), .ref f1, .ref (q6 0), .ref (q7 0), .ref (q8 0), .ref (q9 0), .int 0, .long 0]))] : va_W) ++ (LW g q1 0 zT0 ++ (RW g q2 0 zR0 ++ (RW g q3 0 zR0 ++ (OW g q4 0 zM0 ++ (OW g q5 0 zM0 ++ ([(f1, .inl (g.2.2.1, 4, .inl (fun _ => 0)))] : va_W))))))) ++ (([(q6 0, .inr (5, [.ref (q6 1), .int 0])), (q6 1, .inl (g.2.2.2.2, 14, .inr (.inr (.inr (.inr (fun i => some (q6 (2 + 5 * i))))))))] : va_W) ++ ((OW g q7 0 zM0 ++ (OW g q8 0 zM0 ++ HW g q9 0 zU0)) ++ roC g q6 14)) := by
    rw [← roC_roW g (qC a f1 q1 q2 q3 q4 q5 q6 q7 q8 q9) q6 (fun i hi => qC_hi hi), ← e3]
    simp only [List.append_assoc, List.cons_append, List.nil_append]
    rfl
  rw [e1, e2]
  exact pm4
abbrev rmX6_init : Room := { frames := 3, cells := 119, slots := 672, locals := 53 }
set_option maxHeartbeats 4000000 in
set_option maxRecDepth 100000 in
theorem c6_init (l : Launch) (g : zG) (a : Nat) : zCT l g yX6_init wsX6_init rmX6_init a 6 [.null, .null, .null, .null, .null, .null, .null, .null, .null, .null, .null, .int 0, .long 0] (fun q => CW g q zC0) 119 672 := by
  refine zCT_of (cc := cX6_init) (maxL := 1) (by decide) rfl (Nat.le_of_ble_eq_true rfl) rfl ?_
  intro p e s m args below meth c A H locs ls hx hb hr hml hts hown hlk hin hK hA hP hD hS hl
  have hown : s.vm.findClass RX6 = some m.cls := hown
  have hl : lv_has ls 1 [(0, .ref a)] := hl
  have inX6 : ∀ w ∈ wsX60, w ∈ wsX6_init := fun _ h => List.mem_cons_of_mem _ (List.mem_append_left _ (List.mem_append_left _ (List.mem_append_left _ (List.mem_append_left _ (List.mem_append_left _ (List.mem_append_right _ h))))))
  have inX1 : ∀ w ∈ wsX10, w ∈ wsX6_init := fun _ h => List.mem_cons_of_mem _ (List.mem_append_left _ (List.mem_append_left _ (List.mem_append_left _ (List.mem_append_left _ (List.mem_append_left _ (List.mem_append_left _ (List.mem_append_right _ h)))))))
  have inX4 : ∀ w ∈ wsX40, w ∈ wsX6_init := fun _ h => List.mem_cons_of_mem _ (List.mem_append_left _ (List.mem_append_left _ (List.mem_append_left _ (List.mem_append_left _ (List.mem_append_right _ h)))))
  have inX2 : ∀ w ∈ wsX20, w ∈ wsX6_init := fun _ h => List.mem_cons_of_mem _ (List.mem_append_left _ (List.mem_append_left _ (List.mem_append_left _ (List.mem_append_right _ h))))
  have inX5 : ∀ w ∈ wsX50, w ∈ wsX6_init := fun _ h => List.mem_cons_of_mem _ (List.mem_append_left _ (List.mem_append_left _ (List.mem_append_right _ h)))
  have inX0 : ∀ w ∈ wsX00, w ∈ wsX6_init := fun _ h => List.mem_cons_of_mem _ (List.mem_append_left _ (List.mem_append_right _ h))
  refine lv_aload_n hx hb dX6_init_0 rfl (lv_at hl 0 rfl) ?_
  refine W.objInit hx hb hown (hts (.methodLink RX6 1 objectInit) (List.mem_of_getElem? (i := 1) rfl)) (hts (.instanceMethod objectInit) (List.mem_of_getElem? (i := 2) rfl)) (hts (.code objectInit ⟨#[0xb1]⟩ 1 none) (List.mem_of_getElem? (i := 3) rfl)) rfl (by rw [hml]; exact hl.1) rfl dX6_init_1 (Nat.le_of_ble_eq_true rfl) (Nat.le_of_ble_eq_true rfl) ?_
  refine W.eq (g2 := F0 m 4 ls []) rfl ?_
  refine lv_aload_n hx hb dX6_init_4 rfl (lv_at hl 0 rfl) ?_
  refine va_new (ci := 1) (fs := [.null, .int 0]) (C := RX1) (T := TX1) (N := 2) hx hb hts inX1 tyX1 tyX1_ok hown (hts (.classLink RX6 7 RX1) (List.mem_of_getElem? (i := 4) rfl)) (hts (.instantiable RX1 2) (List.mem_of_getElem? (i := 5) rfl)) (hts (.initialized RX1) (List.mem_of_getElem? (i := 6) rfl)) hK.1.1 hP hD hS hA rfl (fun j hj => by rcases (show j = 0 ∨ j = 1 by omega) with rfl | rfl <;> rfl) (Nat.le_of_ble_eq_true rfl) (Nat.le_of_ble_eq_true rfl) dX6_init_5 (fun b1 H hP hD hS => ?_)
  refine W.widen (k := 1) (n := 2) (by decide) (by decide) ?_
  refine lv_dup hx hb dX6_init_8 rfl ?_
  refine z_cgo (va_runIN (As := []) (rest := [.ref b1, .ref a]) ⟨hx, hb, hml, hown, hts⟩ ((c1_init l g b1) H.size) ⟨va_cnB 0 hts gX6_init_X1_init_n9 rfl rfl rfl (hK.1.nest 0 rfl) (hts (.initialized RX1) (List.mem_of_getElem? (i := 6) rfl)) (by decide +kernel) ⟨Nat.le_of_ble_eq_true rfl, Nat.le_of_ble_eq_true rfl⟩, rfl, hts (.instanceMethod yX1_init) (List.mem_of_getElem? (i := 32) rfl)⟩ (z_cpre hP hK hD) rfl rfl hl.1 rfl (lv_room (Nat.le_of_ble_eq_true rfl)) dX6_init_9 ⟨Nat.le_of_ble_eq_true rfl, Nat.le_of_ble_eq_true rfl⟩) hP hD hS hA (fun q1 H locs hq1 hP hD hS => ?_)
  rw [← hq1]
  refine W.widen (k := 2) (n := 62) (by decide) (by decide) ?_
  refine z_putF (ci := 6) (v := .ref (q1 0)) (C := RX6) (T := TX6) (N := 13) (ws' := (([(a, .inr (6, [.ref (q1 0), .null, .null, .null, .null, .null, .null, .null, .null, .null, .null, .int 0, .long 0]))] : va_W) ++ LW g q1 0 zT0)) hx hb hts inX6 tyX6 tyX6_ok nmX6 hown hK.1 hP hD hS 0 rfl rfl 0 (by decide) (List.mem_of_getElem? (i := 7) rfl) rfl rfl hin rfl rfl rfl (Nat.le_of_ble_eq_true rfl) rfl dX6_init_12 (fun H locs hP hD hS => ?_)
  refine lv_aload_n hx hb dX6_init_15 rfl (lv_at hl 0 rfl) ?_
  refine va_new (ci := 4) (fs := [.null, .null, .int 0, .int 0]) (C := RX4) (T := TX4) (N := 4) hx hb hts inX4 tyX4 tyX4_ok hown (hts (.classLink RX6 16 RX4) (List.mem_of_getElem? (i := 8) rfl)) (hts (.instantiable RX4 4) (List.mem_of_getElem? (i := 9) rfl)) (hts (.initialized RX4) (List.mem_of_getElem? (i := 10) rfl)) hK.1.1 hP hD hS hA rfl (fun j hj => by rcases (show j = 0 ∨ j = 1 ∨ j = 2 ∨ j = 3 by omega) with rfl | rfl | rfl | rfl <;> rfl) (Nat.le_of_ble_eq_true rfl) (Nat.le_of_ble_eq_true rfl) dX6_init_16 (fun b2 H hP hD hS => ?_)
  refine W.widen (k := 3) (n := 66) (by decide) (by decide) ?_
  refine lv_dup hx hb dX6_init_19 rfl ?_
  refine z_cgo (va_runIN (As := []) (rest := [.ref b2, .ref a]) ⟨hx, hb, hml, hown, hts⟩ ((c4_init l g b2) H.size) ⟨va_cnB 0 hts gX6_init_X4_init_n18 rfl rfl rfl (hK.1.nest 1 rfl) (hts (.initialized RX4) (List.mem_of_getElem? (i := 10) rfl)) (by decide +kernel) ⟨Nat.le_of_ble_eq_true rfl, Nat.le_of_ble_eq_true rfl⟩, rfl, hts (.instanceMethod yX4_init) (List.mem_of_getElem? (i := 36) rfl)⟩ (z_cpre hP hK hD) rfl rfl hl.1 rfl (lv_room (Nat.le_of_ble_eq_true rfl)) dX6_init_20 ⟨Nat.le_of_ble_eq_true rfl, Nat.le_of_ble_eq_true rfl⟩) hP hD hS hA (fun q2 H locs hq2 hP hD hS => ?_)
  rw [← hq2]
  refine W.widen (k := 12) (n := 121) (by decide) (by decide) ?_
  refine z_putF (ci := 6) (v := .ref (q2 0)) (C := RX6) (T := TX6) (N := 13) (ws' := ((([(a, .inr (6, [.ref (q1 0), .ref (q2 0), .null, .null, .null, .null, .null, .null, .null, .null, .null, .int 0, .long 0]))] : va_W) ++ LW g q1 0 zT0) ++ RW g q2 0 zR0)) hx hb hts inX6 tyX6 tyX6_ok nmX6 hown hK.1 hP hD hS 0 rfl rfl 1 (by decide) (List.mem_of_getElem? (i := 11) rfl) rfl rfl hin rfl rfl rfl (Nat.le_of_ble_eq_true rfl) rfl dX6_init_23 (fun H locs hP hD hS => ?_)
  refine lv_aload_n hx hb dX6_init_26 rfl (lv_at hl 0 rfl) ?_
  refine va_new (ci := 4) (fs := [.null, .null, .int 0, .int 0]) (C := RX4) (T := TX4) (N := 4) hx hb hts inX4 tyX4 tyX4_ok hown (hts (.classLink RX6 16 RX4) (List.mem_of_getElem? (i := 8) rfl)) (hts (.instantiable RX4 4) (List.mem_of_getElem? (i := 9) rfl)) (hts (.initialized RX4) (List.mem_of_getElem? (i := 10) rfl)) hK.1.1 hP hD hS hA rfl (fun j hj => by rcases (show j = 0 ∨ j = 1 ∨ j = 2 ∨ j = 3 by omega) with rfl | rfl | rfl | rfl <;> rfl) (Nat.le_of_ble_eq_true rfl) (Nat.le_of_ble_eq_true rfl) dX6_init_27 (fun b3 H hP hD hS => ?_)
  refine W.widen (k := 13) (n := 125) (by decide) (by decide) ?_
  refine lv_dup hx hb dX6_init_30 rfl ?_
  refine z_cgo (va_runIN (As := []) (rest := [.ref b3, .ref a]) ⟨hx, hb, hml, hown, hts⟩ ((c4_init l g b3) H.size) ⟨va_cnB 0 hts gX6_init_X4_init_n18 rfl rfl rfl (hK.1.nest 1 rfl) (hts (.initialized RX4) (List.mem_of_getElem? (i := 10) rfl)) (by decide +kernel) ⟨Nat.le_of_ble_eq_true rfl, Nat.le_of_ble_eq_true rfl⟩, rfl, hts (.instanceMethod yX4_init) (List.mem_of_getElem? (i := 36) rfl)⟩ (z_cpre hP hK hD) rfl rfl hl.1 rfl (lv_room (Nat.le_of_ble_eq_true rfl)) dX6_init_31 ⟨Nat.le_of_ble_eq_true rfl, Nat.le_of_ble_eq_true rfl⟩) hP hD hS hA (fun q3 H locs hq3 hP hD hS => ?_)
  rw [← hq3]
  refine W.widen (k := 22) (n := 180) (by decide) (by decide) ?_
  refine z_putF (ci := 6) (v := .ref (q3 0)) (C := RX6) (T := TX6) (N := 13) (ws' := (((([(a, .inr (6, [.ref (q1 0), .ref (q2 0), .ref (q3 0), .null, .null, .null, .null, .null, .null, .null, .null, .int 0, .long 0]))] : va_W) ++ LW g q1 0 zT0) ++ RW g q2 0 zR0) ++ RW g q3 0 zR0)) hx hb hts inX6 tyX6 tyX6_ok nmX6 hown hK.1 hP hD hS 0 rfl rfl 2 (by decide) (List.mem_of_getElem? (i := 12) rfl) rfl rfl hin rfl rfl rfl (Nat.le_of_ble_eq_true rfl) rfl dX6_init_34 (fun H locs hP hD hS => ?_)
  refine lv_aload_n hx hb dX6_init_37 rfl (lv_at hl 0 rfl) ?_
  refine lv_aload_n hx hb dX6_init_38 rfl (lv_at hl 0 rfl) ?_
  refine z_get (ci := 6) (v := .ref (q3 0)) (C := RX6) (T := TX6) (N := 13) hx hb hts inX6 hown hK.1 hP 0 rfl rfl 2 (by decide) (List.mem_of_getElem? (i := 12) rfl) rfl rfl dX6_init_39 ?_
  refine z_get (ci := 4) (v := .ref (q3 (0 + 2))) (C := RX4) (T := TX4) (N := 4) hx hb hts inX4 hown hK.1 hP 13 rfl rfl 0 (by decide) (List.mem_of_getElem? (i := 13) rfl) rfl rfl dX6_init_42 ?_
  refine z_putF (ci := 6) (v := .ref (q3 (0 + 2))) (C := RX6) (T := TX6) (N := 13) (ws' := (((([(a, .inr (6, [.ref (q1 0), .ref (q2 0), .ref (q3 0), .ref (q3 (0 + 2)), .null, .null, .null, .null, .null, .null, .null, .int 0, .long 0]))] : va_W) ++ LW g q1 0 zT0) ++ RW g q2 0 zR0) ++ RW g q3 0 zR0)) hx hb hts inX6 tyX6 tyX6_ok nmX6 hown hK.1 hP hD hS 0 rfl rfl 3 (by decide) (List.mem_of_getElem? (i := 14) rfl) rfl rfl hin rfl rfl rfl (Nat.le_of_ble_eq_true rfl) rfl dX6_init_45 (fun H locs hP hD hS => ?_)
  refine lv_aload_n hx hb dX6_init_48 rfl (lv_at hl 0 rfl) ?_
  refine va_new (ci := 2) (fs := [.null, .null, .null, .null, .int 0, .int 0, .int 0, .int 0, .int 0]) (C := RX2) (T := TX2) (N := 9) hx hb hts inX2 tyX2 tyX2_ok hown (hts (.classLink RX6 31 RX2) (List.mem_of_getElem? (i := 15) rfl)) (hts (.instantiable RX2 9) (List.mem_of_getElem? (i := 16) rfl)) (hts (.initialized RX2) (List.mem_of_getElem? (i := 17) rfl)) hK.1.1 hP hD hS hA rfl (fun j hj => by rcases (show j = 0 ∨ j = 1 ∨ j = 2 ∨ j = 3 ∨ j = 4 ∨ j = 5 ∨ j = 6 ∨ j = 7 ∨ j = 8 by omega) with rfl | rfl | rfl | rfl | rfl | rfl | rfl | rfl | rfl <;> rfl) (Nat.le_of_ble_eq_true rfl) (Nat.le_of_ble_eq_true rfl) dX6_init_49 (fun b4 H hP hD hS => ?_)
  refine W.widen (k := 23) (n := 189) (by decide) (by decide) ?_
  refine lv_dup hx hb dX6_init_52 rfl ?_
  refine z_cgo (va_runIN (As := []) (rest := [.ref b4, .ref a]) ⟨hx, hb, hml, hown, hts⟩ ((c2_init l g b4) H.size) ⟨va_cnB 0 hts gX6_init_X2_init_n33 rfl rfl rfl (hK.1.nest 3 rfl) (hts (.initialized RX2) (List.mem_of_getElem? (i := 17) rfl)) (by decide +kernel) ⟨Nat.le_of_ble_eq_true rfl, Nat.le_of_ble_eq_true rfl⟩, rfl, hts (.instanceMethod yX2_init) (List.mem_of_getElem? (i := 54) rfl)⟩ (z_cpre hP hK hD) rfl rfl hl.1 rfl (lv_room (Nat.le_of_ble_eq_true rfl)) dX6_init_53 ⟨Nat.le_of_ble_eq_true rfl, Nat.le_of_ble_eq_true rfl⟩) hP hD hS hA (fun q4 H locs hq4 hP hD hS => ?_)
  rw [← hq4]
  refine W.widen (k := 27) (n := 205) (by decide) (by decide) ?_
  refine z_putF (ci := 6) (v := .ref (q4 0)) (C := RX6) (T := TX6) (N := 13) (ws' := ((((([(a, .inr (6, [.ref (q1 0), .ref (q2 0), .ref (q3 0), .ref (q3 (0 + 2)), .ref (q4 0), .null, .null, .null, .null, .null, .null, .int 0, .long 0]))] : va_W) ++ LW g q1 0 zT0) ++ RW g q2 0 zR0) ++ RW g q3 0 zR0) ++ OW g q4 0 zM0)) hx hb hts inX6 tyX6 tyX6_ok nmX6 hown hK.1 hP hD hS 0 rfl rfl 4 (by decide) (List.mem_of_getElem? (i := 18) rfl) rfl rfl hin rfl rfl rfl (Nat.le_of_ble_eq_true rfl) rfl dX6_init_56 (fun H locs hP hD hS => ?_)
  refine lv_aload_n hx hb dX6_init_59 rfl (lv_at hl 0 rfl) ?_
  refine va_new (ci := 2) (fs := [.null, .null, .null, .null, .int 0, .int 0, .int 0, .int 0, .int 0]) (C := RX2) (T := TX2) (N := 9) hx hb hts inX2 tyX2 tyX2_ok hown (hts (.classLink RX6 31 RX2) (List.mem_of_getElem? (i := 15) rfl)) (hts (.instantiable RX2 9) (List.mem_of_getElem? (i := 16) rfl)) (hts (.initialized RX2) (List.mem_of_getElem? (i := 17) rfl)) hK.1.1 hP hD hS hA rfl (fun j hj => by rcases (show j = 0 ∨ j = 1 ∨ j = 2 ∨ j = 3 ∨ j = 4 ∨ j = 5 ∨ j = 6 ∨ j = 7 ∨ j = 8 by omega) with rfl | rfl | rfl | rfl | rfl | rfl | rfl | rfl | rfl <;> rfl) (Nat.le_of_ble_eq_true rfl) (Nat.le_of_ble_eq_true rfl) dX6_init_60 (fun b5 H hP hD hS => ?_)
  refine W.widen (k := 28) (n := 214) (by decide) (by decide) ?_
  refine lv_dup hx hb dX6_init_63 rfl ?_
  refine z_cgo (va_runIN (As := []) (rest := [.ref b5, .ref a]) ⟨hx, hb, hml, hown, hts⟩ ((c2_init l g b5) H.size) ⟨va_cnB 0 hts gX6_init_X2_init_n33 rfl rfl rfl (hK.1.nest 3 rfl) (hts (.initialized RX2) (List.mem_of_getElem? (i := 17) rfl)) (by decide +kernel) ⟨Nat.le_of_ble_eq_true rfl, Nat.le_of_ble_eq_true rfl⟩, rfl, hts (.instanceMethod yX2_init) (List.mem_of_getElem? (i := 54) rfl)⟩ (z_cpre hP hK hD) rfl rfl hl.1 rfl (lv_room (Nat.le_of_ble_eq_true rfl)) dX6_init_64 ⟨Nat.le_of_ble_eq_true rfl, Nat.le_of_ble_eq_true rfl⟩) hP hD hS hA (fun q5 H locs hq5 hP hD hS => ?_)
  rw [← hq5]
  refine W.widen (k := 32) (n := 230) (by decide) (by decide) ?_
  refine z_putF (ci := 6) (v := .ref (q5 0)) (C := RX6) (T := TX6) (N := 13) (ws' := (((((([(a, .inr (6, [.ref (q1 0), .ref (q2 0), .ref (q3 0), .ref (q3 (0 + 2)), .ref (q4 0), .ref (q5 0), .null, .null, .null, .null, .null, .int 0, .long 0]))] : va_W) ++ LW g q1 0 zT0) ++ RW g q2 0 zR0) ++ RW g q3 0 zR0) ++ OW g q4 0 zM0) ++ OW g q5 0 zM0)) hx hb hts inX6 tyX6 tyX6_ok nmX6 hown hK.1 hP hD hS 0 rfl rfl 5 (by decide) (List.mem_of_getElem? (i := 19) rfl) rfl rfl hin rfl rfl rfl (Nat.le_of_ble_eq_true rfl) rfl dX6_init_67 (fun H locs hP hD hS => ?_)
  refine lv_aload_n hx hb dX6_init_70 rfl (lv_at hl 0 rfl) ?_
  refine lv_iconst (v := 4) hx hb dX6_init_71 (by decide) ?_
  refine z_newi hx hb (hts (.arrayClass .int) (List.mem_of_getElem? (i := 20) rfl)) hK.1 hP hD hS hA 4 (by decide) rfl (by decide) (Nat.le_of_ble_eq_true rfl) (Nat.le_of_ble_eq_true rfl) dX6_init_72 (fun f1 H hP hD hS => ?_)
  refine W.widen (k := 33) (n := 234) (by decide) (by decide) ?_
  refine z_putF (ci := 6) (v := .ref f1) (C := RX6) (T := TX6) (N := 13) (ws' := ((((((([(a, .inr (6, [.ref (q1 0), .ref (q2 0), .ref (q3 0), .ref (q3 (0 + 2)), .ref (q4 0), .ref (q5 0), .ref f1, .null, .null, .null, .null, .int 0, .long 0]))] : va_W) ++ LW g q1 0 zT0) ++ RW g q2 0 zR0) ++ RW g q3 0 zR0) ++ OW g q4 0 zM0) ++ OW g q5 0 zM0) ++ ([(f1, .inl (g.2.2.1, 4, .inl (fun _ => 0)))] : va_W))) hx hb hts inX6 tyX6 tyX6_ok nmX6 hown hK.1 hP hD hS 0 rfl rfl 6 (by decide) (List.mem_of_getElem? (i := 21) rfl) rfl rfl hin rfl rfl rfl (Nat.le_of_ble_eq_true rfl) rfl dX6_init_74 (fun H locs hP hD hS => ?_)
  refine lv_aload_n hx hb dX6_init_77 rfl (lv_at hl 0 rfl) ?_
  refine va_new (ci := 5) (fs := [.null, .int 0]) (C := RX5) (T := TX5) (N := 2) hx hb hts inX5 tyX5 tyX5_ok hown (hts (.classLink RX6 45 RX5) (List.mem_of_getElem? (i := 22) rfl)) (hts (.instantiable RX5 2) (List.mem_of_getElem? (i := 23) rfl)) (hts (.initialized RX5) (List.mem_of_getElem? (i := 24) rfl)) hK.1.1 hP hD hS hA rfl (fun j hj => by rcases (show j = 0 ∨ j = 1 by omega) with rfl | rfl <;> rfl) (Nat.le_of_ble_eq_true rfl) (Nat.le_of_ble_eq_true rfl) dX6_init_78 (fun b6 H hP hD hS => ?_)
  refine W.widen (k := 34) (n := 236) (by decide) (by decide) ?_
  refine lv_dup hx hb dX6_init_81 rfl ?_
  refine z_cgo (va_runI (As := []) (rest := [.ref b6, .ref a]) ⟨hx, hb, hml, hown, hts⟩ ((c5_init l g b6) H.size) (cwI 0 hts gX6_init_X5_init rfl rfl rfl (hts (.initialized RX5) (List.mem_of_getElem? (i := 24) rfl)) (hts (.methodLink RX6 47 yX5_init) (List.mem_of_getElem? (i := 61) rfl)) (hts (.instanceMethod yX5_init) (List.mem_of_getElem? (i := 62) rfl)) rfl (by decide +kernel) ⟨Nat.le_of_ble_eq_true rfl, Nat.le_of_ble_eq_true rfl⟩) (z_cpre hP hK hD) rfl rfl hl.1 rfl (lv_room (Nat.le_of_ble_eq_true rfl)) dX6_init_82 ⟨Nat.le_of_ble_eq_true rfl, Nat.le_of_ble_eq_true rfl⟩) hP hD hS hA (fun q6 H locs hq6 hP hD hS => ?_)
  rw [← hq6]
  refine W.widen (k := 105) (n := 600) (by decide) (by decide) ?_
  refine z_putF (ci := 6) (v := .ref (q6 0)) (C := RX6) (T := TX6) (N := 13) (ws' := (((((((([(a, .inr (6, [.ref (q1 0), .ref (q2 0), .ref (q3 0), .ref (q3 (0 + 2)), .ref (q4 0), .ref (q5 0), .ref f1, .ref (q6 0), .null, .null, .null, .int 0, .long 0]))] : va_W) ++ LW g q1 0 zT0) ++ RW g q2 0 zR0) ++ RW g q3 0 zR0) ++ OW g q4 0 zM0) ++ OW g q5 0 zM0) ++ ([(f1, .inl (g.2.2.1, 4, .inl (fun _ => 0)))] : va_W)) ++ roCW g q6)) hx hb hts inX6 tyX6 tyX6_ok nmX6 hown hK.1 hP hD hS 0 rfl rfl 7 (by decide) (List.mem_of_getElem? (i := 25) rfl) rfl rfl hin rfl rfl rfl (Nat.le_of_ble_eq_true rfl) rfl dX6_init_85 (fun H locs hP hD hS => ?_)
  refine lv_aload_n hx hb dX6_init_88 rfl (lv_at hl 0 rfl) ?_
  refine va_new (ci := 2) (fs := [.null, .null, .null, .null, .int 0, .int 0, .int 0, .int 0, .int 0]) (C := RX2) (T := TX2) (N := 9) hx hb hts inX2 tyX2 tyX2_ok hown (hts (.classLink RX6 31 RX2) (List.mem_of_getElem? (i := 15) rfl)) (hts (.instantiable RX2 9) (List.mem_of_getElem? (i := 16) rfl)) (hts (.initialized RX2) (List.mem_of_getElem? (i := 17) rfl)) hK.1.1 hP hD hS hA rfl (fun j hj => by rcases (show j = 0 ∨ j = 1 ∨ j = 2 ∨ j = 3 ∨ j = 4 ∨ j = 5 ∨ j = 6 ∨ j = 7 ∨ j = 8 by omega) with rfl | rfl | rfl | rfl | rfl | rfl | rfl | rfl | rfl <;> rfl) (Nat.le_of_ble_eq_true rfl) (Nat.le_of_ble_eq_true rfl) dX6_init_89 (fun b7 H hP hD hS => ?_)
  refine W.widen (k := 106) (n := 609) (by decide) (by decide) ?_
  refine lv_dup hx hb dX6_init_92 rfl ?_
  refine z_cgo (va_runIN (As := []) (rest := [.ref b7, .ref a]) ⟨hx, hb, hml, hown, hts⟩ ((c2_init l g b7) H.size) ⟨va_cnB 0 hts gX6_init_X2_init_n33 rfl rfl rfl (hK.1.nest 3 rfl) (hts (.initialized RX2) (List.mem_of_getElem? (i := 17) rfl)) (by decide +kernel) ⟨Nat.le_of_ble_eq_true rfl, Nat.le_of_ble_eq_true rfl⟩, rfl, hts (.instanceMethod yX2_init) (List.mem_of_getElem? (i := 54) rfl)⟩ (z_cpre hP hK hD) rfl rfl hl.1 rfl (lv_room (Nat.le_of_ble_eq_true rfl)) dX6_init_93 ⟨Nat.le_of_ble_eq_true rfl, Nat.le_of_ble_eq_true rfl⟩) hP hD hS hA (fun q7 H locs hq7 hP hD hS => ?_)
  rw [← hq7]
  refine W.widen (k := 110) (n := 625) (by decide) (by decide) ?_
  refine z_putF (ci := 6) (v := .ref (q7 0)) (C := RX6) (T := TX6) (N := 13) (ws' := ((((((((([(a, .inr (6, [.ref (q1 0), .ref (q2 0), .ref (q3 0), .ref (q3 (0 + 2)), .ref (q4 0), .ref (q5 0), .ref f1, .ref (q6 0), .ref (q7 0), .null, .null, .int 0, .long 0]))] : va_W) ++ LW g q1 0 zT0) ++ RW g q2 0 zR0) ++ RW g q3 0 zR0) ++ OW g q4 0 zM0) ++ OW g q5 0 zM0) ++ ([(f1, .inl (g.2.2.1, 4, .inl (fun _ => 0)))] : va_W)) ++ roCW g q6) ++ OW g q7 0 zM0)) hx hb hts inX6 tyX6 tyX6_ok nmX6 hown hK.1 hP hD hS 0 rfl rfl 8 (by decide) (List.mem_of_getElem? (i := 26) rfl) rfl rfl hin rfl rfl rfl (Nat.le_of_ble_eq_true rfl) rfl dX6_init_96 (fun H locs hP hD hS => ?_)
  refine lv_aload_n hx hb dX6_init_99 rfl (lv_at hl 0 rfl) ?_
  refine va_new (ci := 2) (fs := [.null, .null, .null, .null, .int 0, .int 0, .int 0, .int 0, .int 0]) (C := RX2) (T := TX2) (N := 9) hx hb hts inX2 tyX2 tyX2_ok hown (hts (.classLink RX6 31 RX2) (List.mem_of_getElem? (i := 15) rfl)) (hts (.instantiable RX2 9) (List.mem_of_getElem? (i := 16) rfl)) (hts (.initialized RX2) (List.mem_of_getElem? (i := 17) rfl)) hK.1.1 hP hD hS hA rfl (fun j hj => by rcases (show j = 0 ∨ j = 1 ∨ j = 2 ∨ j = 3 ∨ j = 4 ∨ j = 5 ∨ j = 6 ∨ j = 7 ∨ j = 8 by omega) with rfl | rfl | rfl | rfl | rfl | rfl | rfl | rfl | rfl <;> rfl) (Nat.le_of_ble_eq_true rfl) (Nat.le_of_ble_eq_true rfl) dX6_init_100 (fun b8 H hP hD hS => ?_)
  refine W.widen (k := 111) (n := 634) (by decide) (by decide) ?_
  refine lv_dup hx hb dX6_init_103 rfl ?_
  refine z_cgo (va_runIN (As := []) (rest := [.ref b8, .ref a]) ⟨hx, hb, hml, hown, hts⟩ ((c2_init l g b8) H.size) ⟨va_cnB 0 hts gX6_init_X2_init_n33 rfl rfl rfl (hK.1.nest 3 rfl) (hts (.initialized RX2) (List.mem_of_getElem? (i := 17) rfl)) (by decide +kernel) ⟨Nat.le_of_ble_eq_true rfl, Nat.le_of_ble_eq_true rfl⟩, rfl, hts (.instanceMethod yX2_init) (List.mem_of_getElem? (i := 54) rfl)⟩ (z_cpre hP hK hD) rfl rfl hl.1 rfl (lv_room (Nat.le_of_ble_eq_true rfl)) dX6_init_104 ⟨Nat.le_of_ble_eq_true rfl, Nat.le_of_ble_eq_true rfl⟩) hP hD hS hA (fun q8 H locs hq8 hP hD hS => ?_)
  rw [← hq8]
  refine W.widen (k := 115) (n := 650) (by decide) (by decide) ?_
  refine z_putF (ci := 6) (v := .ref (q8 0)) (C := RX6) (T := TX6) (N := 13) (ws' := (((((((((([(a, .inr (6, [.ref (q1 0), .ref (q2 0), .ref (q3 0), .ref (q3 (0 + 2)), .ref (q4 0), .ref (q5 0), .ref f1, .ref (q6 0), .ref (q7 0), .ref (q8 0), .null, .int 0, .long 0]))] : va_W) ++ LW g q1 0 zT0) ++ RW g q2 0 zR0) ++ RW g q3 0 zR0) ++ OW g q4 0 zM0) ++ OW g q5 0 zM0) ++ ([(f1, .inl (g.2.2.1, 4, .inl (fun _ => 0)))] : va_W)) ++ roCW g q6) ++ OW g q7 0 zM0) ++ OW g q8 0 zM0)) hx hb hts inX6 tyX6 tyX6_ok nmX6 hown hK.1 hP hD hS 0 rfl rfl 9 (by decide) (List.mem_of_getElem? (i := 27) rfl) rfl rfl hin rfl rfl rfl (Nat.le_of_ble_eq_true rfl) rfl dX6_init_107 (fun H locs hP hD hS => ?_)
  refine lv_aload_n hx hb dX6_init_110 rfl (lv_at hl 0 rfl) ?_
  refine va_new (ci := 0) (fs := [.null, .null, .null, .int 0]) (C := RX0) (T := TX0) (N := 4) hx hb hts inX0 tyX0 tyX0_ok hown (hts (.classLink RX6 58 RX0) (List.mem_of_getElem? (i := 28) rfl)) (hts (.instantiable RX0 4) (List.mem_of_getElem? (i := 29) rfl)) (hts (.initialized RX0) (List.mem_of_getElem? (i := 30) rfl)) hK.1.1 hP hD hS hA rfl (fun j hj => by rcases (show j = 0 ∨ j = 1 ∨ j = 2 ∨ j = 3 by omega) with rfl | rfl | rfl | rfl <;> rfl) (Nat.le_of_ble_eq_true rfl) (Nat.le_of_ble_eq_true rfl) dX6_init_111 (fun b9 H hP hD hS => ?_)
  refine W.widen (k := 116) (n := 654) (by decide) (by decide) ?_
  refine lv_dup hx hb dX6_init_114 rfl ?_
  refine z_cgo (va_runIN (As := []) (rest := [.ref b9, .ref a]) ⟨hx, hb, hml, hown, hts⟩ ((c0_init l g b9) H.size) ⟨va_cnB 0 hts gX6_init_X0_init_n60 rfl rfl rfl (hK.1.nest 5 rfl) (hts (.initialized RX0) (List.mem_of_getElem? (i := 30) rfl)) (by decide +kernel) ⟨Nat.le_of_ble_eq_true rfl, Nat.le_of_ble_eq_true rfl⟩, rfl, hts (.instanceMethod yX0_init) (List.mem_of_getElem? (i := 67) rfl)⟩ (z_cpre hP hK hD) rfl rfl hl.1 rfl (lv_room (Nat.le_of_ble_eq_true rfl)) dX6_init_115 ⟨Nat.le_of_ble_eq_true rfl, Nat.le_of_ble_eq_true rfl⟩) hP hD hS hA (fun q9 H locs hq9 hP hD hS => ?_)
  rw [← hq9]
  refine W.widen (k := 119) (n := 672) (by decide) (by decide) ?_
  refine z_putF (ci := 6) (v := .ref (q9 0)) (C := RX6) (T := TX6) (N := 13) (ws' := ((((((((((([(a, .inr (6, [.ref (q1 0), .ref (q2 0), .ref (q3 0), .ref (q3 (0 + 2)), .ref (q4 0), .ref (q5 0), .ref f1, .ref (q6 0), .ref (q7 0), .ref (q8 0), .ref (q9 0), .int 0, .long 0]))] : va_W) ++ LW g q1 0 zT0) ++ RW g q2 0 zR0) ++ RW g q3 0 zR0) ++ OW g q4 0 zM0) ++ OW g q5 0 zM0) ++ ([(f1, .inl (g.2.2.1, 4, .inl (fun _ => 0)))] : va_W)) ++ roCW g q6) ++ OW g q7 0 zM0) ++ OW g q8 0 zM0) ++ HW g q9 0 zU0)) hx hb hts inX6 tyX6 tyX6_ok nmX6 hown hK.1 hP hD hS 0 rfl rfl 10 (by decide) (List.mem_of_getElem? (i := 31) rfl) rfl rfl hin rfl rfl rfl (Nat.le_of_ble_eq_true rfl) rfl dX6_init_118 (fun H locs hP hD hS => ?_)
  have pm := cw_new g a f1 q1 q2 q3 q4 q5 q6 q7 q8 q9
  exact z_cret (qC a f1 q1 q2 q3 q4 q5 q6 q7 q8 q9) hx hb hr hlk rfl (zP_perm hP pm) (zD_perm hD pm) hS dX6_init_121

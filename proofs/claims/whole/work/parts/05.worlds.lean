/-! the worlds: what the cells of each object hold, by a value -/
def FU : Nat := 100
abbrev Mo : Type := (Nat → Int32) × (Nat → Nat → Int32)
abbrev Le : Type := (Nat → Int32) × Int32
abbrev He : Type := (Nat → Nat → Int32) × Int32
abbrev Rd : Type := Mo × (Nat → Int32) × (Nat → Int32)
abbrev MS : Type := (Nat → Int32) × (Nat → Nat → Int32) × Int64
abbrev Cs : Type := (Nat → Mo) × (Nat → Mo) × ((Nat → Nat) × Int32) × Le × Rd × Rd × (Nat → Int32) × He × Int32 × Int64
def sI {β : Type} (S : (Nat → Int32) × β) (k : Nat) (v : Int32) : (Nat → Int32) × β := (upd S.1 k v, S.2)
def sA (S : Mo) (k : Nat) (a : Nat → Int32) : Mo := (S.1, va_up S.2 k a)
def lL (S : Le) (v : Int32) : Le := (S.1, v)
def lA (S : Le) (a : Nat → Int32) : Le := (a, S.2)
def uL (S : He) (v : Int32) : He := (S.1, v)
def uA (S : He) (k : Nat) (a : Nat → Int32) : He := (va_up S.1 k a, S.2)
def rN (S : Rd) (n : Mo) : Rd := (n, S.2)
def rF (S : Rd) (a : Nat → Int32) : Rd := (S.1, a, S.2.2)
def rI (S : Rd) (k : Nat) (v : Int32) : Rd := (S.1, S.2.1, upd S.2.2 k v)
def mA (S : MS) (k : Nat) (a : Nat → Int32) : MS := (S.1, va_up S.2.1 k a, S.2.2)
def mZ (S : MS) (v : Int64) : MS := (S.1, S.2.1, v)
def cM (C : Cs) (i : Nat) (M : Mo) : Cs := (va_up C.1 i M, C.2)
def cRM (C : Cs) (r : Nat → Mo) : Cs := (C.1, r, C.2.2)
def cRo (C : Cs) (r : (Nat → Nat) × Int32) : Cs := (C.1, C.2.1, r, C.2.2.2)
def cRn (C : Cs) (v : Int32) : Cs := (C.1, C.2.1, (C.2.2.1.1, v), C.2.2.2)
def cT (C : Cs) (t : Le) : Cs := (C.1, C.2.1, C.2.2.1, t, C.2.2.2.2)
def cCk (C : Cs) (r : Rd) : Cs := (C.1, C.2.1, C.2.2.1, C.2.2.2.1, r, C.2.2.2.2.2)
def cMk (C : Cs) (r : Rd) : Cs := (C.1, C.2.1, C.2.2.1, C.2.2.2.1, C.2.2.2.2.1, r, C.2.2.2.2.2.2)
def cPs (C : Cs) (f : Nat → Int32) : Cs := (C.1, C.2.1, C.2.2.1, C.2.2.2.1, C.2.2.2.2.1, C.2.2.2.2.2.1, f, C.2.2.2.2.2.2.2)
def cHd (C : Cs) (h : He) : Cs := (C.1, C.2.1, C.2.2.1, C.2.2.2.1, C.2.2.2.2.1, C.2.2.2.2.2.1, C.2.2.2.2.2.2.1, h, C.2.2.2.2.2.2.2.2)
def cKp (C : Cs) (v : Int32) : Cs := (C.1, C.2.1, C.2.2.1, C.2.2.2.1, C.2.2.2.2.1, C.2.2.2.2.2.1, C.2.2.2.2.2.2.1, C.2.2.2.2.2.2.2.1, v, C.2.2.2.2.2.2.2.2.2)
def cCh (C : Cs) (v : Int64) : Cs := (C.1, C.2.1, C.2.2.1, C.2.2.2.1, C.2.2.2.2.1, C.2.2.2.2.2.1, C.2.2.2.2.2.2.1, C.2.2.2.2.2.2.2.1, C.2.2.2.2.2.2.2.2.1, v)
def OW (g : zG) (q : Nat → Nat) (b : Nat) (M : Mo) : va_W := [(q b, .inr (2, [.ref (q (b + 1)), .ref (q (b + 2)), .ref (q (b + 3)), .ref (q (b + 4)), .int (M.1 4), .int (M.1 5), .int (M.1 6), .int (M.1 7), .int (M.1 8)])), (q (b + 1), .inl (g.2.2.1, 4, .inl (M.2 0))), (q (b + 2), .inl (g.2.2.1, 4, .inl (M.2 1))), (q (b + 3), .inl (g.2.2.1, 4, .inl (M.2 2))), (q (b + 4), .inl (g.2.2.1, 4, .inl (M.2 3)))]
def NW (g : zG) (q : Nat → Nat) (b : Nat) (N : Mo) : va_W := [(q b, .inr (3, [.int (N.1 0), .int (N.1 1), .int (N.1 2), .int (N.1 3), .int (N.1 4), .int (N.1 5), .ref (q (b + 1)), .ref (q (b + 2)), .ref (q (b + 3)), .ref (q (b + 4)), .ref (q (b + 5)), .ref (q (b + 6)), .ref (q (b + 7))])), (q (b + 1), .inl (g.2.2.1, 6, .inl (N.2 6))), (q (b + 2), .inl (g.2.2.1, 8, .inl (N.2 7))), (q (b + 3), .inl (g.2.2.1, 8, .inl (N.2 8))), (q (b + 4), .inl (g.2.2.1, 4, .inl (N.2 9))), (q (b + 5), .inl (g.2.2.1, 4, .inl (N.2 10))), (q (b + 6), .inl (g.2.2.1, 4, .inl (N.2 11))), (q (b + 7), .inl (g.2.2.1, 4, .inl (N.2 12)))]
def LW (g : zG) (q : Nat → Nat) (b : Nat) (T : Le) : va_W := [(q b, .inr (1, [.ref (q (b + 1)), .int T.2])), (q (b + 1), .inl (g.2.2.1, 60, .inl T.1))]
def HW (g : zG) (q : Nat → Nat) (b : Nat) (U : He) : va_W := [(q b, .inr (0, [.ref (q (b + 1)), .ref (q (b + 2)), .ref (q (b + 3)), .int U.2])), (q (b + 1), .inl (g.2.2.1, 6, .inl (U.1 0))), (q (b + 2), .inl (g.2.2.1, 6, .inl (U.1 1))), (q (b + 3), .inl (g.2.2.1, 6, .inl (U.1 2)))]
def RW (g : zG) (q : Nat → Nat) (b : Nat) (R : Rd) : va_W := (q b, .inr (4, [.ref (q (b + 2)), .ref (q (b + 1)), .int (R.2.2 2), .int (R.2.2 3)])) :: (q (b + 1), .inl (g.2.2.1, 4, .inl R.2.1)) :: NW g q (b + 2) R.1
def AW4 (g : zG) (q : Nat → Nat) (b : Nat) (f : Nat → Int32) : va_W := [(q b, .inl (g.2.2.1, 4, .inl f))]
def mF (q : Nat → Nat) (S : MS) : List Value := [.int (S.1 0), .int (S.1 1), .int (S.1 2), .int (S.1 3), .int (S.1 4), .ref (q 1), .ref (q 2), .ref (q 3), .ref (q 4), .ref (q 5), .ref (q 6), .ref (q 7), .ref (q 8), .ref (q 9), .ref (q 10), .ref (q 11), .int (S.1 16), .int (S.1 17), .int (S.1 18), .ref (q 12), .int (S.1 20), .int (S.1 21), .int (S.1 22), .int (S.1 23), .int (S.1 24), .int (S.1 25), .int (S.1 26), .int (S.1 27), .ref (q 13), .ref (q 14), .int (S.1 30), .ref (q 15), .ref (q 16), .ref (q 17), .long (S.2.2), .ref (q 18), .ref (q 19)]
def MW (g : zG) (q : Nat → Nat) (S : MS) : va_W := [(q 0, .inr (7, mF q S)), (q 1, .inl (g.2.2.1, 6, .inl (S.2.1 5))), (q 2, .inl (g.2.2.1, 6, .inl (S.2.1 6))), (q 3, .inl (g.2.2.1, 16, .inl (S.2.1 7))), (q 4, .inl (g.2.2.1, 4, .inl (S.2.1 8))), (q 5, .inl (g.2.2.1, 4, .inl (S.2.1 9))), (q 6, .inl (g.2.2.1, 4, .inl (S.2.1 10))), (q 7, .inl (g.2.2.1, 38, .inl (S.2.1 11))), (q 8, .inl (g.2.2.1, 12, .inl (S.2.1 12))), (q 9, .inl (g.2.2.1, 16, .inl (S.2.1 13))), (q 10, .inl (g.2.2.1, 16, .inl (S.2.1 14))), (q 11, .inl (g.2.2.1, 6, .inl (S.2.1 15))), (q 12, .inl (g.2.2.1, 60, .inl (S.2.1 19))), (q 13, .inl (g.2.2.1, 266, .inl (S.2.1 28))), (q 14, .inl (g.2.2.1, 4, .inl (S.2.1 29))), (q 15, .inl (g.2.2.1, 6, .inl (S.2.1 31))), (q 16, .inl (g.2.2.1, 6, .inl (S.2.1 32))), (q 17, .inl (g.2.2.1, 6, .inl (S.2.1 33))), (q 18, .inl (g.2.2.2.1, 2, .inl (S.2.1 35))), (q 19, .inl (g.2.2.1, 38, .inl (S.2.1 36)))]
def roW (g : zG) (q : Nat → Nat) (r : Nat → Mo) : va_W := OW g q 50 (r 0) ++ (OW g q 55 (r 1) ++ (OW g q 60 (r 2) ++ (OW g q 65 (r 3) ++ (OW g q 70 (r 4) ++ (OW g q 75 (r 5) ++ (OW g q 80 (r 6) ++ (OW g q 85 (r 7) ++ (OW g q 90 (r 8) ++ (OW g q 95 (r 9) ++ (OW g q 100 (r 10) ++ (OW g q 105 (r 11) ++ (OW g q 110 (r 12) ++ (OW g q 115 (r 13))))))))))))))
def CW (g : zG) (q : Nat → Nat) (C : Cs) : va_W := (q 0, .inr (6, [.ref (q 1), .ref (q 3), .ref (q 13), .ref (q (13 + 2)), .ref (q 23), .ref (q 28), .ref (q 33), .ref (q 34), .ref (q 36), .ref (q 41), .ref (q 46), .int C.2.2.2.2.2.2.2.2.1, .long C.2.2.2.2.2.2.2.2.2])) :: (LW g q 1 C.2.2.2.1 ++ (RW g q 3 C.2.2.2.2.1 ++ (RW g q 13 C.2.2.2.2.2.1 ++ (OW g q 23 (C.1 0) ++ (OW g q 28 (C.1 1) ++ ((q 33, .inl (g.2.2.1, 4, .inl C.2.2.2.2.2.2.1)) :: (q 34, .inr (5, [.ref (q 35), .int C.2.2.1.2])) :: (q 35, .inl (g.2.2.2.2, 14, .inr (.inr (.inr (.inr (fun i => some (q (50 + 5 * C.2.2.1.1 i)))))))) :: (OW g q 36 (C.1 2) ++ (OW g q 41 (C.1 3) ++ (HW g q 46 C.2.2.2.2.2.2.2.1 ++ roW g q C.2.1)))))))))
/-- cell and put: the two that look into a row -/
def f6_cell (n : Nat) (f : Nat → Int32) (i : Int32) : Int32 := if i < 0 then (-9) else if nI n ≤ i then (-9) else f i.toNatClampNeg
def f6_put (n : Nat) (f : Nat → Int32) (i v : Int32) : Nat → Int32 := if i < 0 then f else if nI n ≤ i then f else upd f i.toNatClampNeg v
theorem z_inr {n : Nat} (hn : n < 2 ^ 31) {i : Int32} (h1 : ¬ i < 0) (h2 : ¬ nI n ≤ i) : vp_in i n := by
  rcases pk_ix i hn with h | h | ⟨j, hj, rfl⟩
  · exact absurd h h1
  · exact absurd h h2
  · exact vp_in_nI hj hn
abbrev zr0 : Room := { frames := 0, cells := 0, slots := 0, locals := 0 }
set_option maxHeartbeats 4000000 in
set_option maxRecDepth 100000 in
theorem c6_cell (l : Launch) (g : zG) (a n : Nat) (hn : n < 2 ^ 31) (f : Nat → Int32) (i : Int32) : zRO l g yX6_cell wsX6_cell zr0 [.ref a, .int i] [(a, .inl (g.2.2.1, n, .inl f))] (some (.int (f6_cell n f i))) := by
  refine zRO_of (cc := cX6_cell) (maxL := 2) (ret := (some .int)) (by decide) rfl (Nat.le_of_ble_eq_true rfl) ?_
  intro p e s m args below meth c ls hx hb hr hml hts hown hlk hK hP hl
  have hl : lv_has ls 2 [(0, .ref a), (1, .int i)] := hl
  unfold f6_cell
  refine lv_iload_n hx hb dX6_cell_0 rfl (lv_at hl 1 rfl) ?_
  refine lv_if_lt (tgt := 16) hx hb dX6_cell_1 (by decide) (fun c1 => ?_) (fun c1 => ?_)
  · refine lv_bipush (v := (-9)) hx hb dX6_cell_16 (by decide) ?_
    exact z_ri hx hb hr hlk (by rw [if_pos c1]) dX6_cell_18
  · refine lv_iload_n hx hb dX6_cell_4 rfl (lv_at hl 1 rfl) ?_
    refine lv_aload_n hx hb dX6_cell_5 rfl (lv_at hl 0 rfl) ?_
    refine va_alen (v := nI n) hx hb hK.1 hP 0 0 rfl rfl rfl dX6_cell_6 ?_
    refine lv_icmp_ge (tgt := 16) hx hb dX6_cell_7 (by decide) (fun c2 => ?_) (fun c2 => ?_)
    · refine lv_bipush (v := (-9)) hx hb dX6_cell_16 (by decide) ?_
      exact z_ri hx hb hr hlk (by rw [if_neg c1, if_pos c2]) dX6_cell_18
    · refine lv_aload_n hx hb dX6_cell_10 rfl (lv_at hl 0 rfl) ?_
      refine lv_iload_n hx hb dX6_cell_11 rfl (lv_at hl 1 rfl) ?_
      refine va_iald hx hb hK.1 hP 0 0 rfl rfl (z_inr hn c1 c2) dX6_cell_12 ?_
      refine lv_goto (tgt := 18) hx hb dX6_cell_13 (by decide) ?_
      exact z_ri hx hb hr hlk (by rw [if_neg c1, if_neg c2]) dX6_cell_18
set_option maxHeartbeats 4000000 in
set_option maxRecDepth 100000 in
theorem c6_put (l : Launch) (g : zG) (a n : Nat) (hn : n < 2 ^ 31) (f : Nat → Int32) (i v : Int32) : zRW l g yX6_put wsX6_put zr0 [.ref a, .int i, .int v] [(a, .inl (g.2.2.1, n, .inl f))] none [(a, .inl (g.2.2.1, n, .inl (f6_put n f i v)))] := by
  refine zRW_of (cc := cX6_put) (maxL := 3) (ret := none) (by decide) rfl (Nat.le_of_ble_eq_true rfl) ?_
  intro p e s m args below meth c A H locs ls hx hb hr hml hts hown hlk hK hA hP hD hS hl
  have hl : lv_has ls 3 [(0, .ref a), (1, .int i), (2, .int v)] := hl
  unfold f6_put
  refine lv_iload_n hx hb dX6_put_0 rfl (lv_at hl 1 rfl) ?_
  refine lv_if_lt (tgt := 14) hx hb dX6_put_1 (by decide) (fun c1 => ?_) (fun c1 => ?_)
  · exact z_wv hx hb hr hlk hP hD hS (by rw [if_pos c1]) dX6_put_14
  · refine lv_iload_n hx hb dX6_put_4 rfl (lv_at hl 1 rfl) ?_
    refine lv_aload_n hx hb dX6_put_5 rfl (lv_at hl 0 rfl) ?_
    refine va_alen (v := nI n) hx hb hK.1 hP 0 0 rfl rfl rfl dX6_put_6 ?_
    refine lv_icmp_ge (tgt := 14) hx hb dX6_put_7 (by decide) (fun c2 => ?_) (fun c2 => ?_)
    · exact z_wv hx hb hr hlk hP hD hS (by rw [if_neg c1, if_pos c2]) dX6_put_14
    · refine lv_aload_n hx hb dX6_put_10 rfl (lv_at hl 0 rfl) ?_
      refine lv_iload_n hx hb dX6_put_11 rfl (lv_at hl 1 rfl) ?_
      refine lv_iload_n hx hb dX6_put_12 rfl (lv_at hl 2 rfl) ?_
      refine va_iast hx hb hK.1 hP hD hS 0 0 rfl rfl (z_inr hn c1 c2) dX6_put_13 (fun H locs hP hD hS => ?_)
      exact z_wv hx hb hr hlk hP hD hS (by rw [if_neg c1, if_neg c2]; rfl) dX6_put_14

theorem cwp_0 (g : zG) (q : Nat → Nat) (C : Cs) : (CW g q C)[0]? = some ((q 0), .inr (6, [.ref (q 1), .ref (q 3), .ref (q 13), .ref (q (13 + 2)), .ref (q 23), .ref (q 28), .ref (q 33), .ref (q 34), .ref (q 36), .ref (q 41), .ref (q 46), .int (C.2.2.2.2.2.2.2.2.1), .long (C.2.2.2.2.2.2.2.2.2)])) := rfl
theorem cwm_23_10_40 (g : zG) (q : Nat → Nat) (C : Cs) : [23, 24, 25, 26, 27, 36, 37, 38, 39, 40].map (fun i => (CW g q C)[i]?) = (OW g q 23 (C.1 0) ++ OW g q 36 (C.1 2)).map some := rfl
theorem cww_23_10_40 (g : zG) (q : Nat → Nat) (C : Cs) (n9 : Mo) : wput (CW g q C) [23, 24, 25, 26, 27, 36, 37, 38, 39, 40] (OW g q 23 n9 ++ OW g q 36 (C.1 2)) = CW g q (cM C 0 n9) := rfl
theorem cwp_34 (g : zG) (q : Nat → Nat) (C : Cs) : (CW g q C)[34]? = some ((q 34), .inr (5, [.ref (q 35), .int (C.2.2.1.2)])) := rfl
theorem cwst_34_1 (g : zG) (q : Nat → Nat) (C : Cs) (v : Int32) : (CW g q C).set 34 ((q 34), .inr (5, ([.ref (q 35), .int (C.2.2.1.2)]).set 1 (.int v))) = CW g q (cRn C v) := rfl
theorem cwp_23 (g : zG) (q : Nat → Nat) (C : Cs) : (CW g q C)[23]? = some ((q 23), .inr (2, [.ref (q (23 + 1)), .ref (q (23 + 2)), .ref (q (23 + 3)), .ref (q (23 + 4)), .int ((C.1 0).1 4), .int ((C.1 0).1 5), .int ((C.1 0).1 6), .int ((C.1 0).1 7), .int ((C.1 0).1 8)])) := rfl
theorem cwm_23_10_45 (g : zG) (q : Nat → Nat) (C : Cs) : [23, 24, 25, 26, 27, 41, 42, 43, 44, 45].map (fun i => (CW g q C)[i]?) = (OW g q 23 (C.1 0) ++ OW g q 41 (C.1 3)).map some := rfl
theorem cww_23_10_45 (g : zG) (q : Nat → Nat) (C : Cs) (n9 : Mo) : wput (CW g q C) [23, 24, 25, 26, 27, 41, 42, 43, 44, 45] (OW g q 23 n9 ++ OW g q 41 (C.1 3)) = CW g q (cM C 0 n9) := rfl
theorem cwm_28_10_27 (g : zG) (q : Nat → Nat) (C : Cs) : [28, 29, 30, 31, 32, 23, 24, 25, 26, 27].map (fun i => (CW g q C)[i]?) = (OW g q 28 (C.1 1) ++ OW g q 23 (C.1 0)).map some := rfl
theorem cww_28_10_27 (g : zG) (q : Nat → Nat) (C : Cs) (n9 : Mo) : wput (CW g q C) [28, 29, 30, 31, 32, 23, 24, 25, 26, 27] (OW g q 28 n9 ++ OW g q 23 (C.1 0)) = CW g q (cM C 1 n9) := rfl
theorem cwm_28_13_22 (g : zG) (q : Nat → Nat) (C : Cs) : [28, 29, 30, 31, 32, 15, 16, 17, 18, 19, 20, 21, 22].map (fun i => (CW g q C)[i]?) = (OW g q 28 (C.1 1) ++ NW g q (13 + 2) ((C.2.2.2.2.2.1).1)).map some := rfl
theorem cww_28_13_22 (g : zG) (q : Nat → Nat) (C : Cs) (n9 : Mo) : wput (CW g q C) [28, 29, 30, 31, 32, 15, 16, 17, 18, 19, 20, 21, 22] (OW g q 28 n9 ++ NW g q (13 + 2) ((C.2.2.2.2.2.1).1)) = CW g q (cM C 1 n9) := rfl
theorem cwp_28 (g : zG) (q : Nat → Nat) (C : Cs) : (CW g q C)[28]? = some ((q 28), .inr (2, [.ref (q (28 + 1)), .ref (q (28 + 2)), .ref (q (28 + 3)), .ref (q (28 + 4)), .int ((C.1 1).1 4), .int ((C.1 1).1 5), .int ((C.1 1).1 6), .int ((C.1 1).1 7), .int ((C.1 1).1 8)])) := rfl
theorem cwp_15 (g : zG) (q : Nat → Nat) (C : Cs) : (CW g q C)[15]? = some ((q (13 + 2)), .inr (3, [.int (((C.2.2.2.2.2.1).1).1 0), .int (((C.2.2.2.2.2.1).1).1 1), .int (((C.2.2.2.2.2.1).1).1 2), .int (((C.2.2.2.2.2.1).1).1 3), .int (((C.2.2.2.2.2.1).1).1 4), .int (((C.2.2.2.2.2.1).1).1 5), .ref (q ((13 + 2) + 1)), .ref (q ((13 + 2) + 2)), .ref (q ((13 + 2) + 3)), .ref (q ((13 + 2) + 4)), .ref (q ((13 + 2) + 5)), .ref (q ((13 + 2) + 6)), .ref (q ((13 + 2) + 7))])) := rfl
theorem cwm_28_5_32 (g : zG) (q : Nat → Nat) (C : Cs) : [28, 29, 30, 31, 32].map (fun i => (CW g q C)[i]?) = (OW g q 28 (C.1 1)).map some := rfl
theorem cwp_1 (g : zG) (q : Nat → Nat) (C : Cs) : (CW g q C)[1]? = some ((q 1), .inr (1, [.ref (q (1 + 1)), .int ((C.2.2.2.1).2)])) := rfl
theorem cwm_15_8_22 (g : zG) (q : Nat → Nat) (C : Cs) : [15, 16, 17, 18, 19, 20, 21, 22].map (fun i => (CW g q C)[i]?) = (NW g q (13 + 2) ((C.2.2.2.2.2.1).1)).map some := rfl
theorem cwm_23_13_22 (g : zG) (q : Nat → Nat) (C : Cs) : [23, 24, 25, 26, 27, 15, 16, 17, 18, 19, 20, 21, 22].map (fun i => (CW g q C)[i]?) = (OW g q 23 (C.1 0) ++ NW g q (13 + 2) ((C.2.2.2.2.2.1).1)).map some := rfl
theorem cwp_46 (g : zG) (q : Nat → Nat) (C : Cs) : (CW g q C)[46]? = some ((q 46), .inr (0, [.ref (q (46 + 1)), .ref (q (46 + 2)), .ref (q (46 + 3)), .int ((C.2.2.2.2.2.2.2.1).2)])) := rfl
theorem cwm_3_12_2 (g : zG) (q : Nat → Nat) (C : Cs) : [3, 4, 5, 6, 7, 8, 9, 10, 11, 12, 1, 2].map (fun i => (CW g q C)[i]?) = (RW g q 3 (C.2.2.2.2.1) ++ LW g q 1 (C.2.2.2.1)).map some := rfl
theorem cww_3_12_2 (g : zG) (q : Nat → Nat) (C : Cs) (n9 : Rd) : wput (CW g q C) [3, 4, 5, 6, 7, 8, 9, 10, 11, 12, 1, 2] (RW g q 3 n9 ++ LW g q 1 (C.2.2.2.1)) = CW g q (cCk C n9) := rfl
theorem cwm_33_1_33a (g : zG) (q : Nat → Nat) (C : Cs) : [33].map (fun i => (CW g q C)[i]?) = (AW4 g q 33 (C.2.2.2.2.2.2.1)).map some := rfl
theorem cww_33_1_33a (g : zG) (q : Nat → Nat) (C : Cs) (n9 : (Nat → Int32)) : wput (CW g q C) [33] (AW4 g q 33 n9) = CW g q (cPs C n9) := rfl
theorem cwm_33_1_33 (g : zG) (q : Nat → Nat) (C : Cs) : [33].map (fun i => (CW g q C)[i]?) = [((q 33), .inl (g.2.2.1, 4, .inl (C.2.2.2.2.2.2.1)))].map some := rfl
theorem cwm_29_1_29 (g : zG) (q : Nat → Nat) (C : Cs) : [29].map (fun i => (CW g q C)[i]?) = [((q (28 + 1)), .inl (g.2.2.1, 4, .inl ((C.1 1).2 0)))].map some := rfl
theorem cww_33_1_33 (g : zG) (q : Nat → Nat) (C : Cs) (n9 : (Nat → Int32)) : wput (CW g q C) [33] [((q 33), .inl (g.2.2.1, 4, .inl n9))] = CW g q (cPs C n9) := rfl
theorem cwm_46_4_49 (g : zG) (q : Nat → Nat) (C : Cs) : [46, 47, 48, 49].map (fun i => (CW g q C)[i]?) = (HW g q 46 (C.2.2.2.2.2.2.2.1)).map some := rfl
theorem cww_46_4_49 (g : zG) (q : Nat → Nat) (C : Cs) (n9 : He) : wput (CW g q C) [46, 47, 48, 49] (HW g q 46 n9) = CW g q (cHd C n9) := rfl
theorem cwm_32_1_32 (g : zG) (q : Nat → Nat) (C : Cs) : [32].map (fun i => (CW g q C)[i]?) = [((q (28 + 4)), .inl (g.2.2.1, 4, .inl ((C.1 1).2 3)))].map some := rfl
theorem cww_32_1_32 (g : zG) (q : Nat → Nat) (C : Cs) (n9 : (Nat → Int32)) : wput (CW g q C) [32] [((q (28 + 4)), .inl (g.2.2.1, 4, .inl n9))] = CW g q (cM C 1 (sA (C.1 1) 3 n9)) := rfl
theorem cww_28_5_32 (g : zG) (q : Nat → Nat) (C : Cs) (n9 : Mo) : wput (CW g q C) [28, 29, 30, 31, 32] (OW g q 28 n9) = CW g q (cM C 1 n9) := rfl
theorem cwm_16_1_16 (g : zG) (q : Nat → Nat) (C : Cs) : [16].map (fun i => (CW g q C)[i]?) = [((q ((13 + 2) + 1)), .inl (g.2.2.1, 6, .inl (((C.2.2.2.2.2.1).1).2 6)))].map some := rfl
theorem cwm_36_10_27 (g : zG) (q : Nat → Nat) (C : Cs) : [36, 37, 38, 39, 40, 23, 24, 25, 26, 27].map (fun i => (CW g q C)[i]?) = (OW g q 36 (C.1 2) ++ OW g q 23 (C.1 0)).map some := rfl
theorem cww_36_10_27 (g : zG) (q : Nat → Nat) (C : Cs) (n9 : Mo) : wput (CW g q C) [36, 37, 38, 39, 40, 23, 24, 25, 26, 27] (OW g q 36 n9 ++ OW g q 23 (C.1 0)) = CW g q (cM C 2 n9) := rfl
theorem cwst_0_11 (g : zG) (q : Nat → Nat) (C : Cs) (v : Int32) : (CW g q C).set 0 ((q 0), .inr (6, ([.ref (q 1), .ref (q 3), .ref (q 13), .ref (q (13 + 2)), .ref (q 23), .ref (q 28), .ref (q 33), .ref (q 34), .ref (q 36), .ref (q 41), .ref (q 46), .int (C.2.2.2.2.2.2.2.2.1), .long (C.2.2.2.2.2.2.2.2.2)]).set 11 (.int v))) = CW g q (cKp C v) := rfl
theorem cwm_41_10_27 (g : zG) (q : Nat → Nat) (C : Cs) : [41, 42, 43, 44, 45, 23, 24, 25, 26, 27].map (fun i => (CW g q C)[i]?) = (OW g q 41 (C.1 3) ++ OW g q 23 (C.1 0)).map some := rfl
theorem cww_41_10_27 (g : zG) (q : Nat → Nat) (C : Cs) (n9 : Mo) : wput (CW g q C) [41, 42, 43, 44, 45, 23, 24, 25, 26, 27] (OW g q 41 n9 ++ OW g q 23 (C.1 0)) = CW g q (cM C 3 n9) := rfl
theorem cwm_13_12_2 (g : zG) (q : Nat → Nat) (C : Cs) : [13, 14, 15, 16, 17, 18, 19, 20, 21, 22, 1, 2].map (fun i => (CW g q C)[i]?) = (RW g q 13 (C.2.2.2.2.2.1) ++ LW g q 1 (C.2.2.2.1)).map some := rfl
theorem cww_13_12_2 (g : zG) (q : Nat → Nat) (C : Cs) (n9 : Rd) : wput (CW g q C) [13, 14, 15, 16, 17, 18, 19, 20, 21, 22, 1, 2] (RW g q 13 n9 ++ LW g q 1 (C.2.2.2.1)) = CW g q (cMk C n9) := rfl
theorem cww_23_13_22 (g : zG) (q : Nat → Nat) (C : Cs) (n9 : Mo) : wput (CW g q C) [23, 24, 25, 26, 27, 15, 16, 17, 18, 19, 20, 21, 22] (OW g q 23 n9 ++ NW g q (13 + 2) ((C.2.2.2.2.2.1).1)) = CW g q (cM C 0 n9) := rfl
theorem cwm_17_1_17 (g : zG) (q : Nat → Nat) (C : Cs) : [17].map (fun i => (CW g q C)[i]?) = [((q ((13 + 2) + 2)), .inl (g.2.2.1, 8, .inl (((C.2.2.2.2.2.1).1).2 7)))].map some := rfl
theorem cwm_18_1_18 (g : zG) (q : Nat → Nat) (C : Cs) : [18].map (fun i => (CW g q C)[i]?) = [((q ((13 + 2) + 3)), .inl (g.2.2.1, 8, .inl (((C.2.2.2.2.2.1).1).2 8)))].map some := rfl
theorem cwst_28_4 (g : zG) (q : Nat → Nat) (C : Cs) (v : Int32) : (CW g q C).set 28 ((q 28), .inr (2, ([.ref (q (28 + 1)), .ref (q (28 + 2)), .ref (q (28 + 3)), .ref (q (28 + 4)), .int ((C.1 1).1 4), .int ((C.1 1).1 5), .int ((C.1 1).1 6), .int ((C.1 1).1 7), .int ((C.1 1).1 8)]).set 4 (.int v))) = CW g q (cM C 1 (sI (C.1 1) 4 v)) := rfl
theorem cwst_0_12 (g : zG) (q : Nat → Nat) (C : Cs) (v : Int64) : (CW g q C).set 0 ((q 0), .inr (6, ([.ref (q 1), .ref (q 3), .ref (q 13), .ref (q (13 + 2)), .ref (q 23), .ref (q 28), .ref (q 33), .ref (q 34), .ref (q 36), .ref (q 41), .ref (q 46), .int (C.2.2.2.2.2.2.2.2.1), .long (C.2.2.2.2.2.2.2.2.2)]).set 12 (.long v))) = CW g q (cCh C v) := rfl
theorem cwst_46_3 (g : zG) (q : Nat → Nat) (C : Cs) (v : Int32) : (CW g q C).set 46 ((q 46), .inr (0, ([.ref (q (46 + 1)), .ref (q (46 + 2)), .ref (q (46 + 3)), .int ((C.2.2.2.2.2.2.2.1).2)]).set 3 (.int v))) = CW g q (cHd C (uL (C.2.2.2.2.2.2.2.1) v)) := rfl
theorem cwm_24_1_24 (g : zG) (q : Nat → Nat) (C : Cs) : [24].map (fun i => (CW g q C)[i]?) = [((q (23 + 1)), .inl (g.2.2.1, 4, .inl ((C.1 0).2 0)))].map some := rfl
theorem cwm_25_1_25 (g : zG) (q : Nat → Nat) (C : Cs) : [25].map (fun i => (CW g q C)[i]?) = [((q (23 + 2)), .inl (g.2.2.1, 4, .inl ((C.1 0).2 1)))].map some := rfl
theorem cwm_26_1_26 (g : zG) (q : Nat → Nat) (C : Cs) : [26].map (fun i => (CW g q C)[i]?) = [((q (23 + 3)), .inl (g.2.2.1, 4, .inl ((C.1 0).2 2)))].map some := rfl
theorem cwm_21_1_21 (g : zG) (q : Nat → Nat) (C : Cs) : [21].map (fun i => (CW g q C)[i]?) = [((q ((13 + 2) + 6)), .inl (g.2.2.1, 4, .inl (((C.2.2.2.2.2.1).1).2 11)))].map some := rfl
theorem cwm_22_1_22 (g : zG) (q : Nat → Nat) (C : Cs) : [22].map (fun i => (CW g q C)[i]?) = [((q ((13 + 2) + 7)), .inl (g.2.2.1, 4, .inl (((C.2.2.2.2.2.1).1).2 12)))].map some := rfl
theorem cwm_20_1_20 (g : zG) (q : Nat → Nat) (C : Cs) : [20].map (fun i => (CW g q C)[i]?) = [((q ((13 + 2) + 5)), .inl (g.2.2.1, 4, .inl (((C.2.2.2.2.2.1).1).2 10)))].map some := rfl
theorem cwst_1_1 (g : zG) (q : Nat → Nat) (C : Cs) (v : Int32) : (CW g q C).set 1 ((q 1), .inr (1, ([.ref (q (1 + 1)), .int ((C.2.2.2.1).2)]).set 1 (.int v))) = CW g q (cT C (lL (C.2.2.2.1) v)) := rfl
theorem cwm_1_2_2 (g : zG) (q : Nat → Nat) (C : Cs) : [1, 2].map (fun i => (CW g q C)[i]?) = (LW g q 1 (C.2.2.2.1)).map some := rfl
theorem cww_1_2_2 (g : zG) (q : Nat → Nat) (C : Cs) (n9 : Le) : wput (CW g q C) [1, 2] (LW g q 1 n9) = CW g q (cT C n9) := rfl
theorem cwm_23_5_27 (g : zG) (q : Nat → Nat) (C : Cs) : [23, 24, 25, 26, 27].map (fun i => (CW g q C)[i]?) = (OW g q 23 (C.1 0)).map some := rfl
theorem cww_23_5_27 (g : zG) (q : Nat → Nat) (C : Cs) (n9 : Mo) : wput (CW g q C) [23, 24, 25, 26, 27] (OW g q 23 n9) = CW g q (cM C 0 n9) := rfl

theorem dX4_addPart_94 : decode cX4_addPart 94 = .ok (.aload_n 0, 1) := by decide +kernel
theorem dX4_addPart_95 : decode cX4_addPart 95 = .ok (.getfield 12, 3) := by decide +kernel
theorem dX4_addPart_98 : decode cX4_addPart 98 = .ok (.iload_n 1, 1) := by decide +kernel
theorem dX4_addPart_99 : decode cX4_addPart 99 = .ok (.iload_n 2, 1) := by decide +kernel
theorem dX4_addPart_100 : decode cX4_addPart 100 = .ok (.invokevirtual 97, 3) := by decide +kernel
theorem dX4_addPart_103 : decode cX4_addPart 103 = .ok (.return_, 1) := by decide +kernel
set_option maxRecDepth 20000 in
theorem ggX5_init_X2_init : GoodIn wsX5_init wsX2_init := goodIn_r _ [9, 10, 2, 3, 11, 12, 13, 14, 15, 18, 19, 20, 21, 22, 23, 24, 25, 26] (by decide +kernel) (by decide +kernel)
set_option maxRecDepth 20000 in
theorem gX5_init_X2_init_n17 : GoodIn wsX5_init (wsX2_init) := ggX5_init_X2_init
theorem dX5_init_0 : decode cX5_init 0 = .ok (.aload_n 0, 1) := by decide +kernel
theorem dX5_init_1 : decode cX5_init 1 = .ok (.invokespecial 3, 3) := by decide +kernel
theorem dX5_init_4 : decode cX5_init 4 = .ok (.aload_n 0, 1) := by decide +kernel
theorem dX5_init_5 : decode cX5_init 5 = .ok (.bipush 14, 2) := by decide +kernel
theorem dX5_init_7 : decode cX5_init 7 = .ok (.anewarray 9, 3) := by decide +kernel
theorem dX5_init_10 : decode cX5_init 10 = .ok (.putfield 11, 3) := by decide +kernel
theorem dX5_init_13 : decode cX5_init 13 = .ok (.iconst 0, 1) := by decide +kernel
theorem dX5_init_14 : decode cX5_init 14 = .ok (.istore_n 1, 1) := by decide +kernel
theorem dX5_init_15 : decode cX5_init 15 = .ok (.iload_n 1, 1) := by decide +kernel
theorem dX5_init_16 : decode cX5_init 16 = .ok (.aload_n 0, 1) := by decide +kernel
theorem dX5_init_17 : decode cX5_init 17 = .ok (.getfield 11, 3) := by decide +kernel
theorem dX5_init_20 : decode cX5_init 20 = .ok (.arraylength, 1) := by decide +kernel
theorem dX5_init_21 : decode cX5_init 21 = .ok (.if_icmp .ge 22, 3) := by decide +kernel
theorem dX5_init_24 : decode cX5_init 24 = .ok (.aload_n 0, 1) := by decide +kernel
theorem dX5_init_25 : decode cX5_init 25 = .ok (.getfield 11, 3) := by decide +kernel
theorem dX5_init_28 : decode cX5_init 28 = .ok (.iload_n 1, 1) := by decide +kernel
theorem dX5_init_29 : decode cX5_init 29 = .ok (.new 9, 3) := by decide +kernel
theorem dX5_init_32 : decode cX5_init 32 = .ok (.dup, 1) := by decide +kernel
theorem dX5_init_33 : decode cX5_init 33 = .ok (.invokespecial 17, 3) := by decide +kernel
theorem dX5_init_36 : decode cX5_init 36 = .ok (.aastore, 1) := by decide +kernel
theorem dX5_init_37 : decode cX5_init 37 = .ok (.iinc 1 1, 3) := by decide +kernel
theorem dX5_init_40 : decode cX5_init 40 = .ok (.goto (-25), 3) := by decide +kernel
theorem dX5_init_43 : decode cX5_init 43 = .ok (.return_, 1) := by decide +kernel
set_option maxRecDepth 20000 in
theorem ggX5_push_X5_forgetFirst : GoodIn wsX5_push wsX5_forgetFirst := goodIn_r _ [7, 2, 1, 8, 9, 10, 6, 11, 31, 32] (by decide +kernel) (by decide +kernel)
set_option maxRecDepth 20000 in
theorem gX5_push_X5_forgetFirst : GoodIn wsX5_push (wsV RX5 22 RX5 yX5_forgetFirst wsX5_forgetFirst) := goodIn_app (goodIn_of _ (by decide +kernel)) ggX5_push_X5_forgetFirst
set_option maxRecDepth 20000 in
theorem ggX5_push_X5_momentAt : GoodIn wsX5_push wsX5_momentAt := goodIn_r _ [11, 2, 31, 32] (by decide +kernel) (by decide +kernel)
set_option maxRecDepth 20000 in
theorem gX5_push_X5_momentAt : GoodIn wsX5_push (wsV RX5 25 RX5 yX5_momentAt wsX5_momentAt) := goodIn_app (goodIn_of _ (by decide +kernel)) ggX5_push_X5_momentAt
set_option maxRecDepth 20000 in
theorem ggX5_push_X2_copy : GoodIn wsX5_push wsX2_copy := goodIn_r _ [16, 17, 18, 19, 20, 21, 22, 23, 24, 25, 26, 27, 28, 29, 30, 33, 34, 35, 36, 37, 38, 39, 40, 41] (by decide +kernel) (by decide +kernel)
set_option maxRecDepth 20000 in
theorem gX5_push_X2_copy : GoodIn wsX5_push (wsV RX5 29 RX2 yX2_copy wsX2_copy) := goodIn_app (goodIn_of _ (by decide +kernel)) ggX5_push_X2_copy
theorem dX5_push_0 : decode cX5_push 0 = .ok (.aload_n 0, 1) := by decide +kernel
theorem dX5_push_1 : decode cX5_push 1 = .ok (.getfield 18, 3) := by decide +kernel
theorem dX5_push_4 : decode cX5_push 4 = .ok (.aload_n 0, 1) := by decide +kernel
theorem dX5_push_5 : decode cX5_push 5 = .ok (.getfield 11, 3) := by decide +kernel
theorem dX5_push_8 : decode cX5_push 8 = .ok (.arraylength, 1) := by decide +kernel
theorem dX5_push_9 : decode cX5_push 9 = .ok (.if_icmp .lt 7, 3) := by decide +kernel
theorem dX5_push_12 : decode cX5_push 12 = .ok (.aload_n 0, 1) := by decide +kernel
theorem dX5_push_13 : decode cX5_push 13 = .ok (.invokevirtual 22, 3) := by decide +kernel
theorem dX5_push_16 : decode cX5_push 16 = .ok (.aload_n 0, 1) := by decide +kernel
theorem dX5_push_17 : decode cX5_push 17 = .ok (.aload_n 0, 1) := by decide +kernel
theorem dX5_push_18 : decode cX5_push 18 = .ok (.getfield 18, 3) := by decide +kernel
theorem dX5_push_21 : decode cX5_push 21 = .ok (.invokevirtual 25, 3) := by decide +kernel
theorem dX5_push_24 : decode cX5_push 24 = .ok (.astore_n 2, 1) := by decide +kernel
theorem dX5_push_25 : decode cX5_push 25 = .ok (.aload_n 2, 1) := by decide +kernel
theorem dX5_push_26 : decode cX5_push 26 = .ok (.ifnonnull 4, 3) := by decide +kernel
theorem dX5_push_29 : decode cX5_push 29 = .ok (.return_, 1) := by decide +kernel
theorem dX5_push_30 : decode cX5_push 30 = .ok (.aload_n 2, 1) := by decide +kernel
theorem dX5_push_31 : decode cX5_push 31 = .ok (.aload_n 1, 1) := by decide +kernel
theorem dX5_push_32 : decode cX5_push 32 = .ok (.invokevirtual 29, 3) := by decide +kernel
theorem dX5_push_35 : decode cX5_push 35 = .ok (.aload_n 0, 1) := by decide +kernel
theorem dX5_push_36 : decode cX5_push 36 = .ok (.dup, 1) := by decide +kernel
theorem dX5_push_37 : decode cX5_push 37 = .ok (.getfield 18, 3) := by decide +kernel
theorem dX5_push_40 : decode cX5_push 40 = .ok (.iconst 1, 1) := by decide +kernel
theorem dX5_push_41 : decode cX5_push 41 = .ok (.iadd, 1) := by decide +kernel
theorem dX5_push_42 : decode cX5_push 42 = .ok (.putfield 18, 3) := by decide +kernel
theorem dX5_push_45 : decode cX5_push 45 = .ok (.return_, 1) := by decide +kernel
set_option maxRecDepth 20000 in
theorem ggX5_popInto_X5_momentAt : GoodIn wsX5_popInto wsX5_momentAt := goodIn_r _ [6, 7, 27, 28] (by decide +kernel) (by decide +kernel)
set_option maxRecDepth 20000 in
theorem gX5_popInto_X5_momentAt : GoodIn wsX5_popInto (wsV RX5 25 RX5 yX5_momentAt wsX5_momentAt) := goodIn_app (goodIn_of _ (by decide +kernel)) ggX5_popInto_X5_momentAt
set_option maxRecDepth 20000 in
theorem ggX5_popInto_X2_copy : GoodIn wsX5_popInto wsX2_copy := goodIn_r _ [12, 13, 14, 15, 16, 17, 18, 19, 20, 21, 22, 23, 24, 25, 26, 29, 30, 31, 32, 33, 34, 35, 36, 37] (by decide +kernel) (by decide +kernel)
set_option maxRecDepth 20000 in
theorem gX5_popInto_X2_copy : GoodIn wsX5_popInto (wsV RX5 29 RX2 yX2_copy wsX2_copy) := goodIn_app (goodIn_of _ (by decide +kernel)) ggX5_popInto_X2_copy
theorem dX5_popInto_0 : decode cX5_popInto 0 = .ok (.aload_n 0, 1) := by decide +kernel
theorem dX5_popInto_1 : decode cX5_popInto 1 = .ok (.aload_n 0, 1) := by decide +kernel
theorem dX5_popInto_2 : decode cX5_popInto 2 = .ok (.getfield 18, 3) := by decide +kernel
theorem dX5_popInto_5 : decode cX5_popInto 5 = .ok (.iconst 1, 1) := by decide +kernel
theorem dX5_popInto_6 : decode cX5_popInto 6 = .ok (.isub, 1) := by decide +kernel
theorem dX5_popInto_7 : decode cX5_popInto 7 = .ok (.invokevirtual 25, 3) := by decide +kernel
theorem dX5_popInto_10 : decode cX5_popInto 10 = .ok (.astore_n 2, 1) := by decide +kernel
theorem dX5_popInto_11 : decode cX5_popInto 11 = .ok (.aload_n 2, 1) := by decide +kernel
theorem dX5_popInto_12 : decode cX5_popInto 12 = .ok (.ifnonnull 4, 3) := by decide +kernel
theorem dX5_popInto_15 : decode cX5_popInto 15 = .ok (.return_, 1) := by decide +kernel
theorem dX5_popInto_16 : decode cX5_popInto 16 = .ok (.aload_n 1, 1) := by decide +kernel
theorem dX5_popInto_17 : decode cX5_popInto 17 = .ok (.aload_n 2, 1) := by decide +kernel
theorem dX5_popInto_18 : decode cX5_popInto 18 = .ok (.invokevirtual 29, 3) := by decide +kernel
theorem dX5_popInto_21 : decode cX5_popInto 21 = .ok (.aload_n 0, 1) := by decide +kernel
theorem dX5_popInto_22 : decode cX5_popInto 22 = .ok (.dup, 1) := by decide +kernel
theorem dX5_popInto_23 : decode cX5_popInto 23 = .ok (.getfield 18, 3) := by decide +kernel
theorem dX5_popInto_26 : decode cX5_popInto 26 = .ok (.iconst 1, 1) := by decide +kernel
theorem dX5_popInto_27 : decode cX5_popInto 27 = .ok (.isub, 1) := by decide +kernel
theorem dX5_popInto_28 : decode cX5_popInto 28 = .ok (.putfield 18, 3) := by decide +kernel
theorem dX5_popInto_31 : decode cX5_popInto 31 = .ok (.return_, 1) := by decide +kernel
set_option maxRecDepth 20000 in
theorem ggX5_forgetFirst_X5_momentAt : GoodIn wsX5_forgetFirst wsX5_momentAt := goodIn_r _ [7, 1, 8, 9] (by decide +kernel) (by decide +kernel)
set_option maxRecDepth 20000 in
theorem gX5_forgetFirst_X5_momentAt : GoodIn wsX5_forgetFirst (wsV RX5 25 RX5 yX5_momentAt wsX5_momentAt) := goodIn_app (goodIn_of _ (by decide +kernel)) ggX5_forgetFirst_X5_momentAt
theorem dX5_forgetFirst_0 : decode cX5_forgetFirst 0 = .ok (.aload_n 0, 1) := by decide +kernel
theorem dX5_forgetFirst_1 : decode cX5_forgetFirst 1 = .ok (.iconst 0, 1) := by decide +kernel
theorem dX5_forgetFirst_2 : decode cX5_forgetFirst 2 = .ok (.invokevirtual 25, 3) := by decide +kernel
theorem dX5_forgetFirst_5 : decode cX5_forgetFirst 5 = .ok (.astore_n 1, 1) := by decide +kernel
theorem dX5_forgetFirst_6 : decode cX5_forgetFirst 6 = .ok (.bipush 13, 2) := by decide +kernel
theorem dX5_forgetFirst_8 : decode cX5_forgetFirst 8 = .ok (.istore_n 2, 1) := by decide +kernel
theorem dX5_forgetFirst_9 : decode cX5_forgetFirst 9 = .ok (.iconst 0, 1) := by decide +kernel
theorem dX5_forgetFirst_10 : decode cX5_forgetFirst 10 = .ok (.istore_n 3, 1) := by decide +kernel
theorem dX5_forgetFirst_11 : decode cX5_forgetFirst 11 = .ok (.iload_n 3, 1) := by decide +kernel
theorem dX5_forgetFirst_12 : decode cX5_forgetFirst 12 = .ok (.iload_n 2, 1) := by decide +kernel
theorem dX5_forgetFirst_13 : decode cX5_forgetFirst 13 = .ok (.if_icmp .ge 34, 3) := by decide +kernel
theorem dX5_forgetFirst_16 : decode cX5_forgetFirst 16 = .ok (.iload_n 3, 1) := by decide +kernel
theorem dX5_forgetFirst_17 : decode cX5_forgetFirst 17 = .ok (.iconst 1, 1) := by decide +kernel
theorem dX5_forgetFirst_18 : decode cX5_forgetFirst 18 = .ok (.iadd, 1) := by decide +kernel
theorem dX5_forgetFirst_19 : decode cX5_forgetFirst 19 = .ok (.aload_n 0, 1) := by decide +kernel
theorem dX5_forgetFirst_20 : decode cX5_forgetFirst 20 = .ok (.getfield 11, 3) := by decide +kernel
theorem dX5_forgetFirst_23 : decode cX5_forgetFirst 23 = .ok (.arraylength, 1) := by decide +kernel
theorem dX5_forgetFirst_24 : decode cX5_forgetFirst 24 = .ok (.if_icmp .ge 23, 3) := by decide +kernel
theorem dX5_forgetFirst_27 : decode cX5_forgetFirst 27 = .ok (.aload_n 0, 1) := by decide +kernel
theorem dX5_forgetFirst_28 : decode cX5_forgetFirst 28 = .ok (.getfield 11, 3) := by decide +kernel
theorem dX5_forgetFirst_31 : decode cX5_forgetFirst 31 = .ok (.iload_n 3, 1) := by decide +kernel
theorem dX5_forgetFirst_32 : decode cX5_forgetFirst 32 = .ok (.aload_n 0, 1) := by decide +kernel
theorem dX5_forgetFirst_33 : decode cX5_forgetFirst 33 = .ok (.getfield 11, 3) := by decide +kernel
theorem dX5_forgetFirst_36 : decode cX5_forgetFirst 36 = .ok (.iload_n 3, 1) := by decide +kernel
theorem dX5_forgetFirst_37 : decode cX5_forgetFirst 37 = .ok (.iconst 1, 1) := by decide +kernel
theorem dX5_forgetFirst_38 : decode cX5_forgetFirst 38 = .ok (.iadd, 1) := by decide +kernel
theorem dX5_forgetFirst_39 : decode cX5_forgetFirst 39 = .ok (.aaload, 1) := by decide +kernel
theorem dX5_forgetFirst_40 : decode cX5_forgetFirst 40 = .ok (.aastore, 1) := by decide +kernel
theorem dX5_forgetFirst_41 : decode cX5_forgetFirst 41 = .ok (.iinc 3 1, 3) := by decide +kernel
theorem dX5_forgetFirst_44 : decode cX5_forgetFirst 44 = .ok (.goto (-33), 3) := by decide +kernel
theorem dX5_forgetFirst_47 : decode cX5_forgetFirst 47 = .ok (.iload_n 2, 1) := by decide +kernel
theorem dX5_forgetFirst_48 : decode cX5_forgetFirst 48 = .ok (.aload_n 0, 1) := by decide +kernel
theorem dX5_forgetFirst_49 : decode cX5_forgetFirst 49 = .ok (.getfield 11, 3) := by decide +kernel
theorem dX5_forgetFirst_52 : decode cX5_forgetFirst 52 = .ok (.arraylength, 1) := by decide +kernel
theorem dX5_forgetFirst_53 : decode cX5_forgetFirst 53 = .ok (.if_icmp .ge 10, 3) := by decide +kernel
theorem dX5_forgetFirst_56 : decode cX5_forgetFirst 56 = .ok (.aload_n 0, 1) := by decide +kernel
theorem dX5_forgetFirst_57 : decode cX5_forgetFirst 57 = .ok (.getfield 11, 3) := by decide +kernel
theorem dX5_forgetFirst_60 : decode cX5_forgetFirst 60 = .ok (.iload_n 2, 1) := by decide +kernel
theorem dX5_forgetFirst_61 : decode cX5_forgetFirst 61 = .ok (.aload_n 1, 1) := by decide +kernel
theorem dX5_forgetFirst_62 : decode cX5_forgetFirst 62 = .ok (.aastore, 1) := by decide +kernel
theorem dX5_forgetFirst_63 : decode cX5_forgetFirst 63 = .ok (.aload_n 0, 1) := by decide +kernel
theorem dX5_forgetFirst_64 : decode cX5_forgetFirst 64 = .ok (.iload_n 2, 1) := by decide +kernel
theorem dX5_forgetFirst_65 : decode cX5_forgetFirst 65 = .ok (.putfield 18, 3) := by decide +kernel
theorem dX5_forgetFirst_68 : decode cX5_forgetFirst 68 = .ok (.return_, 1) := by decide +kernel
theorem dX5_momentAt_0 : decode cX5_momentAt 0 = .ok (.iload_n 1, 1) := by decide +kernel
theorem dX5_momentAt_1 : decode cX5_momentAt 1 = .ok (.ifCond .lt 21, 3) := by decide +kernel
theorem dX5_momentAt_4 : decode cX5_momentAt 4 = .ok (.iload_n 1, 1) := by decide +kernel
theorem dX5_momentAt_5 : decode cX5_momentAt 5 = .ok (.aload_n 0, 1) := by decide +kernel
theorem dX5_momentAt_6 : decode cX5_momentAt 6 = .ok (.getfield 11, 3) := by decide +kernel
theorem dX5_momentAt_9 : decode cX5_momentAt 9 = .ok (.arraylength, 1) := by decide +kernel
theorem dX5_momentAt_10 : decode cX5_momentAt 10 = .ok (.if_icmp .ge 12, 3) := by decide +kernel
theorem dX5_momentAt_13 : decode cX5_momentAt 13 = .ok (.aload_n 0, 1) := by decide +kernel
theorem dX5_momentAt_14 : decode cX5_momentAt 14 = .ok (.getfield 11, 3) := by decide +kernel
theorem dX5_momentAt_17 : decode cX5_momentAt 17 = .ok (.iload_n 1, 1) := by decide +kernel
theorem dX5_momentAt_18 : decode cX5_momentAt 18 = .ok (.aaload, 1) := by decide +kernel
theorem dX5_momentAt_19 : decode cX5_momentAt 19 = .ok (.goto 4, 3) := by decide +kernel
theorem dX5_momentAt_22 : decode cX5_momentAt 22 = .ok (.aconst_null, 1) := by decide +kernel
theorem dX5_momentAt_23 : decode cX5_momentAt 23 = .ok (.areturn, 1) := by decide +kernel
set_option maxRecDepth 20000 in
theorem ggX6_init_X1_init : GoodIn wsX6_init wsX1_init := goodIn_r _ [33, 34, 2, 3, 20, 35, 73, 74] (by decide +kernel) (by decide +kernel)
set_option maxRecDepth 20000 in
theorem gX6_init_X1_init_n9 : GoodIn wsX6_init (wsX1_init) := ggX6_init_X1_init
set_option maxRecDepth 20000 in
theorem ggX6_init_X4_init : GoodIn wsX6_init wsX4_init := goodIn_r _ [37, 38, 2, 3, 39, 40, 41, 42, 20, 43, 44, 45, 46, 47, 48, 49, 50, 51, 52, 53, 107, 108, 109, 110, 111, 112, 113, 114, 115, 116, 117, 118, 119, 88, 89, 90, 91] (by decide +kernel) (by decide +kernel)
set_option maxRecDepth 20000 in
theorem gX6_init_X4_init_n18 : GoodIn wsX6_init (wsX4_init) := ggX6_init_X4_init
set_option maxRecDepth 20000 in
theorem ggX6_init_X2_init : GoodIn wsX6_init wsX2_init := goodIn_r _ [55, 56, 2, 3, 20, 57, 58, 59, 60, 92, 93, 94, 95, 96, 97, 98, 99, 100] (by decide +kernel) (by decide +kernel)
set_option maxRecDepth 20000 in
theorem gX6_init_X2_init_n33 : GoodIn wsX6_init (wsX2_init) := ggX6_init_X2_init
set_option maxRecDepth 20000 in
theorem ggX6_init_X5_init : GoodIn wsX6_init wsX5_init := goodIn_r _ [63, 64, 2, 3, 65, 66, 16, 17, 54, 55, 56, 20, 57, 58, 59, 60, 101, 102, 92, 93, 94, 95, 96, 97, 98, 99, 100] (by decide +kernel) (by decide +kernel)
set_option maxRecDepth 20000 in
theorem gX6_init_X5_init : GoodIn wsX6_init (wsX5_init) := ggX6_init_X5_init
set_option maxRecDepth 20000 in
theorem ggX6_init_X0_init : GoodIn wsX6_init wsX0_init := goodIn_r _ [68, 69, 2, 3, 20, 70, 71, 72, 103, 104, 105, 106] (by decide +kernel) (by decide +kernel)
set_option maxRecDepth 20000 in
theorem gX6_init_X0_init_n60 : GoodIn wsX6_init (wsX0_init) := ggX6_init_X0_init
theorem dX6_init_0 : decode cX6_init 0 = .ok (.aload_n 0, 1) := by decide +kernel
theorem dX6_init_1 : decode cX6_init 1 = .ok (.invokespecial 1, 3) := by decide +kernel
theorem dX6_init_4 : decode cX6_init 4 = .ok (.aload_n 0, 1) := by decide +kernel
theorem dX6_init_5 : decode cX6_init 5 = .ok (.new 7, 3) := by decide +kernel
theorem dX6_init_8 : decode cX6_init 8 = .ok (.dup, 1) := by decide +kernel
theorem dX6_init_9 : decode cX6_init 9 = .ok (.invokespecial 9, 3) := by decide +kernel
theorem dX6_init_12 : decode cX6_init 12 = .ok (.putfield 10, 3) := by decide +kernel
theorem dX6_init_15 : decode cX6_init 15 = .ok (.aload_n 0, 1) := by decide +kernel
theorem dX6_init_16 : decode cX6_init 16 = .ok (.new 16, 3) := by decide +kernel
theorem dX6_init_19 : decode cX6_init 19 = .ok (.dup, 1) := by decide +kernel
theorem dX6_init_20 : decode cX6_init 20 = .ok (.invokespecial 18, 3) := by decide +kernel
theorem dX6_init_23 : decode cX6_init 23 = .ok (.putfield 19, 3) := by decide +kernel
theorem dX6_init_26 : decode cX6_init 26 = .ok (.aload_n 0, 1) := by decide +kernel
theorem dX6_init_27 : decode cX6_init 27 = .ok (.new 16, 3) := by decide +kernel
theorem dX6_init_30 : decode cX6_init 30 = .ok (.dup, 1) := by decide +kernel
theorem dX6_init_31 : decode cX6_init 31 = .ok (.invokespecial 18, 3) := by decide +kernel
theorem dX6_init_34 : decode cX6_init 34 = .ok (.putfield 23, 3) := by decide +kernel
theorem dX6_init_37 : decode cX6_init 37 = .ok (.aload_n 0, 1) := by decide +kernel
theorem dX6_init_38 : decode cX6_init 38 = .ok (.aload_n 0, 1) := by decide +kernel
theorem dX6_init_39 : decode cX6_init 39 = .ok (.getfield 23, 3) := by decide +kernel
theorem dX6_init_42 : decode cX6_init 42 = .ok (.getfield 26, 3) := by decide +kernel
theorem dX6_init_45 : decode cX6_init 45 = .ok (.putfield 30, 3) := by decide +kernel
theorem dX6_init_48 : decode cX6_init 48 = .ok (.aload_n 0, 1) := by decide +kernel
theorem dX6_init_49 : decode cX6_init 49 = .ok (.new 31, 3) := by decide +kernel
theorem dX6_init_52 : decode cX6_init 52 = .ok (.dup, 1) := by decide +kernel
theorem dX6_init_53 : decode cX6_init 53 = .ok (.invokespecial 33, 3) := by decide +kernel
theorem dX6_init_56 : decode cX6_init 56 = .ok (.putfield 34, 3) := by decide +kernel
theorem dX6_init_59 : decode cX6_init 59 = .ok (.aload_n 0, 1) := by decide +kernel
theorem dX6_init_60 : decode cX6_init 60 = .ok (.new 31, 3) := by decide +kernel
theorem dX6_init_63 : decode cX6_init 63 = .ok (.dup, 1) := by decide +kernel
theorem dX6_init_64 : decode cX6_init 64 = .ok (.invokespecial 33, 3) := by decide +kernel
theorem dX6_init_67 : decode cX6_init 67 = .ok (.putfield 38, 3) := by decide +kernel
theorem dX6_init_70 : decode cX6_init 70 = .ok (.aload_n 0, 1) := by decide +kernel
theorem dX6_init_71 : decode cX6_init 71 = .ok (.iconst 4, 1) := by decide +kernel
theorem dX6_init_72 : decode cX6_init 72 = .ok (.newarray .int, 2) := by decide +kernel
theorem dX6_init_74 : decode cX6_init 74 = .ok (.putfield 41, 3) := by decide +kernel
theorem dX6_init_77 : decode cX6_init 77 = .ok (.aload_n 0, 1) := by decide +kernel
theorem dX6_init_78 : decode cX6_init 78 = .ok (.new 45, 3) := by decide +kernel
theorem dX6_init_81 : decode cX6_init 81 = .ok (.dup, 1) := by decide +kernel
theorem dX6_init_82 : decode cX6_init 82 = .ok (.invokespecial 47, 3) := by decide +kernel
theorem dX6_init_85 : decode cX6_init 85 = .ok (.putfield 48, 3) := by decide +kernel
theorem dX6_init_88 : decode cX6_init 88 = .ok (.aload_n 0, 1) := by decide +kernel
theorem dX6_init_89 : decode cX6_init 89 = .ok (.new 31, 3) := by decide +kernel
theorem dX6_init_92 : decode cX6_init 92 = .ok (.dup, 1) := by decide +kernel
theorem dX6_init_93 : decode cX6_init 93 = .ok (.invokespecial 33, 3) := by decide +kernel
theorem dX6_init_96 : decode cX6_init 96 = .ok (.putfield 52, 3) := by decide +kernel
theorem dX6_init_99 : decode cX6_init 99 = .ok (.aload_n 0, 1) := by decide +kernel
theorem dX6_init_100 : decode cX6_init 100 = .ok (.new 31, 3) := by decide +kernel
theorem dX6_init_103 : decode cX6_init 103 = .ok (.dup, 1) := by decide +kernel
theorem dX6_init_104 : decode cX6_init 104 = .ok (.invokespecial 33, 3) := by decide +kernel
theorem dX6_init_107 : decode cX6_init 107 = .ok (.putfield 55, 3) := by decide +kernel
theorem dX6_init_110 : decode cX6_init 110 = .ok (.aload_n 0, 1) := by decide +kernel
theorem dX6_init_111 : decode cX6_init 111 = .ok (.new 58, 3) := by decide +kernel
theorem dX6_init_114 : decode cX6_init 114 = .ok (.dup, 1) := by decide +kernel
theorem dX6_init_115 : decode cX6_init 115 = .ok (.invokespecial 60, 3) := by decide +kernel
theorem dX6_init_118 : decode cX6_init 118 = .ok (.putfield 61, 3) := by decide +kernel
theorem dX6_init_121 : decode cX6_init 121 = .ok (.return_, 1) := by decide +kernel
set_option maxRecDepth 20000 in
theorem ggX6_write_X1_add : GoodIn wsX6_write wsX1_add := goodIn_r _ [7, 8, 9, 10, 11, 12, 26, 27] (by decide +kernel) (by decide +kernel)
set_option maxRecDepth 20000 in
theorem gX6_write_X1_add : GoodIn wsX6_write (wsV RX6 69 RX1 yX1_add wsX1_add) := goodIn_app (goodIn_of _ (by decide +kernel)) ggX6_write_X1_add
theorem dX6_write_0 : decode cX6_write 0 = .ok (.iload_n 1, 1) := by decide +kernel
theorem dX6_write_1 : decode cX6_write 1 = .ok (.ifCond .lt 10, 3) := by decide +kernel
theorem dX6_write_4 : decode cX6_write 4 = .ok (.iload_n 1, 1) := by decide +kernel
theorem dX6_write_5 : decode cX6_write 5 = .ok (.sipush 255, 3) := by decide +kernel
theorem dX6_write_8 : decode cX6_write 8 = .ok (.if_icmp .le 6, 3) := by decide +kernel
theorem dX6_write_11 : decode cX6_write 11 = .ok (.bipush (-2), 2) := by decide +kernel
theorem dX6_write_13 : decode cX6_write 13 = .ok (.ireturn, 1) := by decide +kernel
theorem dX6_write_14 : decode cX6_write 14 = .ok (.aload_n 0, 1) := by decide +kernel
theorem dX6_write_15 : decode cX6_write 15 = .ok (.getfield 10, 3) := by decide +kernel
theorem dX6_write_18 : decode cX6_write 18 = .ok (.getfield 65, 3) := by decide +kernel
theorem dX6_write_21 : decode cX6_write 21 = .ok (.bipush 60, 2) := by decide +kernel
theorem dX6_write_23 : decode cX6_write 23 = .ok (.if_icmp .lt 6, 3) := by decide +kernel
theorem dX6_write_26 : decode cX6_write 26 = .ok (.bipush (-4), 2) := by decide +kernel
theorem dX6_write_28 : decode cX6_write 28 = .ok (.ireturn, 1) := by decide +kernel
theorem dX6_write_29 : decode cX6_write 29 = .ok (.aload_n 0, 1) := by decide +kernel
theorem dX6_write_30 : decode cX6_write 30 = .ok (.getfield 10, 3) := by decide +kernel
theorem dX6_write_33 : decode cX6_write 33 = .ok (.iload_n 1, 1) := by decide +kernel
theorem dX6_write_34 : decode cX6_write 34 = .ok (.invokevirtual 69, 3) := by decide +kernel
theorem dX6_write_37 : decode cX6_write 37 = .ok (.aload_n 0, 1) := by decide +kernel
theorem dX6_write_38 : decode cX6_write 38 = .ok (.getfield 10, 3) := by decide +kernel
theorem dX6_write_41 : decode cX6_write 41 = .ok (.getfield 65, 3) := by decide +kernel
theorem dX6_write_44 : decode cX6_write 44 = .ok (.ireturn, 1) := by decide +kernel
theorem dX6_wipe_0 : decode cX6_wipe 0 = .ok (.aload_n 0, 1) := by decide +kernel
theorem dX6_wipe_1 : decode cX6_wipe 1 = .ok (.getfield 10, 3) := by decide +kernel
theorem dX6_wipe_4 : decode cX6_wipe 4 = .ok (.getfield 65, 3) := by decide +kernel
theorem dX6_wipe_7 : decode cX6_wipe 7 = .ok (.istore_n 1, 1) := by decide +kernel
theorem dX6_wipe_8 : decode cX6_wipe 8 = .ok (.aload_n 0, 1) := by decide +kernel
theorem dX6_wipe_9 : decode cX6_wipe 9 = .ok (.getfield 10, 3) := by decide +kernel
theorem dX6_wipe_12 : decode cX6_wipe 12 = .ok (.iconst 0, 1) := by decide +kernel
theorem dX6_wipe_13 : decode cX6_wipe 13 = .ok (.putfield 65, 3) := by decide +kernel
theorem dX6_wipe_16 : decode cX6_wipe 16 = .ok (.iload_n 1, 1) := by decide +kernel
theorem dX6_wipe_17 : decode cX6_wipe 17 = .ok (.ireturn, 1) := by decide +kernel
set_option maxRecDepth 20000 in
theorem ggX6_fault_X4_read : GoodIn wsX6_fault wsX4_read := goodIn_r _ [7, 8, 9, 10, 11, 12, 13, 14, 15, 16, 17, 18, 19, 20, 21, 22, 23, 24, 25, 26, 27, 28, 29, 30, 31, 32, 33, 34, 35, 36, 37, 6, 38, 39, 40, 41, 42, 43, 44, 45, 46, 47, 48, 49, 50, 51, 52, 53, 54, 55, 56, 57, 58, 59, 60, 61, 62, 63, 64, 65, 66, 67, 68, 69, 70, 71, 72, 73, 74, 75, 76, 77, 78, 79, 80, 81, 82, 83, 84, 85, 86, 87, 88, 89, 90, 91, 92, 93, 94, 95, 96, 97, 98, 99, 100, 101, 102, 103, 117, 118, 119, 120, 121, 122, 123, 124, 125, 126, 127, 128, 129, 130, 131, 132, 133, 134, 135] (by decide +kernel) (by decide +kernel)
set_option maxRecDepth 20000 in
theorem gX6_fault_X4_read : GoodIn wsX6_fault (wsV RX6 73 RX4 yX4_read wsX4_read) := goodIn_app (goodIn_of _ (by decide +kernel)) ggX6_fault_X4_read
theorem dX6_fault_0 : decode cX6_fault 0 = .ok (.aload_n 0, 1) := by decide +kernel
theorem dX6_fault_1 : decode cX6_fault 1 = .ok (.getfield 19, 3) := by decide +kernel
theorem dX6_fault_4 : decode cX6_fault 4 = .ok (.aload_n 0, 1) := by decide +kernel
theorem dX6_fault_5 : decode cX6_fault 5 = .ok (.getfield 10, 3) := by decide +kernel
theorem dX6_fault_8 : decode cX6_fault 8 = .ok (.invokevirtual 73, 3) := by decide +kernel
theorem dX6_fault_11 : decode cX6_fault 11 = .ok (.ireturn, 1) := by decide +kernel
set_option maxRecDepth 20000 in
theorem ggX6_net_X4_read : GoodIn wsX6_net wsX4_read := goodIn_r _ [16, 17, 18, 19, 20, 21, 22, 23, 24, 25, 26, 27, 28, 29, 30, 31, 32, 33, 34, 35, 36, 37, 38, 39, 40, 41, 42, 43, 44, 45, 46, 15, 47, 48, 49, 50, 51, 52, 53, 54, 55, 56, 57, 58, 59, 60, 61, 62, 63, 64, 65, 66, 67, 68, 69, 70, 71, 72, 73, 74, 75, 76, 77, 78, 79, 80, 81, 82, 83, 84, 85, 86, 87, 88, 89, 90, 91, 92, 93, 94, 95, 96, 97, 98, 99, 100, 101, 102, 103, 104, 105, 106, 107, 108, 109, 110, 111, 112, 159, 160, 161, 162, 163, 164, 146, 147, 148, 149, 150, 151, 152, 153, 154, 155, 156, 157, 158] (by decide +kernel) (by decide +kernel)
set_option maxRecDepth 20000 in
theorem gX6_net_X4_read : GoodIn wsX6_net (wsV RX6 73 RX4 yX4_read wsX4_read) := goodIn_app (goodIn_of _ (by decide +kernel)) ggX6_net_X4_read
set_option maxRecDepth 20000 in
theorem ggX6_net_X2_begin : GoodIn wsX6_net wsX2_begin := goodIn_r _ [117, 118, 119, 120, 121, 122, 123, 124, 125, 126, 127, 128, 129, 130, 41, 42, 43, 85, 86, 68, 69, 70, 71, 72, 165, 166, 167, 168, 169, 170, 171, 172, 173, 146, 147, 148, 149, 150, 151, 152, 153, 154, 155, 156, 157, 158] (by decide +kernel) (by decide +kernel)
set_option maxRecDepth 20000 in
theorem gX6_net_X2_begin : GoodIn wsX6_net (wsV RX6 77 RX2 yX2_begin wsX2_begin) := goodIn_app (goodIn_of _ (by decide +kernel)) ggX6_net_X2_begin
theorem dX6_net_0 : decode cX6_net 0 = .ok (.aload_n 0, 1) := by decide +kernel
theorem dX6_net_1 : decode cX6_net 1 = .ok (.getfield 19, 3) := by decide +kernel
theorem dX6_net_4 : decode cX6_net 4 = .ok (.aload_n 0, 1) := by decide +kernel
theorem dX6_net_5 : decode cX6_net 5 = .ok (.getfield 10, 3) := by decide +kernel
theorem dX6_net_8 : decode cX6_net 8 = .ok (.invokevirtual 73, 3) := by decide +kernel
theorem dX6_net_11 : decode cX6_net 11 = .ok (.bipush (-9), 2) := by decide +kernel
theorem dX6_net_13 : decode cX6_net 13 = .ok (.if_icmp .eq 6, 3) := by decide +kernel
theorem dX6_net_16 : decode cX6_net 16 = .ok (.bipush (-3), 2) := by decide +kernel
theorem dX6_net_18 : decode cX6_net 18 = .ok (.ireturn, 1) := by decide +kernel
theorem dX6_net_19 : decode cX6_net 19 = .ok (.aload_n 0, 1) := by decide +kernel
theorem dX6_net_20 : decode cX6_net 20 = .ok (.getfield 23, 3) := by decide +kernel
theorem dX6_net_23 : decode cX6_net 23 = .ok (.aload_n 0, 1) := by decide +kernel
theorem dX6_net_24 : decode cX6_net 24 = .ok (.getfield 10, 3) := by decide +kernel
theorem dX6_net_27 : decode cX6_net 27 = .ok (.invokevirtual 73, 3) := by decide +kernel
theorem dX6_net_30 : decode cX6_net 30 = .ok (.pop, 1) := by decide +kernel
theorem dX6_net_31 : decode cX6_net 31 = .ok (.aload_n 0, 1) := by decide +kernel
theorem dX6_net_32 : decode cX6_net 32 = .ok (.getfield 34, 3) := by decide +kernel
theorem dX6_net_35 : decode cX6_net 35 = .ok (.aload_n 0, 1) := by decide +kernel
theorem dX6_net_36 : decode cX6_net 36 = .ok (.getfield 30, 3) := by decide +kernel
theorem dX6_net_39 : decode cX6_net 39 = .ok (.invokevirtual 77, 3) := by decide +kernel
theorem dX6_net_42 : decode cX6_net 42 = .ok (.aload_n 0, 1) := by decide +kernel
theorem dX6_net_43 : decode cX6_net 43 = .ok (.getfield 48, 3) := by decide +kernel
theorem dX6_net_46 : decode cX6_net 46 = .ok (.iconst 0, 1) := by decide +kernel
theorem dX6_net_47 : decode cX6_net 47 = .ok (.putfield 81, 3) := by decide +kernel
theorem dX6_net_50 : decode cX6_net 50 = .ok (.aload_n 0, 1) := by decide +kernel
theorem dX6_net_51 : decode cX6_net 51 = .ok (.iconst 0, 1) := by decide +kernel
theorem dX6_net_52 : decode cX6_net 52 = .ok (.putfield 84, 3) := by decide +kernel
theorem dX6_net_55 : decode cX6_net 55 = .ok (.bipush 100, 2) := by decide +kernel
theorem dX6_net_57 : decode cX6_net 57 = .ok (.aload_n 0, 1) := by decide +kernel
theorem dX6_net_58 : decode cX6_net 58 = .ok (.getfield 30, 3) := by decide +kernel
theorem dX6_net_61 : decode cX6_net 61 = .ok (.getfield 87, 3) := by decide +kernel
theorem dX6_net_64 : decode cX6_net 64 = .ok (.imul, 1) := by decide +kernel
theorem dX6_net_65 : decode cX6_net 65 = .ok (.bipush 10, 2) := by decide +kernel
theorem dX6_net_67 : decode cX6_net 67 = .ok (.aload_n 0, 1) := by decide +kernel
theorem dX6_net_68 : decode cX6_net 68 = .ok (.getfield 30, 3) := by decide +kernel
theorem dX6_net_71 : decode cX6_net 71 = .ok (.getfield 92, 3) := by decide +kernel
theorem dX6_net_74 : decode cX6_net 74 = .ok (.imul, 1) := by decide +kernel
theorem dX6_net_75 : decode cX6_net 75 = .ok (.iadd, 1) := by decide +kernel
theorem dX6_net_76 : decode cX6_net 76 = .ok (.aload_n 0, 1) := by decide +kernel
theorem dX6_net_77 : decode cX6_net 77 = .ok (.getfield 30, 3) := by decide +kernel
theorem dX6_net_80 : decode cX6_net 80 = .ok (.getfield 95, 3) := by decide +kernel
theorem dX6_net_83 : decode cX6_net 83 = .ok (.iadd, 1) := by decide +kernel
theorem dX6_net_84 : decode cX6_net 84 = .ok (.ireturn, 1) := by decide +kernel
set_option maxRecDepth 20000 in
theorem ggX6_joint_X6_isNoJoint : GoodIn wsX6_joint wsX6_isNoJoint := goodIn_r _ [12, 1, 13, 45, 46, 47, 48, 49, 50, 51, 52, 53, 54, 55, 56, 57, 58, 59, 60, 61, 62, 63, 64, 65, 66, 67, 68, 69, 70] (by decide +kernel) (by decide +kernel)
set_option maxRecDepth 20000 in
theorem gX6_joint_X6_isNoJoint : GoodIn wsX6_joint (wsV RX6 98 RX6 yX6_isNoJoint wsX6_isNoJoint) := goodIn_app (goodIn_of _ (by decide +kernel)) ggX6_joint_X6_isNoJoint
set_option maxRecDepth 20000 in
theorem ggX6_joint_X6_cell : GoodIn wsX6_joint wsX6_cell := goodIn_r _ [16] (by decide +kernel) (by decide +kernel)
set_option maxRecDepth 20000 in
theorem gX6_joint_X6_cell : GoodIn wsX6_joint (va_wsS RX6 105 yX6_cell wsX6_cell) := goodIn_app (goodIn_of _ (by decide +kernel)) ggX6_joint_X6_cell
set_option maxRecDepth 20000 in
theorem ggX6_joint_X6_has : GoodIn wsX6_joint wsX6_has := goodIn_r _ [19] (by decide +kernel) (by decide +kernel)
set_option maxRecDepth 20000 in
theorem gX6_joint_X6_has : GoodIn wsX6_joint (va_wsS RX6 112 yX6_has wsX6_has) := goodIn_app (goodIn_of _ (by decide +kernel)) ggX6_joint_X6_has
set_option maxRecDepth 20000 in
theorem ggX6_joint_X6_flag : GoodIn wsX6_joint wsX6_flag := goodIn_r _ [22] (by decide +kernel) (by decide +kernel)
set_option maxRecDepth 20000 in
theorem gX6_joint_X6_flag : GoodIn wsX6_joint (va_wsS RX6 116 yX6_flag wsX6_flag) := goodIn_app (goodIn_of _ (by decide +kernel)) ggX6_joint_X6_flag
set_option maxRecDepth 20000 in
theorem ggX6_joint_X3_tide : GoodIn wsX6_joint wsX3_tide := goodIn_r _ [27, 28, 29, 58, 59, 60, 61, 62, 63, 64, 65, 66, 67, 68, 69, 70] (by decide +kernel) (by decide +kernel)
set_option maxRecDepth 20000 in
theorem gX6_joint_X3_tide : GoodIn wsX6_joint (wsV RX6 126 RX3 yX3_tide wsX3_tide) := goodIn_app (goodIn_of _ (by decide +kernel)) ggX6_joint_X3_tide
set_option maxRecDepth 20000 in
theorem ggX6_joint_X3_under : GoodIn wsX6_joint wsX3_under := goodIn_r _ [33, 34, 35, 15, 11, 16, 36, 37, 58, 59, 60, 61, 62, 63, 64, 65, 66, 67, 68, 69, 70] (by decide +kernel) (by decide +kernel)
set_option maxRecDepth 20000 in
theorem gX6_joint_X3_under : GoodIn wsX6_joint (wsV RX6 130 RX3 yX3_under wsX3_under) := goodIn_app (goodIn_of _ (by decide +kernel)) ggX6_joint_X3_under
set_option maxRecDepth 20000 in
theorem ggX6_joint_X3_beside : GoodIn wsX6_joint wsX3_beside := goodIn_r _ [41, 42, 43, 44, 18, 11, 19, 15, 16, 36, 37, 58, 59, 60, 61, 62, 63, 64, 65, 66, 67, 68, 69, 70] (by decide +kernel) (by decide +kernel)
set_option maxRecDepth 20000 in
theorem gX6_joint_X3_beside : GoodIn wsX6_joint (wsV RX6 136 RX3 yX3_beside wsX3_beside) := goodIn_app (goodIn_of _ (by decide +kernel)) ggX6_joint_X3_beside
theorem dX6_joint_0 : decode cX6_joint 0 = .ok (.aload_n 0, 1) := by decide +kernel
theorem dX6_joint_1 : decode cX6_joint 1 = .ok (.iload_n 1, 1) := by decide +kernel
theorem dX6_joint_2 : decode cX6_joint 2 = .ok (.invokevirtual 98, 3) := by decide +kernel
theorem dX6_joint_5 : decode cX6_joint 5 = .ok (.ifCond .eq 5, 3) := by decide +kernel
theorem dX6_joint_8 : decode cX6_joint 8 = .ok (.iconst (-1), 1) := by decide +kernel
theorem dX6_joint_9 : decode cX6_joint 9 = .ok (.ireturn, 1) := by decide +kernel
theorem dX6_joint_10 : decode cX6_joint 10 = .ok (.iload_n 2, 1) := by decide +kernel
theorem dX6_joint_11 : decode cX6_joint 11 = .ok (.tableswitch 120 0 4 #[33, 45, 60, 75, 104], 33) := by decide +kernel
theorem dX6_joint_44 : decode cX6_joint 44 = .ok (.aload_n 0, 1) := by decide +kernel
theorem dX6_joint_45 : decode cX6_joint 45 = .ok (.getfield 30, 3) := by decide +kernel
theorem dX6_joint_48 : decode cX6_joint 48 = .ok (.getfield 102, 3) := by decide +kernel
theorem dX6_joint_51 : decode cX6_joint 51 = .ok (.iload_n 1, 1) := by decide +kernel
theorem dX6_joint_52 : decode cX6_joint 52 = .ok (.invokestatic 105, 3) := by decide +kernel
theorem dX6_joint_55 : decode cX6_joint 55 = .ok (.ireturn, 1) := by decide +kernel
theorem dX6_joint_56 : decode cX6_joint 56 = .ok (.aload_n 0, 1) := by decide +kernel
theorem dX6_joint_57 : decode cX6_joint 57 = .ok (.getfield 30, 3) := by decide +kernel
theorem dX6_joint_60 : decode cX6_joint 60 = .ok (.getfield 109, 3) := by decide +kernel
theorem dX6_joint_63 : decode cX6_joint 63 = .ok (.iload_n 1, 1) := by decide +kernel
theorem dX6_joint_64 : decode cX6_joint 64 = .ok (.invokestatic 112, 3) := by decide +kernel
theorem dX6_joint_67 : decode cX6_joint 67 = .ok (.invokestatic 116, 3) := by decide +kernel
theorem dX6_joint_70 : decode cX6_joint 70 = .ok (.ireturn, 1) := by decide +kernel
theorem dX6_joint_71 : decode cX6_joint 71 = .ok (.aload_n 0, 1) := by decide +kernel
theorem dX6_joint_72 : decode cX6_joint 72 = .ok (.getfield 34, 3) := by decide +kernel
theorem dX6_joint_75 : decode cX6_joint 75 = .ok (.getfield 120, 3) := by decide +kernel
theorem dX6_joint_78 : decode cX6_joint 78 = .ok (.iload_n 1, 1) := by decide +kernel
theorem dX6_joint_79 : decode cX6_joint 79 = .ok (.invokestatic 112, 3) := by decide +kernel
theorem dX6_joint_82 : decode cX6_joint 82 = .ok (.invokestatic 116, 3) := by decide +kernel
theorem dX6_joint_85 : decode cX6_joint 85 = .ok (.ireturn, 1) := by decide +kernel
theorem dX6_joint_86 : decode cX6_joint 86 = .ok (.aload_n 0, 1) := by decide +kernel
theorem dX6_joint_87 : decode cX6_joint 87 = .ok (.getfield 30, 3) := by decide +kernel
theorem dX6_joint_90 : decode cX6_joint 90 = .ok (.aload_n 0, 1) := by decide +kernel
theorem dX6_joint_91 : decode cX6_joint 91 = .ok (.getfield 30, 3) := by decide +kernel
theorem dX6_joint_94 : decode cX6_joint 94 = .ok (.aload_n 0, 1) := by decide +kernel
theorem dX6_joint_95 : decode cX6_joint 95 = .ok (.getfield 34, 3) := by decide +kernel
theorem dX6_joint_98 : decode cX6_joint 98 = .ok (.getfield 123, 3) := by decide +kernel
theorem dX6_joint_101 : decode cX6_joint 101 = .ok (.invokevirtual 126, 3) := by decide +kernel
theorem dX6_joint_104 : decode cX6_joint 104 = .ok (.invokevirtual 130, 3) := by decide +kernel
theorem dX6_joint_107 : decode cX6_joint 107 = .ok (.iload_n 1, 1) := by decide +kernel
theorem dX6_joint_108 : decode cX6_joint 108 = .ok (.invokestatic 112, 3) := by decide +kernel
theorem dX6_joint_111 : decode cX6_joint 111 = .ok (.invokestatic 116, 3) := by decide +kernel
theorem dX6_joint_114 : decode cX6_joint 114 = .ok (.ireturn, 1) := by decide +kernel
theorem dX6_joint_115 : decode cX6_joint 115 = .ok (.aload_n 0, 1) := by decide +kernel
theorem dX6_joint_116 : decode cX6_joint 116 = .ok (.getfield 30, 3) := by decide +kernel
theorem dX6_joint_119 : decode cX6_joint 119 = .ok (.iload_n 1, 1) := by decide +kernel
theorem dX6_joint_120 : decode cX6_joint 120 = .ok (.aload_n 0, 1) := by decide +kernel
theorem dX6_joint_121 : decode cX6_joint 121 = .ok (.getfield 34, 3) := by decide +kernel
theorem dX6_joint_124 : decode cX6_joint 124 = .ok (.getfield 133, 3) := by decide +kernel
theorem dX6_joint_127 : decode cX6_joint 127 = .ok (.invokevirtual 136, 3) := by decide +kernel
theorem dX6_joint_130 : decode cX6_joint 130 = .ok (.ireturn, 1) := by decide +kernel
theorem dX6_joint_131 : decode cX6_joint 131 = .ok (.bipush (-2), 2) := by decide +kernel
theorem dX6_joint_133 : decode cX6_joint 133 = .ok (.ireturn, 1) := by decide +kernel
set_option maxRecDepth 20000 in
theorem ggX6_pipe_X6_isNoPipe : GoodIn wsX6_pipe wsX6_isNoPipe := goodIn_r _ [10, 1, 11, 21, 22, 23, 24, 25, 26, 27, 28, 29, 30, 31, 32, 33, 34, 35, 36, 37, 38, 39, 40, 41, 42, 43, 44, 45, 46] (by decide +kernel) (by decide +kernel)
set_option maxRecDepth 20000 in
theorem gX6_pipe_X6_isNoPipe : GoodIn wsX6_pipe (wsV RX6 140 RX6 yX6_isNoPipe wsX6_isNoPipe) := goodIn_app (goodIn_of _ (by decide +kernel)) ggX6_pipe_X6_isNoPipe
set_option maxRecDepth 20000 in
theorem ggX6_pipe_X6_cell : GoodIn wsX6_pipe wsX6_cell := goodIn_r _ [14] (by decide +kernel) (by decide +kernel)
set_option maxRecDepth 20000 in
theorem gX6_pipe_X6_cell : GoodIn wsX6_pipe (va_wsS RX6 105 yX6_cell wsX6_cell) := goodIn_app (goodIn_of _ (by decide +kernel)) ggX6_pipe_X6_cell
set_option maxRecDepth 20000 in
theorem ggX6_pipe_X6_has : GoodIn wsX6_pipe wsX6_has := goodIn_r _ [17] (by decide +kernel) (by decide +kernel)
set_option maxRecDepth 20000 in
theorem gX6_pipe_X6_has : GoodIn wsX6_pipe (va_wsS RX6 112 yX6_has wsX6_has) := goodIn_app (goodIn_of _ (by decide +kernel)) ggX6_pipe_X6_has
set_option maxRecDepth 20000 in
theorem ggX6_pipe_X6_flag : GoodIn wsX6_pipe wsX6_flag := goodIn_r _ [20] (by decide +kernel) (by decide +kernel)
set_option maxRecDepth 20000 in
theorem gX6_pipe_X6_flag : GoodIn wsX6_pipe (va_wsS RX6 116 yX6_flag wsX6_flag) := goodIn_app (goodIn_of _ (by decide +kernel)) ggX6_pipe_X6_flag
theorem dX6_pipe_0 : decode cX6_pipe 0 = .ok (.aload_n 0, 1) := by decide +kernel
theorem dX6_pipe_1 : decode cX6_pipe 1 = .ok (.iload_n 1, 1) := by decide +kernel
theorem dX6_pipe_2 : decode cX6_pipe 2 = .ok (.invokevirtual 140, 3) := by decide +kernel
theorem dX6_pipe_5 : decode cX6_pipe 5 = .ok (.ifCond .eq 5, 3) := by decide +kernel
theorem dX6_pipe_8 : decode cX6_pipe 8 = .ok (.iconst (-1), 1) := by decide +kernel
theorem dX6_pipe_9 : decode cX6_pipe 9 = .ok (.ireturn, 1) := by decide +kernel
theorem dX6_pipe_10 : decode cX6_pipe 10 = .ok (.iload_n 2, 1) := by decide +kernel
theorem dX6_pipe_11 : decode cX6_pipe 11 = .ok (.tableswitch 64 0 2 #[25, 37, 49], 25) := by decide +kernel
theorem dX6_pipe_36 : decode cX6_pipe 36 = .ok (.aload_n 0, 1) := by decide +kernel
theorem dX6_pipe_37 : decode cX6_pipe 37 = .ok (.getfield 30, 3) := by decide +kernel
theorem dX6_pipe_40 : decode cX6_pipe 40 = .ok (.getfield 143, 3) := by decide +kernel
theorem dX6_pipe_43 : decode cX6_pipe 43 = .ok (.iload_n 1, 1) := by decide +kernel
theorem dX6_pipe_44 : decode cX6_pipe 44 = .ok (.invokestatic 105, 3) := by decide +kernel
theorem dX6_pipe_47 : decode cX6_pipe 47 = .ok (.ireturn, 1) := by decide +kernel
theorem dX6_pipe_48 : decode cX6_pipe 48 = .ok (.aload_n 0, 1) := by decide +kernel
theorem dX6_pipe_49 : decode cX6_pipe 49 = .ok (.getfield 30, 3) := by decide +kernel
theorem dX6_pipe_52 : decode cX6_pipe 52 = .ok (.getfield 146, 3) := by decide +kernel
theorem dX6_pipe_55 : decode cX6_pipe 55 = .ok (.iload_n 1, 1) := by decide +kernel
theorem dX6_pipe_56 : decode cX6_pipe 56 = .ok (.invokestatic 105, 3) := by decide +kernel
theorem dX6_pipe_59 : decode cX6_pipe 59 = .ok (.ireturn, 1) := by decide +kernel
theorem dX6_pipe_60 : decode cX6_pipe 60 = .ok (.aload_n 0, 1) := by decide +kernel
theorem dX6_pipe_61 : decode cX6_pipe 61 = .ok (.getfield 34, 3) := by decide +kernel
theorem dX6_pipe_64 : decode cX6_pipe 64 = .ok (.getfield 133, 3) := by decide +kernel
theorem dX6_pipe_67 : decode cX6_pipe 67 = .ok (.iload_n 1, 1) := by decide +kernel
theorem dX6_pipe_68 : decode cX6_pipe 68 = .ok (.invokestatic 112, 3) := by decide +kernel
theorem dX6_pipe_71 : decode cX6_pipe 71 = .ok (.invokestatic 116, 3) := by decide +kernel
theorem dX6_pipe_74 : decode cX6_pipe 74 = .ok (.ireturn, 1) := by decide +kernel
theorem dX6_pipe_75 : decode cX6_pipe 75 = .ok (.bipush (-2), 2) := by decide +kernel
theorem dX6_pipe_77 : decode cX6_pipe 77 = .ok (.ireturn, 1) := by decide +kernel
set_option maxRecDepth 20000 in
theorem ggX6_walker_X6_isNoWalker : GoodIn wsX6_walker wsX6_isNoWalker := goodIn_r _ [15, 5, 16, 66, 67, 68, 69, 70, 71, 72, 73, 74, 75, 76, 77, 78, 88, 89, 90, 91, 92, 93, 94, 95, 96, 97, 98, 99, 100] (by decide +kernel) (by decide +kernel)
set_option maxRecDepth 20000 in
theorem gX6_walker_X6_isNoWalker : GoodIn wsX6_walker (wsV RX6 149 RX6 yX6_isNoWalker wsX6_isNoWalker) := goodIn_app (goodIn_of _ (by decide +kernel)) ggX6_walker_X6_isNoWalker
set_option maxRecDepth 20000 in
theorem ggX6_walker_X6_cell : GoodIn wsX6_walker wsX6_cell := goodIn_r _ [19] (by decide +kernel) (by decide +kernel)
set_option maxRecDepth 20000 in
theorem gX6_walker_X6_cell : GoodIn wsX6_walker (va_wsS RX6 105 yX6_cell wsX6_cell) := goodIn_app (goodIn_of _ (by decide +kernel)) ggX6_walker_X6_cell
set_option maxRecDepth 20000 in
theorem ggX6_walker_X6_has : GoodIn wsX6_walker wsX6_has := goodIn_r _ [22] (by decide +kernel) (by decide +kernel)
set_option maxRecDepth 20000 in
theorem gX6_walker_X6_has : GoodIn wsX6_walker (va_wsS RX6 112 yX6_has wsX6_has) := goodIn_app (goodIn_of _ (by decide +kernel)) ggX6_walker_X6_has
set_option maxRecDepth 20000 in
theorem ggX6_walker_X6_flag : GoodIn wsX6_walker wsX6_flag := goodIn_r _ [25] (by decide +kernel) (by decide +kernel)
set_option maxRecDepth 20000 in
theorem gX6_walker_X6_flag : GoodIn wsX6_walker (va_wsS RX6 116 yX6_flag wsX6_flag) := goodIn_app (goodIn_of _ (by decide +kernel)) ggX6_walker_X6_flag
set_option maxRecDepth 20000 in
theorem ggX6_walker_X3_tide : GoodIn wsX6_walker wsX3_tide := goodIn_r _ [30, 31, 32, 88, 89, 90, 91, 92, 93, 94, 95, 96, 97, 98, 99, 100] (by decide +kernel) (by decide +kernel)
set_option maxRecDepth 20000 in
theorem gX6_walker_X3_tide : GoodIn wsX6_walker (wsV RX6 126 RX3 yX3_tide wsX3_tide) := goodIn_app (goodIn_of _ (by decide +kernel)) ggX6_walker_X3_tide
set_option maxRecDepth 20000 in
theorem ggX6_walker_X2_nextOf : GoodIn wsX6_walker wsX2_nextOf := goodIn_r _ [37, 38, 39, 40, 41, 42, 21, 14, 22, 18, 19, 43, 44, 45, 29, 46, 47, 48, 49, 50, 51, 52, 53, 54, 55, 56, 57, 58, 59, 60, 61, 62, 63, 64, 65, 79, 80, 81, 82, 83, 84, 85, 86, 87, 88, 89, 90, 91, 92, 93, 94, 95, 96, 97, 98, 99, 100] (by decide +kernel) (by decide +kernel)
set_option maxRecDepth 20000 in
theorem gX6_walker_X2_nextOf : GoodIn wsX6_walker (wsV RX6 170 RX2 yX2_nextOf wsX2_nextOf) := goodIn_app (goodIn_of _ (by decide +kernel)) ggX6_walker_X2_nextOf
theorem dX6_walker_0 : decode cX6_walker 0 = .ok (.aload_n 0, 1) := by decide +kernel
theorem dX6_walker_1 : decode cX6_walker 1 = .ok (.iload_n 1, 1) := by decide +kernel
theorem dX6_walker_2 : decode cX6_walker 2 = .ok (.invokevirtual 149, 3) := by decide +kernel
theorem dX6_walker_5 : decode cX6_walker 5 = .ok (.ifCond .eq 5, 3) := by decide +kernel
theorem dX6_walker_8 : decode cX6_walker 8 = .ok (.iconst (-1), 1) := by decide +kernel
theorem dX6_walker_9 : decode cX6_walker 9 = .ok (.ireturn, 1) := by decide +kernel
theorem dX6_walker_10 : decode cX6_walker 10 = .ok (.iload_n 2, 1) := by decide +kernel
theorem dX6_walker_11 : decode cX6_walker 11 = .ok (.tableswitch 159 0 7 #[45, 57, 69, 81, 93, 105, 120, 147], 45) := by decide +kernel
theorem dX6_walker_56 : decode cX6_walker 56 = .ok (.aload_n 0, 1) := by decide +kernel
theorem dX6_walker_57 : decode cX6_walker 57 = .ok (.getfield 34, 3) := by decide +kernel
theorem dX6_walker_60 : decode cX6_walker 60 = .ok (.getfield 152, 3) := by decide +kernel
theorem dX6_walker_63 : decode cX6_walker 63 = .ok (.iload_n 1, 1) := by decide +kernel
theorem dX6_walker_64 : decode cX6_walker 64 = .ok (.invokestatic 105, 3) := by decide +kernel
theorem dX6_walker_67 : decode cX6_walker 67 = .ok (.ireturn, 1) := by decide +kernel
theorem dX6_walker_68 : decode cX6_walker 68 = .ok (.aload_n 0, 1) := by decide +kernel
theorem dX6_walker_69 : decode cX6_walker 69 = .ok (.getfield 34, 3) := by decide +kernel
theorem dX6_walker_72 : decode cX6_walker 72 = .ok (.getfield 155, 3) := by decide +kernel
theorem dX6_walker_75 : decode cX6_walker 75 = .ok (.iload_n 1, 1) := by decide +kernel
theorem dX6_walker_76 : decode cX6_walker 76 = .ok (.invokestatic 105, 3) := by decide +kernel
theorem dX6_walker_79 : decode cX6_walker 79 = .ok (.ireturn, 1) := by decide +kernel
theorem dX6_walker_80 : decode cX6_walker 80 = .ok (.aload_n 0, 1) := by decide +kernel
theorem dX6_walker_81 : decode cX6_walker 81 = .ok (.getfield 34, 3) := by decide +kernel
theorem dX6_walker_84 : decode cX6_walker 84 = .ok (.getfield 158, 3) := by decide +kernel
theorem dX6_walker_87 : decode cX6_walker 87 = .ok (.iload_n 1, 1) := by decide +kernel
theorem dX6_walker_88 : decode cX6_walker 88 = .ok (.invokestatic 105, 3) := by decide +kernel
theorem dX6_walker_91 : decode cX6_walker 91 = .ok (.ireturn, 1) := by decide +kernel
theorem dX6_walker_92 : decode cX6_walker 92 = .ok (.aload_n 0, 1) := by decide +kernel
theorem dX6_walker_93 : decode cX6_walker 93 = .ok (.getfield 30, 3) := by decide +kernel
theorem dX6_walker_96 : decode cX6_walker 96 = .ok (.getfield 161, 3) := by decide +kernel
theorem dX6_walker_99 : decode cX6_walker 99 = .ok (.iload_n 1, 1) := by decide +kernel
theorem dX6_walker_100 : decode cX6_walker 100 = .ok (.invokestatic 105, 3) := by decide +kernel
theorem dX6_walker_103 : decode cX6_walker 103 = .ok (.ireturn, 1) := by decide +kernel
theorem dX6_walker_104 : decode cX6_walker 104 = .ok (.aload_n 0, 1) := by decide +kernel
theorem dX6_walker_105 : decode cX6_walker 105 = .ok (.getfield 30, 3) := by decide +kernel
theorem dX6_walker_108 : decode cX6_walker 108 = .ok (.getfield 164, 3) := by decide +kernel
theorem dX6_walker_111 : decode cX6_walker 111 = .ok (.iload_n 1, 1) := by decide +kernel
theorem dX6_walker_112 : decode cX6_walker 112 = .ok (.invokestatic 105, 3) := by decide +kernel
theorem dX6_walker_115 : decode cX6_walker 115 = .ok (.ireturn, 1) := by decide +kernel
theorem dX6_walker_116 : decode cX6_walker 116 = .ok (.aload_n 0, 1) := by decide +kernel
theorem dX6_walker_117 : decode cX6_walker 117 = .ok (.getfield 34, 3) := by decide +kernel
theorem dX6_walker_120 : decode cX6_walker 120 = .ok (.getfield 167, 3) := by decide +kernel
theorem dX6_walker_123 : decode cX6_walker 123 = .ok (.iload_n 1, 1) := by decide +kernel
theorem dX6_walker_124 : decode cX6_walker 124 = .ok (.invokestatic 112, 3) := by decide +kernel
theorem dX6_walker_127 : decode cX6_walker 127 = .ok (.invokestatic 116, 3) := by decide +kernel
theorem dX6_walker_130 : decode cX6_walker 130 = .ok (.ireturn, 1) := by decide +kernel
theorem dX6_walker_131 : decode cX6_walker 131 = .ok (.aload_n 0, 1) := by decide +kernel
theorem dX6_walker_132 : decode cX6_walker 132 = .ok (.getfield 34, 3) := by decide +kernel
theorem dX6_walker_135 : decode cX6_walker 135 = .ok (.iload_n 1, 1) := by decide +kernel
theorem dX6_walker_136 : decode cX6_walker 136 = .ok (.aload_n 0, 1) := by decide +kernel
theorem dX6_walker_137 : decode cX6_walker 137 = .ok (.getfield 30, 3) := by decide +kernel
theorem dX6_walker_140 : decode cX6_walker 140 = .ok (.aload_n 0, 1) := by decide +kernel
theorem dX6_walker_141 : decode cX6_walker 141 = .ok (.getfield 30, 3) := by decide +kernel
theorem dX6_walker_144 : decode cX6_walker 144 = .ok (.aload_n 0, 1) := by decide +kernel
theorem dX6_walker_145 : decode cX6_walker 145 = .ok (.getfield 34, 3) := by decide +kernel
theorem dX6_walker_148 : decode cX6_walker 148 = .ok (.getfield 123, 3) := by decide +kernel
theorem dX6_walker_151 : decode cX6_walker 151 = .ok (.invokevirtual 126, 3) := by decide +kernel
theorem dX6_walker_154 : decode cX6_walker 154 = .ok (.invokevirtual 170, 3) := by decide +kernel
theorem dX6_walker_157 : decode cX6_walker 157 = .ok (.ireturn, 1) := by decide +kernel
theorem dX6_walker_158 : decode cX6_walker 158 = .ok (.aload_n 0, 1) := by decide +kernel
theorem dX6_walker_159 : decode cX6_walker 159 = .ok (.getfield 30, 3) := by decide +kernel
theorem dX6_walker_162 : decode cX6_walker 162 = .ok (.getfield 174, 3) := by decide +kernel
theorem dX6_walker_165 : decode cX6_walker 165 = .ok (.iload_n 1, 1) := by decide +kernel
theorem dX6_walker_166 : decode cX6_walker 166 = .ok (.invokestatic 105, 3) := by decide +kernel
theorem dX6_walker_169 : decode cX6_walker 169 = .ok (.ireturn, 1) := by decide +kernel
theorem dX6_walker_170 : decode cX6_walker 170 = .ok (.bipush (-2), 2) := by decide +kernel
theorem dX6_walker_172 : decode cX6_walker 172 = .ok (.ireturn, 1) := by decide +kernel
set_option maxRecDepth 20000 in
theorem ggX6_step_X5_push : GoodIn wsX6_step wsX5_push := goodIn_r _ [9, 10, 11, 12, 13, 14, 8, 15, 16, 17, 18, 19, 20, 21, 22, 23, 24, 25, 26, 27, 28, 29, 30, 31, 32, 33, 34, 35, 36, 37, 38, 119, 120, 110, 111, 112, 113, 114, 115, 116, 117, 118] (by decide +kernel) (by decide +kernel)
set_option maxRecDepth 20000 in
theorem gX6_step_X5_push : GoodIn wsX6_step (wsV RX6 177 RX5 yX5_push wsX5_push) := goodIn_app (goodIn_of _ (by decide +kernel)) ggX6_step_X5_push
set_option maxRecDepth 20000 in
theorem ggX6_step_X2_advance : GoodIn wsX6_step wsX2_advance := goodIn_r _ [42, 33, 43, 44, 45, 46, 47, 48, 49, 50, 51, 52, 23, 53, 29, 30, 54, 35, 55, 56, 57, 58, 59, 25, 31, 26, 28, 34, 36, 60, 61, 62, 63, 64, 65, 66, 67, 68, 69, 70, 71, 72, 73, 74, 75, 76, 77, 78, 79, 80, 81, 82, 83, 84, 85, 86, 27, 87, 88, 89, 90, 37, 38, 91, 92, 93, 94, 95, 96, 32, 110, 111, 112, 113, 114, 115, 116, 117, 118, 121, 122, 123, 124, 125, 126, 127, 128, 129, 130, 131, 132, 133] (by decide +kernel) (by decide +kernel)
set_option maxRecDepth 20000 in
theorem gX6_step_X2_advance : GoodIn wsX6_step (wsV RX6 181 RX2 yX2_advance wsX2_advance) := goodIn_app (goodIn_of _ (by decide +kernel)) ggX6_step_X2_advance
theorem dX6_step_0 : decode cX6_step 0 = .ok (.aload_n 0, 1) := by decide +kernel
theorem dX6_step_1 : decode cX6_step 1 = .ok (.getfield 48, 3) := by decide +kernel
theorem dX6_step_4 : decode cX6_step 4 = .ok (.aload_n 0, 1) := by decide +kernel
theorem dX6_step_5 : decode cX6_step 5 = .ok (.getfield 34, 3) := by decide +kernel
theorem dX6_step_8 : decode cX6_step 8 = .ok (.invokevirtual 177, 3) := by decide +kernel
theorem dX6_step_11 : decode cX6_step 11 = .ok (.aload_n 0, 1) := by decide +kernel
theorem dX6_step_12 : decode cX6_step 12 = .ok (.getfield 34, 3) := by decide +kernel
theorem dX6_step_15 : decode cX6_step 15 = .ok (.getfield 167, 3) := by decide +kernel
theorem dX6_step_18 : decode cX6_step 18 = .ok (.istore_n 1, 1) := by decide +kernel
theorem dX6_step_19 : decode cX6_step 19 = .ok (.aload_n 0, 1) := by decide +kernel
theorem dX6_step_20 : decode cX6_step 20 = .ok (.getfield 34, 3) := by decide +kernel
theorem dX6_step_23 : decode cX6_step 23 = .ok (.aload_n 0, 1) := by decide +kernel
theorem dX6_step_24 : decode cX6_step 24 = .ok (.getfield 30, 3) := by decide +kernel
theorem dX6_step_27 : decode cX6_step 27 = .ok (.invokevirtual 181, 3) := by decide +kernel
theorem dX6_step_30 : decode cX6_step 30 = .ok (.aload_n 0, 1) := by decide +kernel
theorem dX6_step_31 : decode cX6_step 31 = .ok (.getfield 34, 3) := by decide +kernel
theorem dX6_step_34 : decode cX6_step 34 = .ok (.getfield 167, 3) := by decide +kernel
theorem dX6_step_37 : decode cX6_step 37 = .ok (.iload_n 1, 1) := by decide +kernel
theorem dX6_step_38 : decode cX6_step 38 = .ok (.iconst (-1), 1) := by decide +kernel
theorem dX6_step_39 : decode cX6_step 39 = .ok (.ixor, 1) := by decide +kernel
theorem dX6_step_40 : decode cX6_step 40 = .ok (.iand, 1) := by decide +kernel
theorem dX6_step_41 : decode cX6_step 41 = .ok (.ireturn, 1) := by decide +kernel
set_option maxRecDepth 20000 in
theorem ggX6_shut_X6_isNoPipe : GoodIn wsX6_shut wsX6_isNoPipe := goodIn_r _ [8, 9, 10, 56, 57, 58, 59, 60, 61, 62, 63, 64, 65, 66, 67, 68, 78, 79, 80, 81, 82, 83, 84, 85, 86, 87, 88, 89, 90] (by decide +kernel) (by decide +kernel)
set_option maxRecDepth 20000 in
theorem gX6_shut_X6_isNoPipe : GoodIn wsX6_shut (wsV RX6 140 RX6 yX6_isNoPipe wsX6_isNoPipe) := goodIn_app (goodIn_of _ (by decide +kernel)) ggX6_shut_X6_isNoPipe
set_option maxRecDepth 20000 in
theorem ggX6_shut_X5_push : GoodIn wsX6_shut wsX5_push := goodIn_r _ [15, 16, 17, 18, 19, 20, 14, 21, 22, 23, 24, 25, 26, 27, 28, 29, 30, 31, 32, 33, 34, 35, 36, 37, 38, 39, 40, 7, 41, 42, 43, 91, 92, 69, 70, 71, 72, 73, 74, 75, 76, 77] (by decide +kernel) (by decide +kernel)
set_option maxRecDepth 20000 in
theorem gX6_shut_X5_push : GoodIn wsX6_shut (wsV RX6 177 RX5 yX5_push wsX5_push) := goodIn_app (goodIn_of _ (by decide +kernel)) ggX6_shut_X5_push
set_option maxRecDepth 20000 in
theorem ggX6_shut_X2_turnPipe : GoodIn wsX6_shut wsX2_turnPipe := goodIn_r _ [47, 37, 48, 7, 49, 69, 70, 71, 72, 73, 74, 75, 76, 77] (by decide +kernel) (by decide +kernel)
set_option maxRecDepth 20000 in
theorem gX6_shut_X2_turnPipe : GoodIn wsX6_shut (wsV RX6 184 RX2 yX2_turnPipe wsX2_turnPipe) := goodIn_app (goodIn_of _ (by decide +kernel)) ggX6_shut_X2_turnPipe
set_option maxRecDepth 20000 in
theorem ggX6_shut_X6_has : GoodIn wsX6_shut wsX6_has := goodIn_r _ [52] (by decide +kernel) (by decide +kernel)
set_option maxRecDepth 20000 in
theorem gX6_shut_X6_has : GoodIn wsX6_shut (va_wsS RX6 112 yX6_has wsX6_has) := goodIn_app (goodIn_of _ (by decide +kernel)) ggX6_shut_X6_has
set_option maxRecDepth 20000 in
theorem ggX6_shut_X6_flag : GoodIn wsX6_shut wsX6_flag := goodIn_r _ [55] (by decide +kernel) (by decide +kernel)
set_option maxRecDepth 20000 in
theorem gX6_shut_X6_flag : GoodIn wsX6_shut (va_wsS RX6 116 yX6_flag wsX6_flag) := goodIn_app (goodIn_of _ (by decide +kernel)) ggX6_shut_X6_flag
theorem dX6_shut_0 : decode cX6_shut 0 = .ok (.aload_n 0, 1) := by decide +kernel
theorem dX6_shut_1 : decode cX6_shut 1 = .ok (.iload_n 1, 1) := by decide +kernel
theorem dX6_shut_2 : decode cX6_shut 2 = .ok (.invokevirtual 140, 3) := by decide +kernel
theorem dX6_shut_5 : decode cX6_shut 5 = .ok (.ifCond .eq 5, 3) := by decide +kernel
theorem dX6_shut_8 : decode cX6_shut 8 = .ok (.iconst (-1), 1) := by decide +kernel
theorem dX6_shut_9 : decode cX6_shut 9 = .ok (.ireturn, 1) := by decide +kernel
theorem dX6_shut_10 : decode cX6_shut 10 = .ok (.aload_n 0, 1) := by decide +kernel
theorem dX6_shut_11 : decode cX6_shut 11 = .ok (.getfield 48, 3) := by decide +kernel
theorem dX6_shut_14 : decode cX6_shut 14 = .ok (.aload_n 0, 1) := by decide +kernel
theorem dX6_shut_15 : decode cX6_shut 15 = .ok (.getfield 34, 3) := by decide +kernel
theorem dX6_shut_18 : decode cX6_shut 18 = .ok (.invokevirtual 177, 3) := by decide +kernel
theorem dX6_shut_21 : decode cX6_shut 21 = .ok (.aload_n 0, 1) := by decide +kernel
theorem dX6_shut_22 : decode cX6_shut 22 = .ok (.getfield 34, 3) := by decide +kernel
theorem dX6_shut_25 : decode cX6_shut 25 = .ok (.iload_n 1, 1) := by decide +kernel
theorem dX6_shut_26 : decode cX6_shut 26 = .ok (.invokevirtual 184, 3) := by decide +kernel
theorem dX6_shut_29 : decode cX6_shut 29 = .ok (.aload_n 0, 1) := by decide +kernel
theorem dX6_shut_30 : decode cX6_shut 30 = .ok (.getfield 34, 3) := by decide +kernel
theorem dX6_shut_33 : decode cX6_shut 33 = .ok (.getfield 133, 3) := by decide +kernel
theorem dX6_shut_36 : decode cX6_shut 36 = .ok (.iload_n 1, 1) := by decide +kernel
theorem dX6_shut_37 : decode cX6_shut 37 = .ok (.invokestatic 112, 3) := by decide +kernel
theorem dX6_shut_40 : decode cX6_shut 40 = .ok (.invokestatic 116, 3) := by decide +kernel
theorem dX6_shut_43 : decode cX6_shut 43 = .ok (.ireturn, 1) := by decide +kernel
set_option maxRecDepth 20000 in
theorem ggX6_seal_X6_isNoJoint : GoodIn wsX6_seal wsX6_isNoJoint := goodIn_r _ [10, 1, 11, 57, 58, 59, 60, 61, 62, 63, 64, 65, 66, 67, 68, 69, 70, 71, 72, 73, 74, 75, 76, 77, 78, 79, 80, 81, 82] (by decide +kernel) (by decide +kernel)
set_option maxRecDepth 20000 in
theorem gX6_seal_X6_isNoJoint : GoodIn wsX6_seal (wsV RX6 98 RX6 yX6_isNoJoint wsX6_isNoJoint) := goodIn_app (goodIn_of _ (by decide +kernel)) ggX6_seal_X6_isNoJoint
set_option maxRecDepth 20000 in
theorem ggX6_seal_X6_has : GoodIn wsX6_seal wsX6_has := goodIn_r _ [14] (by decide +kernel) (by decide +kernel)
set_option maxRecDepth 20000 in
theorem gX6_seal_X6_has : GoodIn wsX6_seal (va_wsS RX6 112 yX6_has wsX6_has) := goodIn_app (goodIn_of _ (by decide +kernel)) ggX6_seal_X6_has
set_option maxRecDepth 20000 in
theorem ggX6_seal_X5_push : GoodIn wsX6_seal wsX5_push := goodIn_r _ [19, 20, 21, 22, 23, 24, 18, 25, 26, 27, 28, 29, 30, 31, 32, 33, 34, 35, 36, 37, 38, 39, 40, 41, 42, 43, 44, 9, 45, 46, 47, 92, 93, 83, 84, 85, 86, 87, 88, 89, 90, 91] (by decide +kernel) (by decide +kernel)
set_option maxRecDepth 20000 in
theorem gX6_seal_X5_push : GoodIn wsX6_seal (wsV RX6 177 RX5 yX5_push wsX5_push) := goodIn_app (goodIn_of _ (by decide +kernel)) ggX6_seal_X5_push
set_option maxRecDepth 20000 in
theorem ggX6_seal_X2_turnLid : GoodIn wsX6_seal wsX2_turnLid := goodIn_r _ [51, 42, 52, 9, 53, 83, 84, 85, 86, 87, 88, 89, 90, 91] (by decide +kernel) (by decide +kernel)
set_option maxRecDepth 20000 in
theorem gX6_seal_X2_turnLid : GoodIn wsX6_seal (wsV RX6 187 RX2 yX2_turnLid wsX2_turnLid) := goodIn_app (goodIn_of _ (by decide +kernel)) ggX6_seal_X2_turnLid
set_option maxRecDepth 20000 in
theorem ggX6_seal_X6_flag : GoodIn wsX6_seal wsX6_flag := goodIn_r _ [56] (by decide +kernel) (by decide +kernel)
set_option maxRecDepth 20000 in
theorem gX6_seal_X6_flag : GoodIn wsX6_seal (va_wsS RX6 116 yX6_flag wsX6_flag) := goodIn_app (goodIn_of _ (by decide +kernel)) ggX6_seal_X6_flag
theorem dX6_seal_0 : decode cX6_seal 0 = .ok (.aload_n 0, 1) := by decide +kernel
theorem dX6_seal_1 : decode cX6_seal 1 = .ok (.iload_n 1, 1) := by decide +kernel
theorem dX6_seal_2 : decode cX6_seal 2 = .ok (.invokevirtual 98, 3) := by decide +kernel
theorem dX6_seal_5 : decode cX6_seal 5 = .ok (.ifCond .eq 5, 3) := by decide +kernel
theorem dX6_seal_8 : decode cX6_seal 8 = .ok (.iconst (-1), 1) := by decide +kernel
theorem dX6_seal_9 : decode cX6_seal 9 = .ok (.ireturn, 1) := by decide +kernel
theorem dX6_seal_10 : decode cX6_seal 10 = .ok (.aload_n 0, 1) := by decide +kernel
theorem dX6_seal_11 : decode cX6_seal 11 = .ok (.getfield 30, 3) := by decide +kernel
theorem dX6_seal_14 : decode cX6_seal 14 = .ok (.getfield 109, 3) := by decide +kernel
theorem dX6_seal_17 : decode cX6_seal 17 = .ok (.iload_n 1, 1) := by decide +kernel
theorem dX6_seal_18 : decode cX6_seal 18 = .ok (.invokestatic 112, 3) := by decide +kernel
theorem dX6_seal_21 : decode cX6_seal 21 = .ok (.ifCond .ne 6, 3) := by decide +kernel
theorem dX6_seal_24 : decode cX6_seal 24 = .ok (.bipush (-3), 2) := by decide +kernel
theorem dX6_seal_26 : decode cX6_seal 26 = .ok (.ireturn, 1) := by decide +kernel
theorem dX6_seal_27 : decode cX6_seal 27 = .ok (.aload_n 0, 1) := by decide +kernel
theorem dX6_seal_28 : decode cX6_seal 28 = .ok (.getfield 48, 3) := by decide +kernel
theorem dX6_seal_31 : decode cX6_seal 31 = .ok (.aload_n 0, 1) := by decide +kernel
theorem dX6_seal_32 : decode cX6_seal 32 = .ok (.getfield 34, 3) := by decide +kernel
theorem dX6_seal_35 : decode cX6_seal 35 = .ok (.invokevirtual 177, 3) := by decide +kernel
theorem dX6_seal_38 : decode cX6_seal 38 = .ok (.aload_n 0, 1) := by decide +kernel
theorem dX6_seal_39 : decode cX6_seal 39 = .ok (.getfield 34, 3) := by decide +kernel
theorem dX6_seal_42 : decode cX6_seal 42 = .ok (.iload_n 1, 1) := by decide +kernel
theorem dX6_seal_43 : decode cX6_seal 43 = .ok (.invokevirtual 187, 3) := by decide +kernel
theorem dX6_seal_46 : decode cX6_seal 46 = .ok (.aload_n 0, 1) := by decide +kernel
theorem dX6_seal_47 : decode cX6_seal 47 = .ok (.getfield 34, 3) := by decide +kernel
theorem dX6_seal_50 : decode cX6_seal 50 = .ok (.getfield 120, 3) := by decide +kernel
theorem dX6_seal_53 : decode cX6_seal 53 = .ok (.iload_n 1, 1) := by decide +kernel
theorem dX6_seal_54 : decode cX6_seal 54 = .ok (.invokestatic 112, 3) := by decide +kernel
theorem dX6_seal_57 : decode cX6_seal 57 = .ok (.invokestatic 116, 3) := by decide +kernel
theorem dX6_seal_60 : decode cX6_seal 60 = .ok (.ireturn, 1) := by decide +kernel
set_option maxRecDepth 20000 in
theorem ggX6_call_X6_isNoWalker : GoodIn wsX6_call wsX6_isNoWalker := goodIn_r _ [9, 10, 11, 53, 54, 55, 56, 57, 58, 59, 60, 61, 62, 63, 64, 65, 75, 76, 77, 78, 79, 80, 81, 82, 83, 84, 85, 86, 87] (by decide +kernel) (by decide +kernel)
set_option maxRecDepth 20000 in
theorem gX6_call_X6_isNoWalker : GoodIn wsX6_call (wsV RX6 149 RX6 yX6_isNoWalker wsX6_isNoWalker) := goodIn_app (goodIn_of _ (by decide +kernel)) ggX6_call_X6_isNoWalker
set_option maxRecDepth 20000 in
theorem ggX6_call_X6_has : GoodIn wsX6_call wsX6_has := goodIn_r _ [14] (by decide +kernel) (by decide +kernel)
set_option maxRecDepth 20000 in
theorem gX6_call_X6_has : GoodIn wsX6_call (va_wsS RX6 112 yX6_has wsX6_has) := goodIn_app (goodIn_of _ (by decide +kernel)) ggX6_call_X6_has
set_option maxRecDepth 20000 in
theorem ggX6_call_X5_push : GoodIn wsX6_call wsX5_push := goodIn_r _ [19, 20, 21, 22, 23, 24, 18, 25, 26, 27, 28, 29, 30, 31, 32, 33, 34, 35, 36, 37, 38, 39, 40, 41, 42, 43, 44, 8, 45, 46, 47, 88, 89, 66, 67, 68, 69, 70, 71, 72, 73, 74] (by decide +kernel) (by decide +kernel)
set_option maxRecDepth 20000 in
theorem gX6_call_X5_push : GoodIn wsX6_call (wsV RX6 177 RX5 yX5_push wsX5_push) := goodIn_app (goodIn_of _ (by decide +kernel)) ggX6_call_X5_push
set_option maxRecDepth 20000 in
theorem ggX6_call_X6_cell : GoodIn wsX6_call wsX6_cell := goodIn_r _ [45] (by decide +kernel) (by decide +kernel)
set_option maxRecDepth 20000 in
theorem gX6_call_X6_cell : GoodIn wsX6_call (va_wsS RX6 105 yX6_cell wsX6_cell) := goodIn_app (goodIn_of _ (by decide +kernel)) ggX6_call_X6_cell
set_option maxRecDepth 20000 in
theorem ggX6_call_X2_callBack : GoodIn wsX6_call wsX2_callBack := goodIn_r _ [52, 36, 37, 46, 8, 47, 66, 67, 68, 69, 70, 71, 72, 73, 74] (by decide +kernel) (by decide +kernel)
set_option maxRecDepth 20000 in
theorem gX6_call_X2_callBack : GoodIn wsX6_call (wsV RX6 190 RX2 yX2_callBack wsX2_callBack) := goodIn_app (goodIn_of _ (by decide +kernel)) ggX6_call_X2_callBack
theorem dX6_call_0 : decode cX6_call 0 = .ok (.aload_n 0, 1) := by decide +kernel
theorem dX6_call_1 : decode cX6_call 1 = .ok (.iload_n 1, 1) := by decide +kernel
theorem dX6_call_2 : decode cX6_call 2 = .ok (.invokevirtual 149, 3) := by decide +kernel
theorem dX6_call_5 : decode cX6_call 5 = .ok (.ifCond .eq 5, 3) := by decide +kernel
theorem dX6_call_8 : decode cX6_call 8 = .ok (.iconst (-1), 1) := by decide +kernel
theorem dX6_call_9 : decode cX6_call 9 = .ok (.ireturn, 1) := by decide +kernel
theorem dX6_call_10 : decode cX6_call 10 = .ok (.aload_n 0, 1) := by decide +kernel
theorem dX6_call_11 : decode cX6_call 11 = .ok (.getfield 34, 3) := by decide +kernel
theorem dX6_call_14 : decode cX6_call 14 = .ok (.getfield 167, 3) := by decide +kernel
theorem dX6_call_17 : decode cX6_call 17 = .ok (.iload_n 1, 1) := by decide +kernel
theorem dX6_call_18 : decode cX6_call 18 = .ok (.invokestatic 112, 3) := by decide +kernel
theorem dX6_call_21 : decode cX6_call 21 = .ok (.ifCond .eq 6, 3) := by decide +kernel
theorem dX6_call_24 : decode cX6_call 24 = .ok (.bipush (-3), 2) := by decide +kernel
theorem dX6_call_26 : decode cX6_call 26 = .ok (.ireturn, 1) := by decide +kernel
theorem dX6_call_27 : decode cX6_call 27 = .ok (.aload_n 0, 1) := by decide +kernel
theorem dX6_call_28 : decode cX6_call 28 = .ok (.getfield 48, 3) := by decide +kernel
theorem dX6_call_31 : decode cX6_call 31 = .ok (.aload_n 0, 1) := by decide +kernel
theorem dX6_call_32 : decode cX6_call 32 = .ok (.getfield 34, 3) := by decide +kernel
theorem dX6_call_35 : decode cX6_call 35 = .ok (.invokevirtual 177, 3) := by decide +kernel
theorem dX6_call_38 : decode cX6_call 38 = .ok (.aload_n 0, 1) := by decide +kernel
theorem dX6_call_39 : decode cX6_call 39 = .ok (.getfield 34, 3) := by decide +kernel
theorem dX6_call_42 : decode cX6_call 42 = .ok (.getfield 158, 3) := by decide +kernel
theorem dX6_call_45 : decode cX6_call 45 = .ok (.iload_n 1, 1) := by decide +kernel
theorem dX6_call_46 : decode cX6_call 46 = .ok (.invokestatic 105, 3) := by decide +kernel
theorem dX6_call_49 : decode cX6_call 49 = .ok (.istore_n 2, 1) := by decide +kernel
theorem dX6_call_50 : decode cX6_call 50 = .ok (.aload_n 0, 1) := by decide +kernel
theorem dX6_call_51 : decode cX6_call 51 = .ok (.getfield 34, 3) := by decide +kernel
theorem dX6_call_54 : decode cX6_call 54 = .ok (.iload_n 1, 1) := by decide +kernel
theorem dX6_call_55 : decode cX6_call 55 = .ok (.invokevirtual 190, 3) := by decide +kernel
theorem dX6_call_58 : decode cX6_call 58 = .ok (.iload_n 2, 1) := by decide +kernel
theorem dX6_call_59 : decode cX6_call 59 = .ok (.ireturn, 1) := by decide +kernel
set_option maxRecDepth 20000 in
theorem ggX6_undo_X5_popInto : GoodIn wsX6_undo wsX5_popInto := goodIn_r _ [8, 9, 10, 11, 12, 7, 13, 14, 15, 16, 17, 18, 19, 20, 21, 22, 23, 24, 25, 26, 27, 28, 29, 30, 31, 32, 33, 47, 48, 49, 50, 51, 52, 53, 54, 55, 56, 57] (by decide +kernel) (by decide +kernel)
set_option maxRecDepth 20000 in
theorem gX6_undo_X5_popInto : GoodIn wsX6_undo (wsV RX6 193 RX5 yX5_popInto wsX5_popInto) := goodIn_app (goodIn_of _ (by decide +kernel)) ggX6_undo_X5_popInto
theorem dX6_undo_0 : decode cX6_undo 0 = .ok (.aload_n 0, 1) := by decide +kernel
theorem dX6_undo_1 : decode cX6_undo 1 = .ok (.getfield 48, 3) := by decide +kernel
theorem dX6_undo_4 : decode cX6_undo 4 = .ok (.getfield 81, 3) := by decide +kernel
theorem dX6_undo_7 : decode cX6_undo 7 = .ok (.ifCond .gt 6, 3) := by decide +kernel
theorem dX6_undo_10 : decode cX6_undo 10 = .ok (.bipush (-3), 2) := by decide +kernel
theorem dX6_undo_12 : decode cX6_undo 12 = .ok (.ireturn, 1) := by decide +kernel
theorem dX6_undo_13 : decode cX6_undo 13 = .ok (.aload_n 0, 1) := by decide +kernel
theorem dX6_undo_14 : decode cX6_undo 14 = .ok (.getfield 48, 3) := by decide +kernel
theorem dX6_undo_17 : decode cX6_undo 17 = .ok (.aload_n 0, 1) := by decide +kernel
theorem dX6_undo_18 : decode cX6_undo 18 = .ok (.getfield 34, 3) := by decide +kernel
theorem dX6_undo_21 : decode cX6_undo 21 = .ok (.invokevirtual 193, 3) := by decide +kernel
theorem dX6_undo_24 : decode cX6_undo 24 = .ok (.aload_n 0, 1) := by decide +kernel
theorem dX6_undo_25 : decode cX6_undo 25 = .ok (.getfield 48, 3) := by decide +kernel
theorem dX6_undo_28 : decode cX6_undo 28 = .ok (.getfield 81, 3) := by decide +kernel
theorem dX6_undo_31 : decode cX6_undo 31 = .ok (.ireturn, 1) := by decide +kernel
set_option maxRecDepth 20000 in
theorem ggX6_ahead_X6_isNoChoice : GoodIn wsX6_ahead wsX6_isNoChoice := goodIn_r _ [7] (by decide +kernel) (by decide +kernel)
set_option maxRecDepth 20000 in
theorem gX6_ahead_X6_isNoChoice : GoodIn wsX6_ahead (va_wsS RX6 196 yX6_isNoChoice wsX6_isNoChoice) := goodIn_app (goodIn_of _ (by decide +kernel)) ggX6_ahead_X6_isNoChoice
set_option maxRecDepth 20000 in
theorem ggX6_ahead_X6_tryFromNow : GoodIn wsX6_ahead wsX6_tryFromNow := goodIn_r _ [11, 1, 12, 3, 13, 14, 15, 16, 17, 18, 19, 20, 21, 22, 23, 24, 25, 26, 27, 6, 28, 29, 30, 31, 32, 33, 34, 35, 36, 37, 38, 39, 40, 41, 42, 43, 44, 45, 46, 47, 48, 49, 50, 51, 52, 53, 54, 55, 56, 57, 58, 59, 60, 61, 62, 63, 64, 65, 66, 67, 68, 69, 70, 71, 72, 73, 74, 75, 76, 77, 78, 79, 80, 81, 82, 83, 84, 85, 86, 87, 88, 98, 99, 100, 101, 102, 103, 104, 105, 106, 107, 108, 109, 110, 111, 112, 113, 114, 115, 116, 117, 118, 119, 120, 121, 122, 123, 124, 125, 126, 127, 128, 129, 130, 131, 132] (by decide +kernel) (by decide +kernel)
set_option maxRecDepth 20000 in
theorem gX6_ahead_X6_tryFromNow : GoodIn wsX6_ahead (wsV RX6 199 RX6 yX6_tryFromNow wsX6_tryFromNow) := goodIn_app (goodIn_of _ (by decide +kernel)) ggX6_ahead_X6_tryFromNow
set_option maxRecDepth 20000 in
theorem ggX6_ahead_X2_right : GoodIn wsX6_ahead wsX2_right := goodIn_r _ [92, 93, 94, 95, 16, 96, 23, 22, 18, 97, 46, 6, 47, 27, 28, 59, 60, 111, 112, 113, 114, 115, 116, 117, 118, 119, 120, 121, 122, 123, 124, 125, 126, 127, 128, 129, 130, 131, 132] (by decide +kernel) (by decide +kernel)
set_option maxRecDepth 20000 in
theorem gX6_ahead_X2_right : GoodIn wsX6_ahead (wsV RX6 202 RX2 yX2_right wsX2_right) := goodIn_app (goodIn_of _ (by decide +kernel)) ggX6_ahead_X2_right
theorem dX6_ahead_0 : decode cX6_ahead 0 = .ok (.iload_n 1, 1) := by decide +kernel
theorem dX6_ahead_1 : decode cX6_ahead 1 = .ok (.ifCond .lt 16, 3) := by decide +kernel
theorem dX6_ahead_4 : decode cX6_ahead 4 = .ok (.iload_n 1, 1) := by decide +kernel
theorem dX6_ahead_5 : decode cX6_ahead 5 = .ok (.bipush 30, 2) := by decide +kernel
theorem dX6_ahead_7 : decode cX6_ahead 7 = .ok (.if_icmp .gt 10, 3) := by decide +kernel
theorem dX6_ahead_10 : decode cX6_ahead 10 = .ok (.iload_n 2, 1) := by decide +kernel
theorem dX6_ahead_11 : decode cX6_ahead 11 = .ok (.invokestatic 196, 3) := by decide +kernel
theorem dX6_ahead_14 : decode cX6_ahead 14 = .ok (.ifCond .eq 6, 3) := by decide +kernel
theorem dX6_ahead_17 : decode cX6_ahead 17 = .ok (.bipush (-2), 2) := by decide +kernel
theorem dX6_ahead_19 : decode cX6_ahead 19 = .ok (.ireturn, 1) := by decide +kernel
theorem dX6_ahead_20 : decode cX6_ahead 20 = .ok (.aload_n 0, 1) := by decide +kernel
theorem dX6_ahead_21 : decode cX6_ahead 21 = .ok (.iload_n 1, 1) := by decide +kernel
theorem dX6_ahead_22 : decode cX6_ahead 22 = .ok (.invokevirtual 199, 3) := by decide +kernel
theorem dX6_ahead_25 : decode cX6_ahead 25 = .ok (.iload_n 2, 1) := by decide +kernel
theorem dX6_ahead_26 : decode cX6_ahead 26 = .ok (.ifCond .ne 13, 3) := by decide +kernel
theorem dX6_ahead_29 : decode cX6_ahead 29 = .ok (.aload_n 0, 1) := by decide +kernel
theorem dX6_ahead_30 : decode cX6_ahead 30 = .ok (.getfield 38, 3) := by decide +kernel
theorem dX6_ahead_33 : decode cX6_ahead 33 = .ok (.getfield 167, 3) := by decide +kernel
theorem dX6_ahead_36 : decode cX6_ahead 36 = .ok (.goto 14, 3) := by decide +kernel
theorem dX6_ahead_39 : decode cX6_ahead 39 = .ok (.aload_n 0, 1) := by decide +kernel
theorem dX6_ahead_40 : decode cX6_ahead 40 = .ok (.getfield 38, 3) := by decide +kernel
theorem dX6_ahead_43 : decode cX6_ahead 43 = .ok (.aload_n 0, 1) := by decide +kernel
theorem dX6_ahead_44 : decode cX6_ahead 44 = .ok (.getfield 30, 3) := by decide +kernel
theorem dX6_ahead_47 : decode cX6_ahead 47 = .ok (.invokevirtual 202, 3) := by decide +kernel
theorem dX6_ahead_50 : decode cX6_ahead 50 = .ok (.ireturn, 1) := by decide +kernel
set_option maxRecDepth 20000 in
theorem ggX6_comes_X6_isNoWalker : GoodIn wsX6_comes wsX6_isNoWalker := goodIn_r _ [8, 3, 9, 93, 94, 95, 96, 97, 98, 99, 100, 101, 102, 103, 104, 105, 106, 107, 108, 109, 110, 111, 112, 113, 114, 115, 116, 117, 118] (by decide +kernel) (by decide +kernel)
set_option maxRecDepth 20000 in
theorem gX6_comes_X6_isNoWalker : GoodIn wsX6_comes (wsV RX6 149 RX6 yX6_isNoWalker wsX6_isNoWalker) := goodIn_app (goodIn_of _ (by decide +kernel)) ggX6_comes_X6_isNoWalker
set_option maxRecDepth 20000 in
theorem ggX6_comes_X6_isNoChoice : GoodIn wsX6_comes wsX6_isNoChoice := goodIn_r _ [12] (by decide +kernel) (by decide +kernel)
set_option maxRecDepth 20000 in
theorem gX6_comes_X6_isNoChoice : GoodIn wsX6_comes (va_wsS RX6 196 yX6_isNoChoice wsX6_isNoChoice) := goodIn_app (goodIn_of _ (by decide +kernel)) ggX6_comes_X6_isNoChoice
set_option maxRecDepth 20000 in
theorem ggX6_comes_X2_copy : GoodIn wsX6_comes wsX2_copy := goodIn_r _ [17, 18, 19, 20, 21, 22, 23, 24, 25, 26, 27, 7, 28, 29, 30, 119, 120, 121, 122, 123, 124, 125, 126, 127] (by decide +kernel) (by decide +kernel)
set_option maxRecDepth 20000 in
theorem gX6_comes_X2_copy : GoodIn wsX6_comes (wsV RX6 206 RX2 yX2_copy wsX2_copy) := goodIn_app (goodIn_of _ (by decide +kernel)) ggX6_comes_X2_copy
set_option maxRecDepth 20000 in
theorem ggX6_comes_X2_goUntilOut : GoodIn wsX6_comes wsX2_goUntilOut := goodIn_r _ [34, 23, 26, 35, 7, 36, 37, 38, 39, 40, 41, 42, 43, 44, 45, 46, 16, 47, 22, 48, 49, 50, 51, 18, 24, 19, 21, 27, 28, 52, 53, 54, 55, 56, 57, 58, 59, 60, 61, 62, 63, 64, 65, 66, 67, 68, 69, 70, 71, 72, 73, 74, 75, 76, 77, 78, 20, 79, 80, 81, 82, 29, 30, 83, 84, 85, 86, 87, 88, 25, 119, 120, 121, 122, 123, 124, 125, 126, 127, 106, 107, 108, 109, 110, 111, 112, 113, 114, 115, 116, 117, 118] (by decide +kernel) (by decide +kernel)
set_option maxRecDepth 20000 in
theorem gX6_comes_X2_goUntilOut : GoodIn wsX6_comes (wsV RX6 209 RX2 yX2_goUntilOut wsX2_goUntilOut) := goodIn_app (goodIn_of _ (by decide +kernel)) ggX6_comes_X2_goUntilOut
set_option maxRecDepth 20000 in
theorem ggX6_comes_X2_outAt : GoodIn wsX6_comes wsX2_outAt := goodIn_r _ [92, 23, 18, 35, 7, 36, 27, 28, 119, 120, 121, 122, 123, 124, 125, 126, 127] (by decide +kernel) (by decide +kernel)
set_option maxRecDepth 20000 in
theorem gX6_comes_X2_outAt : GoodIn wsX6_comes (wsV RX6 213 RX2 yX2_outAt wsX2_outAt) := goodIn_app (goodIn_of _ (by decide +kernel)) ggX6_comes_X2_outAt
theorem dX6_comes_0 : decode cX6_comes 0 = .ok (.aload_n 0, 1) := by decide +kernel
theorem dX6_comes_1 : decode cX6_comes 1 = .ok (.iload_n 1, 1) := by decide +kernel
theorem dX6_comes_2 : decode cX6_comes 2 = .ok (.invokevirtual 149, 3) := by decide +kernel
theorem dX6_comes_5 : decode cX6_comes 5 = .ok (.ifCond .eq 5, 3) := by decide +kernel
theorem dX6_comes_8 : decode cX6_comes 8 = .ok (.iconst (-1), 1) := by decide +kernel
theorem dX6_comes_9 : decode cX6_comes 9 = .ok (.ireturn, 1) := by decide +kernel
theorem dX6_comes_10 : decode cX6_comes 10 = .ok (.iload_n 2, 1) := by decide +kernel
theorem dX6_comes_11 : decode cX6_comes 11 = .ok (.invokestatic 196, 3) := by decide +kernel
theorem dX6_comes_14 : decode cX6_comes 14 = .ok (.ifCond .eq 6, 3) := by decide +kernel
theorem dX6_comes_17 : decode cX6_comes 17 = .ok (.bipush (-2), 2) := by decide +kernel
theorem dX6_comes_19 : decode cX6_comes 19 = .ok (.ireturn, 1) := by decide +kernel
theorem dX6_comes_20 : decode cX6_comes 20 = .ok (.aload_n 0, 1) := by decide +kernel
theorem dX6_comes_21 : decode cX6_comes 21 = .ok (.getfield 38, 3) := by decide +kernel
theorem dX6_comes_24 : decode cX6_comes 24 = .ok (.aload_n 0, 1) := by decide +kernel
theorem dX6_comes_25 : decode cX6_comes 25 = .ok (.getfield 34, 3) := by decide +kernel
theorem dX6_comes_28 : decode cX6_comes 28 = .ok (.invokevirtual 206, 3) := by decide +kernel
theorem dX6_comes_31 : decode cX6_comes 31 = .ok (.aload_n 0, 1) := by decide +kernel
theorem dX6_comes_32 : decode cX6_comes 32 = .ok (.getfield 38, 3) := by decide +kernel
theorem dX6_comes_35 : decode cX6_comes 35 = .ok (.iload_n 1, 1) := by decide +kernel
theorem dX6_comes_36 : decode cX6_comes 36 = .ok (.aload_n 0, 1) := by decide +kernel
theorem dX6_comes_37 : decode cX6_comes 37 = .ok (.getfield 30, 3) := by decide +kernel
theorem dX6_comes_40 : decode cX6_comes 40 = .ok (.invokevirtual 209, 3) := by decide +kernel
theorem dX6_comes_43 : decode cX6_comes 43 = .ok (.istore_n 3, 1) := by decide +kernel
theorem dX6_comes_44 : decode cX6_comes 44 = .ok (.iload_n 2, 1) := by decide +kernel
theorem dX6_comes_45 : decode cX6_comes 45 = .ok (.ifCond .ne 7, 3) := by decide +kernel
theorem dX6_comes_48 : decode cX6_comes 48 = .ok (.iload_n 3, 1) := by decide +kernel
theorem dX6_comes_49 : decode cX6_comes 49 = .ok (.goto 11, 3) := by decide +kernel
theorem dX6_comes_52 : decode cX6_comes 52 = .ok (.aload_n 0, 1) := by decide +kernel
theorem dX6_comes_53 : decode cX6_comes 53 = .ok (.getfield 38, 3) := by decide +kernel
theorem dX6_comes_56 : decode cX6_comes 56 = .ok (.iload_n 1, 1) := by decide +kernel
theorem dX6_comes_57 : decode cX6_comes 57 = .ok (.invokevirtual 213, 3) := by decide +kernel
theorem dX6_comes_60 : decode cX6_comes 60 = .ok (.ireturn, 1) := by decide +kernel
set_option maxRecDepth 20000 in
theorem ggX6_way_X6_isNoJoint : GoodIn wsX6_way wsX6_isNoJoint := goodIn_r _ [8, 1, 9, 33, 34, 35, 36, 37, 38, 39, 40, 41, 42, 43, 44, 45, 55, 56, 57, 58, 59, 60, 61, 62, 63, 64, 65, 66, 67] (by decide +kernel) (by decide +kernel)
set_option maxRecDepth 20000 in
theorem gX6_way_X6_isNoJoint : GoodIn wsX6_way (wsV RX6 98 RX6 yX6_isNoJoint wsX6_isNoJoint) := goodIn_app (goodIn_of _ (by decide +kernel)) ggX6_way_X6_isNoJoint
set_option maxRecDepth 20000 in
theorem ggX6_way_X3_stepsBetween : GoodIn wsX6_way wsX3_stepsBetween := goodIn_r _ [14, 15, 7, 16, 17, 18, 19, 20, 21, 13, 22, 23, 24, 25, 26, 27, 28, 29, 30, 31, 32, 55, 56, 57, 58, 59, 60, 61, 62, 63, 64, 65, 66, 67] (by decide +kernel) (by decide +kernel)
set_option maxRecDepth 20000 in
theorem gX6_way_X3_stepsBetween : GoodIn wsX6_way (wsV RX6 216 RX3 yX3_stepsBetween wsX3_stepsBetween) := goodIn_app (goodIn_of _ (by decide +kernel)) ggX6_way_X3_stepsBetween
theorem dX6_way_0 : decode cX6_way 0 = .ok (.aload_n 0, 1) := by decide +kernel
theorem dX6_way_1 : decode cX6_way 1 = .ok (.iload_n 1, 1) := by decide +kernel
theorem dX6_way_2 : decode cX6_way 2 = .ok (.invokevirtual 98, 3) := by decide +kernel
theorem dX6_way_5 : decode cX6_way 5 = .ok (.ifCond .ne 11, 3) := by decide +kernel
theorem dX6_way_8 : decode cX6_way 8 = .ok (.aload_n 0, 1) := by decide +kernel
theorem dX6_way_9 : decode cX6_way 9 = .ok (.iload_n 2, 1) := by decide +kernel
theorem dX6_way_10 : decode cX6_way 10 = .ok (.invokevirtual 98, 3) := by decide +kernel
theorem dX6_way_13 : decode cX6_way 13 = .ok (.ifCond .eq 5, 3) := by decide +kernel
theorem dX6_way_16 : decode cX6_way 16 = .ok (.iconst (-1), 1) := by decide +kernel
theorem dX6_way_17 : decode cX6_way 17 = .ok (.ireturn, 1) := by decide +kernel
theorem dX6_way_18 : decode cX6_way 18 = .ok (.aload_n 0, 1) := by decide +kernel
theorem dX6_way_19 : decode cX6_way 19 = .ok (.getfield 30, 3) := by decide +kernel
theorem dX6_way_22 : decode cX6_way 22 = .ok (.iload_n 1, 1) := by decide +kernel
theorem dX6_way_23 : decode cX6_way 23 = .ok (.iload_n 2, 1) := by decide +kernel
theorem dX6_way_24 : decode cX6_way 24 = .ok (.aload_n 0, 1) := by decide +kernel
theorem dX6_way_25 : decode cX6_way 25 = .ok (.getfield 34, 3) := by decide +kernel
theorem dX6_way_28 : decode cX6_way 28 = .ok (.getfield 133, 3) := by decide +kernel
theorem dX6_way_31 : decode cX6_way 31 = .ok (.invokevirtual 216, 3) := by decide +kernel
theorem dX6_way_34 : decode cX6_way 34 = .ok (.ireturn, 1) := by decide +kernel
set_option maxRecDepth 20000 in
theorem ggX6_mend_X6_isNoWalker : GoodIn wsX6_mend wsX6_isNoWalker := goodIn_r _ [10, 3, 11, 98, 99, 100, 101, 102, 103, 104, 105, 106, 107, 108, 109, 110, 120, 121, 122, 123, 124, 125, 126, 127, 128, 129, 130, 131, 132] (by decide +kernel) (by decide +kernel)
set_option maxRecDepth 20000 in
theorem gX6_mend_X6_isNoWalker : GoodIn wsX6_mend (wsV RX6 149 RX6 yX6_isNoWalker wsX6_isNoWalker) := goodIn_app (goodIn_of _ (by decide +kernel)) ggX6_mend_X6_isNoWalker
set_option maxRecDepth 20000 in
theorem ggX6_mend_X6_has : GoodIn wsX6_mend wsX6_has := goodIn_r _ [14] (by decide +kernel) (by decide +kernel)
set_option maxRecDepth 20000 in
theorem gX6_mend_X6_has : GoodIn wsX6_mend (va_wsS RX6 112 yX6_has wsX6_has) := goodIn_app (goodIn_of _ (by decide +kernel)) ggX6_mend_X6_has
set_option maxRecDepth 20000 in
theorem ggX6_mend_X2_copy : GoodIn wsX6_mend wsX2_copy := goodIn_r _ [19, 20, 21, 22, 23, 24, 25, 26, 27, 28, 29, 9, 30, 31, 32, 111, 112, 113, 114, 115, 116, 117, 118, 119] (by decide +kernel) (by decide +kernel)
set_option maxRecDepth 20000 in
theorem gX6_mend_X2_copy : GoodIn wsX6_mend (wsV RX6 206 RX2 yX2_copy wsX2_copy) := goodIn_app (goodIn_of _ (by decide +kernel)) ggX6_mend_X2_copy
set_option maxRecDepth 20000 in
theorem ggX6_mend_X2_turnPipe : GoodIn wsX6_mend wsX2_turnPipe := goodIn_r _ [36, 26, 37, 9, 38, 111, 112, 113, 114, 115, 116, 117, 118, 119] (by decide +kernel) (by decide +kernel)
set_option maxRecDepth 20000 in
theorem gX6_mend_X2_turnPipe : GoodIn wsX6_mend (wsV RX6 184 RX2 yX2_turnPipe wsX2_turnPipe) := goodIn_app (goodIn_of _ (by decide +kernel)) ggX6_mend_X2_turnPipe
set_option maxRecDepth 20000 in
theorem ggX6_mend_X2_goUntilOut : GoodIn wsX6_mend wsX2_goUntilOut := goodIn_r _ [42, 25, 28, 13, 9, 14, 43, 44, 45, 46, 47, 48, 49, 50, 51, 52, 18, 53, 24, 54, 55, 56, 57, 20, 26, 21, 23, 29, 30, 58, 59, 60, 61, 62, 63, 64, 37, 38, 65, 66, 67, 68, 69, 70, 71, 72, 73, 74, 75, 76, 77, 78, 79, 80, 81, 82, 22, 83, 84, 85, 86, 31, 32, 87, 88, 89, 90, 91, 92, 27, 111, 112, 113, 114, 115, 116, 117, 118, 119, 120, 121, 122, 123, 124, 125, 126, 127, 128, 129, 130, 131, 132] (by decide +kernel) (by decide +kernel)
set_option maxRecDepth 20000 in
theorem gX6_mend_X2_goUntilOut : GoodIn wsX6_mend (wsV RX6 209 RX2 yX2_goUntilOut wsX2_goUntilOut) := goodIn_app (goodIn_of _ (by decide +kernel)) ggX6_mend_X2_goUntilOut
set_option maxRecDepth 20000 in
theorem ggX6_mend_X2_isRight : GoodIn wsX6_mend wsX2_isRight := goodIn_r _ [96, 25, 24, 20, 97, 13, 9, 14, 29, 30, 111, 112, 113, 114, 115, 116, 117, 118, 119, 120, 121, 122, 123, 124, 125, 126, 127, 128, 129, 130, 131, 132] (by decide +kernel) (by decide +kernel)
set_option maxRecDepth 20000 in
theorem gX6_mend_X2_isRight : GoodIn wsX6_mend (wsV RX6 220 RX2 yX2_isRight wsX2_isRight) := goodIn_app (goodIn_of _ (by decide +kernel)) ggX6_mend_X2_isRight
theorem dX6_mend_0 : decode cX6_mend 0 = .ok (.aload_n 0, 1) := by decide +kernel
theorem dX6_mend_1 : decode cX6_mend 1 = .ok (.iload_n 1, 1) := by decide +kernel
theorem dX6_mend_2 : decode cX6_mend 2 = .ok (.invokevirtual 149, 3) := by decide +kernel
theorem dX6_mend_5 : decode cX6_mend 5 = .ok (.ifCond .eq 5, 3) := by decide +kernel
theorem dX6_mend_8 : decode cX6_mend 8 = .ok (.iconst (-1), 1) := by decide +kernel
theorem dX6_mend_9 : decode cX6_mend 9 = .ok (.ireturn, 1) := by decide +kernel
theorem dX6_mend_10 : decode cX6_mend 10 = .ok (.aload_n 0, 1) := by decide +kernel
theorem dX6_mend_11 : decode cX6_mend 11 = .ok (.getfield 34, 3) := by decide +kernel
theorem dX6_mend_14 : decode cX6_mend 14 = .ok (.getfield 167, 3) := by decide +kernel
theorem dX6_mend_17 : decode cX6_mend 17 = .ok (.iload_n 1, 1) := by decide +kernel
theorem dX6_mend_18 : decode cX6_mend 18 = .ok (.invokestatic 112, 3) := by decide +kernel
theorem dX6_mend_21 : decode cX6_mend 21 = .ok (.ifCond .eq 6, 3) := by decide +kernel
theorem dX6_mend_24 : decode cX6_mend 24 = .ok (.bipush (-3), 2) := by decide +kernel
theorem dX6_mend_26 : decode cX6_mend 26 = .ok (.ireturn, 1) := by decide +kernel
theorem dX6_mend_27 : decode cX6_mend 27 = .ok (.iconst 0, 1) := by decide +kernel
theorem dX6_mend_28 : decode cX6_mend 28 = .ok (.istore_n 2, 1) := by decide +kernel
theorem dX6_mend_29 : decode cX6_mend 29 = .ok (.iload_n 2, 1) := by decide +kernel
theorem dX6_mend_30 : decode cX6_mend 30 = .ok (.aload_n 0, 1) := by decide +kernel
theorem dX6_mend_31 : decode cX6_mend 31 = .ok (.getfield 30, 3) := by decide +kernel
theorem dX6_mend_34 : decode cX6_mend 34 = .ok (.getfield 92, 3) := by decide +kernel
theorem dX6_mend_37 : decode cX6_mend 37 = .ok (.if_icmp .ge 58, 3) := by decide +kernel
theorem dX6_mend_40 : decode cX6_mend 40 = .ok (.aload_n 0, 1) := by decide +kernel
theorem dX6_mend_41 : decode cX6_mend 41 = .ok (.getfield 38, 3) := by decide +kernel
theorem dX6_mend_44 : decode cX6_mend 44 = .ok (.aload_n 0, 1) := by decide +kernel
theorem dX6_mend_45 : decode cX6_mend 45 = .ok (.getfield 34, 3) := by decide +kernel
theorem dX6_mend_48 : decode cX6_mend 48 = .ok (.invokevirtual 206, 3) := by decide +kernel
theorem dX6_mend_51 : decode cX6_mend 51 = .ok (.aload_n 0, 1) := by decide +kernel
theorem dX6_mend_52 : decode cX6_mend 52 = .ok (.getfield 38, 3) := by decide +kernel
theorem dX6_mend_55 : decode cX6_mend 55 = .ok (.iload_n 2, 1) := by decide +kernel
theorem dX6_mend_56 : decode cX6_mend 56 = .ok (.invokevirtual 184, 3) := by decide +kernel
theorem dX6_mend_59 : decode cX6_mend 59 = .ok (.aload_n 0, 1) := by decide +kernel
theorem dX6_mend_60 : decode cX6_mend 60 = .ok (.getfield 38, 3) := by decide +kernel
theorem dX6_mend_63 : decode cX6_mend 63 = .ok (.iload_n 1, 1) := by decide +kernel
theorem dX6_mend_64 : decode cX6_mend 64 = .ok (.aload_n 0, 1) := by decide +kernel
theorem dX6_mend_65 : decode cX6_mend 65 = .ok (.getfield 30, 3) := by decide +kernel
theorem dX6_mend_68 : decode cX6_mend 68 = .ok (.invokevirtual 209, 3) := by decide +kernel
theorem dX6_mend_71 : decode cX6_mend 71 = .ok (.pop, 1) := by decide +kernel
theorem dX6_mend_72 : decode cX6_mend 72 = .ok (.aload_n 0, 1) := by decide +kernel
theorem dX6_mend_73 : decode cX6_mend 73 = .ok (.getfield 38, 3) := by decide +kernel
theorem dX6_mend_76 : decode cX6_mend 76 = .ok (.iload_n 1, 1) := by decide +kernel
theorem dX6_mend_77 : decode cX6_mend 77 = .ok (.aload_n 0, 1) := by decide +kernel
theorem dX6_mend_78 : decode cX6_mend 78 = .ok (.getfield 30, 3) := by decide +kernel
theorem dX6_mend_81 : decode cX6_mend 81 = .ok (.invokevirtual 220, 3) := by decide +kernel
theorem dX6_mend_84 : decode cX6_mend 84 = .ok (.ifCond .eq 5, 3) := by decide +kernel
theorem dX6_mend_87 : decode cX6_mend 87 = .ok (.iload_n 2, 1) := by decide +kernel
theorem dX6_mend_88 : decode cX6_mend 88 = .ok (.ireturn, 1) := by decide +kernel
theorem dX6_mend_89 : decode cX6_mend 89 = .ok (.iinc 2 1, 3) := by decide +kernel
theorem dX6_mend_92 : decode cX6_mend 92 = .ok (.goto (-63), 3) := by decide +kernel
theorem dX6_mend_95 : decode cX6_mend 95 = .ok (.bipush (-9), 2) := by decide +kernel
theorem dX6_mend_97 : decode cX6_mend 97 = .ok (.ireturn, 1) := by decide +kernel
set_option maxRecDepth 20000 in
theorem ggX6_watch_X6_findPassed : GoodIn wsX6_watch wsX6_findPassed := goodIn_r _ [7, 8, 9, 10, 1, 11, 12, 13, 14, 15, 16, 17, 18, 19, 20, 21, 22, 23, 24, 25, 26, 27, 6, 28, 29, 30, 31, 32, 33, 34, 35, 36, 37, 38, 39, 40, 41, 42, 43, 44, 45, 46, 47, 48, 49, 50, 51, 52, 53, 54, 55, 56, 57, 58, 59, 60, 61, 62, 63, 64, 65, 66, 67, 68, 69, 70, 71, 72, 73, 74, 75, 76, 77, 78, 79, 80, 81, 82, 83, 84, 85, 86, 87, 88, 89, 90, 91, 92, 93, 94, 95, 112, 113, 114, 115, 116, 117, 118, 119, 120, 121, 122, 123, 124, 125, 126, 127, 128, 129, 130, 131, 132, 133, 134, 135, 136, 137, 138, 139, 140, 141, 142, 143, 144, 145, 146] (by decide +kernel) (by decide +kernel)
set_option maxRecDepth 20000 in
theorem gX6_watch_X6_findPassed : GoodIn wsX6_watch (wsV RX6 224 RX6 yX6_findPassed wsX6_findPassed) := goodIn_app (goodIn_of _ (by decide +kernel)) ggX6_watch_X6_findPassed
set_option maxRecDepth 20000 in
theorem ggX6_watch_X6_all : GoodIn wsX6_watch wsX6_all := goodIn_r _ [98, 36, 37, 6, 38] (by decide +kernel) (by decide +kernel)
set_option maxRecDepth 20000 in
theorem gX6_watch_X6_all : GoodIn wsX6_watch (va_wsS RX6 227 yX6_all wsX6_all) := goodIn_app (goodIn_of _ (by decide +kernel)) ggX6_watch_X6_all
set_option maxRecDepth 20000 in
theorem ggX6_watch_J6_bitCount_0f7a4 : GoodIn wsX6_watch wsJ6_bitCount_0f7a4 := goodIn_r _ [102, 103, 104, 105] (by decide +kernel) (by decide +kernel)
set_option maxRecDepth 20000 in
theorem gX6_watch_J6_bitCount_0f7a4 : GoodIn wsX6_watch (va_wsS RX6 230 yJ6_bitCount_0f7a4 wsJ6_bitCount_0f7a4) := goodIn_app (goodIn_of _ (by decide +kernel)) ggX6_watch_J6_bitCount_0f7a4
set_option maxRecDepth 20000 in
theorem ggX6_watch_X6_meetsAll : GoodIn wsX6_watch wsX6_meetsAll := goodIn_r _ [109, 1, 11, 9, 110, 10, 111, 55, 6, 56, 35, 27, 28, 112, 113, 114, 115, 116, 117, 118, 119, 120, 121, 122, 123, 124, 125, 126, 127, 128, 129, 130, 131, 132, 133, 134, 135, 136, 137, 138, 139, 140, 141, 142, 143, 144, 145, 146] (by decide +kernel) (by decide +kernel)
set_option maxRecDepth 20000 in
theorem gX6_watch_X6_meetsAll : GoodIn wsX6_watch (wsV RX6 235 RX6 yX6_meetsAll wsX6_meetsAll) := goodIn_app (goodIn_of _ (by decide +kernel)) ggX6_watch_X6_meetsAll
theorem dX6_watch_0 : decode cX6_watch 0 = .ok (.aload_n 0, 1) := by decide +kernel
theorem dX6_watch_1 : decode cX6_watch 1 = .ok (.invokevirtual 224, 3) := by decide +kernel
theorem dX6_watch_4 : decode cX6_watch 4 = .ok (.aload_n 0, 1) := by decide +kernel
theorem dX6_watch_5 : decode cX6_watch 5 = .ok (.getfield 30, 3) := by decide +kernel
theorem dX6_watch_8 : decode cX6_watch 8 = .ok (.getfield 87, 3) := by decide +kernel
theorem dX6_watch_11 : decode cX6_watch 11 = .ok (.invokestatic 227, 3) := by decide +kernel
theorem dX6_watch_14 : decode cX6_watch 14 = .ok (.istore_n 1, 1) := by decide +kernel
theorem dX6_watch_15 : decode cX6_watch 15 = .ok (.iload_n 1, 1) := by decide +kernel
theorem dX6_watch_16 : decode cX6_watch 16 = .ok (.istore_n 2, 1) := by decide +kernel
theorem dX6_watch_17 : decode cX6_watch 17 = .ok (.iload_n 2, 1) := by decide +kernel
theorem dX6_watch_18 : decode cX6_watch 18 = .ok (.ifCond .lt 30, 3) := by decide +kernel
theorem dX6_watch_21 : decode cX6_watch 21 = .ok (.iload_n 2, 1) := by decide +kernel
theorem dX6_watch_22 : decode cX6_watch 22 = .ok (.invokestatic 230, 3) := by decide +kernel
theorem dX6_watch_25 : decode cX6_watch 25 = .ok (.iload_n 1, 1) := by decide +kernel
theorem dX6_watch_26 : decode cX6_watch 26 = .ok (.invokestatic 230, 3) := by decide +kernel
theorem dX6_watch_29 : decode cX6_watch 29 = .ok (.if_icmp .gt 13, 3) := by decide +kernel
theorem dX6_watch_32 : decode cX6_watch 32 = .ok (.aload_n 0, 1) := by decide +kernel
theorem dX6_watch_33 : decode cX6_watch 33 = .ok (.iload_n 2, 1) := by decide +kernel
theorem dX6_watch_34 : decode cX6_watch 34 = .ok (.invokevirtual 235, 3) := by decide +kernel
theorem dX6_watch_37 : decode cX6_watch 37 = .ok (.ifCond .eq 5, 3) := by decide +kernel
theorem dX6_watch_40 : decode cX6_watch 40 = .ok (.iload_n 2, 1) := by decide +kernel
theorem dX6_watch_41 : decode cX6_watch 41 = .ok (.istore_n 1, 1) := by decide +kernel
theorem dX6_watch_42 : decode cX6_watch 42 = .ok (.iinc 2 (-1), 3) := by decide +kernel
theorem dX6_watch_45 : decode cX6_watch 45 = .ok (.goto (-28), 3) := by decide +kernel
theorem dX6_watch_48 : decode cX6_watch 48 = .ok (.iload_n 1, 1) := by decide +kernel
theorem dX6_watch_49 : decode cX6_watch 49 = .ok (.ireturn, 1) := by decide +kernel
set_option maxRecDepth 20000 in
theorem ggX6_findPassed_X2_copy : GoodIn wsX6_findPassed wsX2_copy := goodIn_r _ [11, 12, 13, 14, 15, 16, 17, 18, 19, 20, 21, 22, 23, 24, 25, 117, 118, 119, 120, 121, 122, 123, 124, 125] (by decide +kernel) (by decide +kernel)
set_option maxRecDepth 20000 in
theorem gX6_findPassed_X2_copy : GoodIn wsX6_findPassed (wsV RX6 206 RX2 yX2_copy wsX2_copy) := goodIn_app (goodIn_of _ (by decide +kernel)) ggX6_findPassed_X2_copy
set_option maxRecDepth 20000 in
theorem ggX6_findPassed_J7_fill_53178 : GoodIn wsX6_findPassed wsJ7_fill_53178 := goodIn_r _ [29] (by decide +kernel) (by decide +kernel)
set_option maxRecDepth 20000 in
theorem gX6_findPassed_J7_fill_53178 : GoodIn wsX6_findPassed (va_wsS RX6 238 yJ7_fill_53178 wsJ7_fill_53178) := goodIn_app (goodIn_of _ (by decide +kernel)) ggX6_findPassed_J7_fill_53178
set_option maxRecDepth 20000 in
theorem ggX6_findPassed_X6_cell : GoodIn wsX6_findPassed wsX6_cell := goodIn_r _ [23] (by decide +kernel) (by decide +kernel)
set_option maxRecDepth 20000 in
theorem gX6_findPassed_X6_cell : GoodIn wsX6_findPassed (va_wsS RX6 105 yX6_cell wsX6_cell) := goodIn_app (goodIn_of _ (by decide +kernel)) ggX6_findPassed_X6_cell
set_option maxRecDepth 20000 in
theorem ggX6_findPassed_X6_bit : GoodIn wsX6_findPassed wsX6_bit := goodIn_r _ [33] (by decide +kernel) (by decide +kernel)
set_option maxRecDepth 20000 in
theorem gX6_findPassed_X6_bit : GoodIn wsX6_findPassed (va_wsS RX6 244 yX6_bit wsX6_bit) := goodIn_app (goodIn_of _ (by decide +kernel)) ggX6_findPassed_X6_bit
set_option maxRecDepth 20000 in
theorem ggX6_findPassed_X6_put : GoodIn wsX6_findPassed wsX6_put := goodIn_r _ [25] (by decide +kernel) (by decide +kernel)
set_option maxRecDepth 20000 in
theorem gX6_findPassed_X6_put : GoodIn wsX6_findPassed (va_wsS RX6 247 yX6_put wsX6_put) := goodIn_app (goodIn_of _ (by decide +kernel)) ggX6_findPassed_X6_put
set_option maxRecDepth 20000 in
theorem ggX6_findPassed_X2_advance : GoodIn wsX6_findPassed wsX2_advance := goodIn_r _ [38, 20, 39, 40, 41, 42, 43, 44, 45, 46, 47, 48, 10, 49, 16, 17, 50, 22, 51, 52, 53, 54, 55, 12, 18, 13, 15, 21, 23, 56, 57, 58, 59, 60, 61, 62, 32, 33, 63, 64, 65, 66, 67, 68, 69, 70, 71, 72, 73, 74, 75, 76, 77, 78, 79, 80, 14, 81, 82, 83, 84, 24, 25, 85, 86, 87, 88, 89, 90, 19, 117, 118, 119, 120, 121, 122, 123, 124, 125, 104, 105, 106, 107, 108, 109, 110, 111, 112, 113, 114, 115, 116] (by decide +kernel) (by decide +kernel)
set_option maxRecDepth 20000 in
theorem gX6_findPassed_X2_advance : GoodIn wsX6_findPassed (wsV RX6 181 RX2 yX2_advance wsX2_advance) := goodIn_app (goodIn_of _ (by decide +kernel)) ggX6_findPassed_X2_advance
theorem dX6_findPassed_0 : decode cX6_findPassed 0 = .ok (.aload_n 0, 1) := by decide +kernel
theorem dX6_findPassed_1 : decode cX6_findPassed 1 = .ok (.getfield 38, 3) := by decide +kernel
theorem dX6_findPassed_4 : decode cX6_findPassed 4 = .ok (.aload_n 0, 1) := by decide +kernel
theorem dX6_findPassed_5 : decode cX6_findPassed 5 = .ok (.getfield 34, 3) := by decide +kernel
theorem dX6_findPassed_8 : decode cX6_findPassed 8 = .ok (.invokevirtual 206, 3) := by decide +kernel
theorem dX6_findPassed_11 : decode cX6_findPassed 11 = .ok (.aload_n 0, 1) := by decide +kernel
theorem dX6_findPassed_12 : decode cX6_findPassed 12 = .ok (.getfield 41, 3) := by decide +kernel
theorem dX6_findPassed_15 : decode cX6_findPassed 15 = .ok (.iconst 0, 1) := by decide +kernel
theorem dX6_findPassed_16 : decode cX6_findPassed 16 = .ok (.invokestatic 238, 3) := by decide +kernel
theorem dX6_findPassed_19 : decode cX6_findPassed 19 = .ok (.iconst 0, 1) := by decide +kernel
theorem dX6_findPassed_20 : decode cX6_findPassed 20 = .ok (.istore_n 1, 1) := by decide +kernel
theorem dX6_findPassed_21 : decode cX6_findPassed 21 = .ok (.iload_n 1, 1) := by decide +kernel
theorem dX6_findPassed_22 : decode cX6_findPassed 22 = .ok (.bipush 8, 2) := by decide +kernel
theorem dX6_findPassed_24 : decode cX6_findPassed 24 = .ok (.if_icmp .gt 70, 3) := by decide +kernel
theorem dX6_findPassed_27 : decode cX6_findPassed 27 = .ok (.iconst 0, 1) := by decide +kernel
theorem dX6_findPassed_28 : decode cX6_findPassed 28 = .ok (.istore_n 2, 1) := by decide +kernel
theorem dX6_findPassed_29 : decode cX6_findPassed 29 = .ok (.iload_n 2, 1) := by decide +kernel
theorem dX6_findPassed_30 : decode cX6_findPassed 30 = .ok (.aload_n 0, 1) := by decide +kernel
theorem dX6_findPassed_31 : decode cX6_findPassed 31 = .ok (.getfield 30, 3) := by decide +kernel
theorem dX6_findPassed_34 : decode cX6_findPassed 34 = .ok (.getfield 95, 3) := by decide +kernel
theorem dX6_findPassed_37 : decode cX6_findPassed 37 = .ok (.if_icmp .ge 40, 3) := by decide +kernel
theorem dX6_findPassed_40 : decode cX6_findPassed 40 = .ok (.aload_n 0, 1) := by decide +kernel
theorem dX6_findPassed_41 : decode cX6_findPassed 41 = .ok (.getfield 41, 3) := by decide +kernel
theorem dX6_findPassed_44 : decode cX6_findPassed 44 = .ok (.iload_n 2, 1) := by decide +kernel
theorem dX6_findPassed_45 : decode cX6_findPassed 45 = .ok (.aload_n 0, 1) := by decide +kernel
theorem dX6_findPassed_46 : decode cX6_findPassed 46 = .ok (.getfield 41, 3) := by decide +kernel
theorem dX6_findPassed_49 : decode cX6_findPassed 49 = .ok (.iload_n 2, 1) := by decide +kernel
theorem dX6_findPassed_50 : decode cX6_findPassed 50 = .ok (.invokestatic 105, 3) := by decide +kernel
theorem dX6_findPassed_53 : decode cX6_findPassed 53 = .ok (.aload_n 0, 1) := by decide +kernel
theorem dX6_findPassed_54 : decode cX6_findPassed 54 = .ok (.getfield 38, 3) := by decide +kernel
theorem dX6_findPassed_57 : decode cX6_findPassed 57 = .ok (.getfield 152, 3) := by decide +kernel
theorem dX6_findPassed_60 : decode cX6_findPassed 60 = .ok (.iload_n 2, 1) := by decide +kernel
theorem dX6_findPassed_61 : decode cX6_findPassed 61 = .ok (.invokestatic 105, 3) := by decide +kernel
theorem dX6_findPassed_64 : decode cX6_findPassed 64 = .ok (.invokestatic 244, 3) := by decide +kernel
theorem dX6_findPassed_67 : decode cX6_findPassed 67 = .ok (.ior, 1) := by decide +kernel
theorem dX6_findPassed_68 : decode cX6_findPassed 68 = .ok (.invokestatic 247, 3) := by decide +kernel
theorem dX6_findPassed_71 : decode cX6_findPassed 71 = .ok (.iinc 2 1, 3) := by decide +kernel
theorem dX6_findPassed_74 : decode cX6_findPassed 74 = .ok (.goto (-45), 3) := by decide +kernel
theorem dX6_findPassed_77 : decode cX6_findPassed 77 = .ok (.aload_n 0, 1) := by decide +kernel
theorem dX6_findPassed_78 : decode cX6_findPassed 78 = .ok (.getfield 38, 3) := by decide +kernel
theorem dX6_findPassed_81 : decode cX6_findPassed 81 = .ok (.aload_n 0, 1) := by decide +kernel
theorem dX6_findPassed_82 : decode cX6_findPassed 82 = .ok (.getfield 30, 3) := by decide +kernel
theorem dX6_findPassed_85 : decode cX6_findPassed 85 = .ok (.invokevirtual 181, 3) := by decide +kernel
theorem dX6_findPassed_88 : decode cX6_findPassed 88 = .ok (.iinc 1 1, 3) := by decide +kernel
theorem dX6_findPassed_91 : decode cX6_findPassed 91 = .ok (.goto (-70), 3) := by decide +kernel
theorem dX6_findPassed_94 : decode cX6_findPassed 94 = .ok (.return_, 1) := by decide +kernel
set_option maxRecDepth 20000 in
theorem ggX6_meetsAll_X6_has : GoodIn wsX6_meetsAll wsX6_has := goodIn_r _ [9] (by decide +kernel) (by decide +kernel)
set_option maxRecDepth 20000 in
theorem gX6_meetsAll_X6_has : GoodIn wsX6_meetsAll (va_wsS RX6 112 yX6_has wsX6_has) := goodIn_app (goodIn_of _ (by decide +kernel)) ggX6_meetsAll_X6_has
set_option maxRecDepth 20000 in
theorem ggX6_meetsAll_X6_cell : GoodIn wsX6_meetsAll wsX6_cell := goodIn_r _ [12] (by decide +kernel) (by decide +kernel)
set_option maxRecDepth 20000 in
theorem gX6_meetsAll_X6_cell : GoodIn wsX6_meetsAll (va_wsS RX6 105 yX6_cell wsX6_cell) := goodIn_app (goodIn_of _ (by decide +kernel)) ggX6_meetsAll_X6_cell
theorem dX6_meetsAll_0 : decode cX6_meetsAll 0 = .ok (.iconst 0, 1) := by decide +kernel
theorem dX6_meetsAll_1 : decode cX6_meetsAll 1 = .ok (.istore_n 2, 1) := by decide +kernel
theorem dX6_meetsAll_2 : decode cX6_meetsAll 2 = .ok (.iload_n 2, 1) := by decide +kernel
theorem dX6_meetsAll_3 : decode cX6_meetsAll 3 = .ok (.aload_n 0, 1) := by decide +kernel
theorem dX6_meetsAll_4 : decode cX6_meetsAll 4 = .ok (.getfield 30, 3) := by decide +kernel
theorem dX6_meetsAll_7 : decode cX6_meetsAll 7 = .ok (.getfield 95, 3) := by decide +kernel
theorem dX6_meetsAll_10 : decode cX6_meetsAll 10 = .ok (.if_icmp .ge 38, 3) := by decide +kernel
theorem dX6_meetsAll_13 : decode cX6_meetsAll 13 = .ok (.aload_n 0, 1) := by decide +kernel
theorem dX6_meetsAll_14 : decode cX6_meetsAll 14 = .ok (.getfield 34, 3) := by decide +kernel
theorem dX6_meetsAll_17 : decode cX6_meetsAll 17 = .ok (.getfield 167, 3) := by decide +kernel
theorem dX6_meetsAll_20 : decode cX6_meetsAll 20 = .ok (.iload_n 2, 1) := by decide +kernel
theorem dX6_meetsAll_21 : decode cX6_meetsAll 21 = .ok (.invokestatic 112, 3) := by decide +kernel
theorem dX6_meetsAll_24 : decode cX6_meetsAll 24 = .ok (.ifCond .ne 18, 3) := by decide +kernel
theorem dX6_meetsAll_27 : decode cX6_meetsAll 27 = .ok (.aload_n 0, 1) := by decide +kernel
theorem dX6_meetsAll_28 : decode cX6_meetsAll 28 = .ok (.getfield 41, 3) := by decide +kernel
theorem dX6_meetsAll_31 : decode cX6_meetsAll 31 = .ok (.iload_n 2, 1) := by decide +kernel
theorem dX6_meetsAll_32 : decode cX6_meetsAll 32 = .ok (.invokestatic 105, 3) := by decide +kernel
theorem dX6_meetsAll_35 : decode cX6_meetsAll 35 = .ok (.iload_n 1, 1) := by decide +kernel
theorem dX6_meetsAll_36 : decode cX6_meetsAll 36 = .ok (.iand, 1) := by decide +kernel
theorem dX6_meetsAll_37 : decode cX6_meetsAll 37 = .ok (.ifCond .ne 5, 3) := by decide +kernel
theorem dX6_meetsAll_40 : decode cX6_meetsAll 40 = .ok (.iconst 0, 1) := by decide +kernel
theorem dX6_meetsAll_41 : decode cX6_meetsAll 41 = .ok (.ireturn, 1) := by decide +kernel
theorem dX6_meetsAll_42 : decode cX6_meetsAll 42 = .ok (.iinc 2 1, 3) := by decide +kernel
theorem dX6_meetsAll_45 : decode cX6_meetsAll 45 = .ok (.goto (-43), 3) := by decide +kernel
theorem dX6_meetsAll_48 : decode cX6_meetsAll 48 = .ok (.iconst 1, 1) := by decide +kernel
theorem dX6_meetsAll_49 : decode cX6_meetsAll 49 = .ok (.ireturn, 1) := by decide +kernel
set_option maxRecDepth 20000 in
theorem ggX6_judge_X6_doingOf : GoodIn wsX6_judge wsX6_doingOf := goodIn_r _ [6] (by decide +kernel) (by decide +kernel)
set_option maxRecDepth 20000 in
theorem gX6_judge_X6_doingOf : GoodIn wsX6_judge (va_wsS RX6 251 yX6_doingOf wsX6_doingOf) := goodIn_app (goodIn_of _ (by decide +kernel)) ggX6_judge_X6_doingOf
set_option maxRecDepth 20000 in
theorem ggX6_judge_X2_copy : GoodIn wsX6_judge wsX2_copy := goodIn_r _ [11, 12, 13, 14, 15, 16, 17, 18, 19, 20, 21, 5, 22, 23, 24, 132, 133, 134, 135, 136, 137, 138, 139, 140] (by decide +kernel) (by decide +kernel)
set_option maxRecDepth 20000 in
theorem gX6_judge_X2_copy : GoodIn wsX6_judge (wsV RX6 206 RX2 yX2_copy wsX2_copy) := goodIn_app (goodIn_of _ (by decide +kernel)) ggX6_judge_X2_copy
set_option maxRecDepth 20000 in
theorem ggX6_judge_X6_isTried : GoodIn wsX6_judge wsX6_isTried := goodIn_r _ [28, 1, 29, 30, 31, 32, 33, 34, 35, 10, 36, 20, 37, 38, 39, 40, 41, 42, 43, 44, 45, 46, 47, 16, 17, 48, 5, 49, 50, 51, 52, 53, 12, 18, 13, 15, 21, 22, 54, 55, 56, 57, 58, 59, 60, 61, 62, 63, 64, 65, 66, 67, 68, 69, 70, 71, 72, 73, 74, 75, 76, 77, 78, 79, 80, 14, 81, 82, 83, 84, 23, 24, 85, 86, 87, 88, 89, 90, 19, 91, 92, 93, 94, 95, 96, 97, 98, 99, 100, 101, 102, 103, 104, 105, 106, 107, 108, 109, 110, 111, 112, 113, 114, 115, 116, 117, 118, 119, 120, 121, 122, 123, 124, 125, 126, 127, 128, 129, 130, 131, 132, 133, 134, 135, 136, 137, 138, 139, 140, 141, 142, 143, 144, 145, 146, 147, 148, 149, 150, 151, 152, 153] (by decide +kernel) (by decide +kernel)
set_option maxRecDepth 20000 in
theorem gX6_judge_X6_isTried : GoodIn wsX6_judge (wsV RX6 254 RX6 yX6_isTried wsX6_isTried) := goodIn_app (goodIn_of _ (by decide +kernel)) ggX6_judge_X6_isTried
theorem dX6_judge_0 : decode cX6_judge 0 = .ok (.iload_n 1, 1) := by decide +kernel
theorem dX6_judge_1 : decode cX6_judge 1 = .ok (.iconst 1, 1) := by decide +kernel
theorem dX6_judge_2 : decode cX6_judge 2 = .ok (.if_icmp .lt 21, 3) := by decide +kernel
theorem dX6_judge_5 : decode cX6_judge 5 = .ok (.iload_n 1, 1) := by decide +kernel
theorem dX6_judge_6 : decode cX6_judge 6 = .ok (.iconst 4, 1) := by decide +kernel
theorem dX6_judge_7 : decode cX6_judge 7 = .ok (.if_icmp .gt 16, 3) := by decide +kernel
theorem dX6_judge_10 : decode cX6_judge 10 = .ok (.iload_n 2, 1) := by decide +kernel
theorem dX6_judge_11 : decode cX6_judge 11 = .ok (.ifCond .lt 12, 3) := by decide +kernel
theorem dX6_judge_14 : decode cX6_judge 14 = .ok (.iload_n 2, 1) := by decide +kernel
theorem dX6_judge_15 : decode cX6_judge 15 = .ok (.iload_n 1, 1) := by decide +kernel
theorem dX6_judge_16 : decode cX6_judge 16 = .ok (.iconst (-1), 1) := by decide +kernel
theorem dX6_judge_17 : decode cX6_judge 17 = .ok (.invokestatic 251, 3) := by decide +kernel
theorem dX6_judge_20 : decode cX6_judge 20 = .ok (.ifCond .le 6, 3) := by decide +kernel
theorem dX6_judge_23 : decode cX6_judge 23 = .ok (.bipush (-2), 2) := by decide +kernel
theorem dX6_judge_25 : decode cX6_judge 25 = .ok (.ireturn, 1) := by decide +kernel
theorem dX6_judge_26 : decode cX6_judge 26 = .ok (.aload_n 0, 1) := by decide +kernel
theorem dX6_judge_27 : decode cX6_judge 27 = .ok (.getfield 38, 3) := by decide +kernel
theorem dX6_judge_30 : decode cX6_judge 30 = .ok (.aload_n 0, 1) := by decide +kernel
theorem dX6_judge_31 : decode cX6_judge 31 = .ok (.getfield 34, 3) := by decide +kernel
theorem dX6_judge_34 : decode cX6_judge 34 = .ok (.invokevirtual 206, 3) := by decide +kernel
theorem dX6_judge_37 : decode cX6_judge 37 = .ok (.iconst 0, 1) := by decide +kernel
theorem dX6_judge_38 : decode cX6_judge 38 = .ok (.istore_n 3, 1) := by decide +kernel
theorem dX6_judge_39 : decode cX6_judge 39 = .ok (.iload_n 3, 1) := by decide +kernel
theorem dX6_judge_40 : decode cX6_judge 40 = .ok (.iload_n 1, 1) := by decide +kernel
theorem dX6_judge_41 : decode cX6_judge 41 = .ok (.if_icmp .ge 36, 3) := by decide +kernel
theorem dX6_judge_44 : decode cX6_judge 44 = .ok (.iload_n 2, 1) := by decide +kernel
theorem dX6_judge_45 : decode cX6_judge 45 = .ok (.iload_n 1, 1) := by decide +kernel
theorem dX6_judge_46 : decode cX6_judge 46 = .ok (.iload_n 3, 1) := by decide +kernel
theorem dX6_judge_47 : decode cX6_judge 47 = .ok (.invokestatic 251, 3) := by decide +kernel
theorem dX6_judge_50 : decode cX6_judge 50 = .ok (.istore 4, 2) := by decide +kernel
theorem dX6_judge_52 : decode cX6_judge 52 = .ok (.aload_n 0, 1) := by decide +kernel
theorem dX6_judge_53 : decode cX6_judge 53 = .ok (.iload 4, 2) := by decide +kernel
theorem dX6_judge_55 : decode cX6_judge 55 = .ok (.bipush 10, 2) := by decide +kernel
theorem dX6_judge_57 : decode cX6_judge 57 = .ok (.idiv, 1) := by decide +kernel
theorem dX6_judge_58 : decode cX6_judge 58 = .ok (.iload 4, 2) := by decide +kernel
theorem dX6_judge_60 : decode cX6_judge 60 = .ok (.bipush 10, 2) := by decide +kernel
theorem dX6_judge_62 : decode cX6_judge 62 = .ok (.irem, 1) := by decide +kernel
theorem dX6_judge_63 : decode cX6_judge 63 = .ok (.invokevirtual 254, 3) := by decide +kernel
theorem dX6_judge_66 : decode cX6_judge 66 = .ok (.ifCond .ne 5, 3) := by decide +kernel
theorem dX6_judge_69 : decode cX6_judge 69 = .ok (.iload_n 3, 1) := by decide +kernel
theorem dX6_judge_70 : decode cX6_judge 70 = .ok (.ireturn, 1) := by decide +kernel
theorem dX6_judge_71 : decode cX6_judge 71 = .ok (.iinc 3 1, 3) := by decide +kernel
theorem dX6_judge_74 : decode cX6_judge 74 = .ok (.goto (-35), 3) := by decide +kernel
theorem dX6_judge_77 : decode cX6_judge 77 = .ok (.bipush (-9), 2) := by decide +kernel
theorem dX6_judge_79 : decode cX6_judge 79 = .ok (.ireturn, 1) := by decide +kernel
theorem dX6_doingOf_0 : decode cX6_doingOf 0 = .ok (.iload_n 0, 1) := by decide +kernel
theorem dX6_doingOf_1 : decode cX6_doingOf 1 = .ok (.istore_n 3, 1) := by decide +kernel
theorem dX6_doingOf_2 : decode cX6_doingOf 2 = .ok (.iload_n 1, 1) := by decide +kernel
theorem dX6_doingOf_3 : decode cX6_doingOf 3 = .ok (.iconst 1, 1) := by decide +kernel
theorem dX6_doingOf_4 : decode cX6_doingOf 4 = .ok (.isub, 1) := by decide +kernel
theorem dX6_doingOf_5 : decode cX6_doingOf 5 = .ok (.istore 4, 2) := by decide +kernel
theorem dX6_doingOf_7 : decode cX6_doingOf 7 = .ok (.iload 4, 2) := by decide +kernel
theorem dX6_doingOf_9 : decode cX6_doingOf 9 = .ok (.iload_n 2, 1) := by decide +kernel
theorem dX6_doingOf_10 : decode cX6_doingOf 10 = .ok (.if_icmp .le 14, 3) := by decide +kernel
theorem dX6_doingOf_13 : decode cX6_doingOf 13 = .ok (.iload_n 3, 1) := by decide +kernel
theorem dX6_doingOf_14 : decode cX6_doingOf 14 = .ok (.bipush 100, 2) := by decide +kernel
theorem dX6_doingOf_16 : decode cX6_doingOf 16 = .ok (.idiv, 1) := by decide +kernel
theorem dX6_doingOf_17 : decode cX6_doingOf 17 = .ok (.istore_n 3, 1) := by decide +kernel
theorem dX6_doingOf_18 : decode cX6_doingOf 18 = .ok (.iinc 4 (-1), 3) := by decide +kernel
theorem dX6_doingOf_21 : decode cX6_doingOf 21 = .ok (.goto (-14), 3) := by decide +kernel
theorem dX6_doingOf_24 : decode cX6_doingOf 24 = .ok (.iload_n 2, 1) := by decide +kernel
theorem dX6_doingOf_25 : decode cX6_doingOf 25 = .ok (.ifCond .ge 7, 3) := by decide +kernel
theorem dX6_doingOf_28 : decode cX6_doingOf 28 = .ok (.iload_n 3, 1) := by decide +kernel
theorem dX6_doingOf_29 : decode cX6_doingOf 29 = .ok (.goto 7, 3) := by decide +kernel
theorem dX6_doingOf_32 : decode cX6_doingOf 32 = .ok (.iload_n 3, 1) := by decide +kernel
theorem dX6_doingOf_33 : decode cX6_doingOf 33 = .ok (.bipush 100, 2) := by decide +kernel
theorem dX6_doingOf_35 : decode cX6_doingOf 35 = .ok (.irem, 1) := by decide +kernel
theorem dX6_doingOf_36 : decode cX6_doingOf 36 = .ok (.ireturn, 1) := by decide +kernel
set_option maxRecDepth 20000 in
theorem ggX6_isTried_X2_advance : GoodIn wsX6_isTried wsX2_advance := goodIn_r _ [10, 11, 12, 13, 14, 15, 16, 17, 18, 19, 20, 21, 9, 22, 23, 24, 25, 26, 27, 28, 29, 30, 31, 32, 33, 34, 35, 36, 37, 38, 39, 40, 41, 42, 43, 44, 45, 46, 47, 48, 49, 50, 51, 52, 53, 54, 55, 56, 57, 58, 59, 60, 61, 62, 63, 64, 65, 66, 67, 68, 69, 70, 71, 72, 73, 74, 75, 76, 77, 78, 120, 121, 122, 123, 124, 125, 126, 127, 128, 129, 130, 131, 132, 133, 134, 135, 136, 137, 138, 139, 140, 141] (by decide +kernel) (by decide +kernel)
set_option maxRecDepth 20000 in
theorem gX6_isTried_X2_advance : GoodIn wsX6_isTried (wsV RX6 181 RX2 yX2_advance wsX2_advance) := goodIn_app (goodIn_of _ (by decide +kernel)) ggX6_isTried_X2_advance
set_option maxRecDepth 20000 in
theorem ggX6_isTried_X6_isNoPipe : GoodIn wsX6_isTried wsX6_isNoPipe := goodIn_r _ [82, 2, 83, 107, 108, 109, 110, 111, 112, 113, 114, 115, 116, 117, 118, 119, 129, 130, 131, 132, 133, 134, 135, 136, 137, 138, 139, 140, 141] (by decide +kernel) (by decide +kernel)
set_option maxRecDepth 20000 in
theorem gX6_isTried_X6_isNoPipe : GoodIn wsX6_isTried (wsV RX6 140 RX6 yX6_isNoPipe wsX6_isNoPipe) := goodIn_app (goodIn_of _ (by decide +kernel)) ggX6_isTried_X6_isNoPipe
set_option maxRecDepth 20000 in
theorem ggX6_isTried_X6_has : GoodIn wsX6_isTried wsX6_has := goodIn_r _ [27] (by decide +kernel) (by decide +kernel)
set_option maxRecDepth 20000 in
theorem gX6_isTried_X6_has : GoodIn wsX6_isTried (va_wsS RX6 112 yX6_has wsX6_has) := goodIn_app (goodIn_of _ (by decide +kernel)) ggX6_isTried_X6_has
set_option maxRecDepth 20000 in
theorem ggX6_isTried_X2_turnPipe : GoodIn wsX6_isTried wsX2_turnPipe := goodIn_r _ [88, 33, 45, 26, 46, 120, 121, 122, 123, 124, 125, 126, 127, 128] (by decide +kernel) (by decide +kernel)
set_option maxRecDepth 20000 in
theorem gX6_isTried_X2_turnPipe : GoodIn wsX6_isTried (wsV RX6 184 RX2 yX2_turnPipe wsX2_turnPipe) := goodIn_app (goodIn_of _ (by decide +kernel)) ggX6_isTried_X2_turnPipe
set_option maxRecDepth 20000 in
theorem ggX6_isTried_X6_isNoJoint : GoodIn wsX6_isTried wsX6_isNoJoint := goodIn_r _ [92, 2, 93, 107, 108, 109, 110, 111, 112, 113, 114, 115, 116, 117, 118, 119, 129, 130, 131, 132, 133, 134, 135, 136, 137, 138, 139, 140, 141] (by decide +kernel) (by decide +kernel)
set_option maxRecDepth 20000 in
theorem gX6_isTried_X6_isNoJoint : GoodIn wsX6_isTried (wsV RX6 98 RX6 yX6_isNoJoint wsX6_isNoJoint) := goodIn_app (goodIn_of _ (by decide +kernel)) ggX6_isTried_X6_isNoJoint
set_option maxRecDepth 20000 in
theorem ggX6_isTried_X2_turnLid : GoodIn wsX6_isTried wsX2_turnLid := goodIn_r _ [97, 78, 45, 26, 46, 120, 121, 122, 123, 124, 125, 126, 127, 128] (by decide +kernel) (by decide +kernel)
set_option maxRecDepth 20000 in
theorem gX6_isTried_X2_turnLid : GoodIn wsX6_isTried (wsV RX6 187 RX2 yX2_turnLid wsX2_turnLid) := goodIn_app (goodIn_of _ (by decide +kernel)) ggX6_isTried_X2_turnLid
set_option maxRecDepth 20000 in
theorem ggX6_isTried_X6_isNoWalker : GoodIn wsX6_isTried wsX6_isNoWalker := goodIn_r _ [101, 2, 102, 107, 108, 109, 110, 111, 112, 113, 114, 115, 116, 117, 118, 119, 129, 130, 131, 132, 133, 134, 135, 136, 137, 138, 139, 140, 141] (by decide +kernel) (by decide +kernel)
set_option maxRecDepth 20000 in
theorem gX6_isTried_X6_isNoWalker : GoodIn wsX6_isTried (wsV RX6 149 RX6 yX6_isNoWalker wsX6_isNoWalker) := goodIn_app (goodIn_of _ (by decide +kernel)) ggX6_isTried_X6_isNoWalker
set_option maxRecDepth 20000 in
theorem ggX6_isTried_X2_callBack : GoodIn wsX6_isTried wsX2_callBack := goodIn_r _ [106, 34, 65, 70, 26, 71, 120, 121, 122, 123, 124, 125, 126, 127, 128] (by decide +kernel) (by decide +kernel)
set_option maxRecDepth 20000 in
theorem gX6_isTried_X2_callBack : GoodIn wsX6_isTried (wsV RX6 190 RX2 yX2_callBack wsX2_callBack) := goodIn_app (goodIn_of _ (by decide +kernel)) ggX6_isTried_X2_callBack
theorem dX6_isTried_0 : decode cX6_isTried 0 = .ok (.iload_n 1, 1) := by decide +kernel
theorem dX6_isTried_1 : decode cX6_isTried 1 = .ok (.tableswitch 166 0 4 #[35, 54, 54, 98, 132], 35) := by decide +kernel
theorem dX6_isTried_36 : decode cX6_isTried 36 = .ok (.iload_n 2, 1) := by decide +kernel
theorem dX6_isTried_37 : decode cX6_isTried 37 = .ok (.ifCond .eq 5, 3) := by decide +kernel
theorem dX6_isTried_40 : decode cX6_isTried 40 = .ok (.iconst 0, 1) := by decide +kernel
theorem dX6_isTried_41 : decode cX6_isTried 41 = .ok (.ireturn, 1) := by decide +kernel
theorem dX6_isTried_42 : decode cX6_isTried 42 = .ok (.aload_n 0, 1) := by decide +kernel
theorem dX6_isTried_43 : decode cX6_isTried 43 = .ok (.getfield 38, 3) := by decide +kernel
theorem dX6_isTried_46 : decode cX6_isTried 46 = .ok (.aload_n 0, 1) := by decide +kernel
theorem dX6_isTried_47 : decode cX6_isTried 47 = .ok (.getfield 30, 3) := by decide +kernel
theorem dX6_isTried_50 : decode cX6_isTried 50 = .ok (.invokevirtual 181, 3) := by decide +kernel
theorem dX6_isTried_53 : decode cX6_isTried 53 = .ok (.iconst 1, 1) := by decide +kernel
theorem dX6_isTried_54 : decode cX6_isTried 54 = .ok (.ireturn, 1) := by decide +kernel
theorem dX6_isTried_55 : decode cX6_isTried 55 = .ok (.aload_n 0, 1) := by decide +kernel
theorem dX6_isTried_56 : decode cX6_isTried 56 = .ok (.iload_n 2, 1) := by decide +kernel
theorem dX6_isTried_57 : decode cX6_isTried 57 = .ok (.invokevirtual 140, 3) := by decide +kernel
theorem dX6_isTried_60 : decode cX6_isTried 60 = .ok (.ifCond .ne 27, 3) := by decide +kernel
theorem dX6_isTried_63 : decode cX6_isTried 63 = .ok (.aload_n 0, 1) := by decide +kernel
theorem dX6_isTried_64 : decode cX6_isTried 64 = .ok (.getfield 38, 3) := by decide +kernel
theorem dX6_isTried_67 : decode cX6_isTried 67 = .ok (.getfield 133, 3) := by decide +kernel
theorem dX6_isTried_70 : decode cX6_isTried 70 = .ok (.iload_n 2, 1) := by decide +kernel
theorem dX6_isTried_71 : decode cX6_isTried 71 = .ok (.invokestatic 112, 3) := by decide +kernel
theorem dX6_isTried_74 : decode cX6_isTried 74 = .ok (.iload_n 1, 1) := by decide +kernel
theorem dX6_isTried_75 : decode cX6_isTried 75 = .ok (.iconst 1, 1) := by decide +kernel
theorem dX6_isTried_76 : decode cX6_isTried 76 = .ok (.if_icmp .ne 7, 3) := by decide +kernel
theorem dX6_isTried_79 : decode cX6_isTried 79 = .ok (.iconst 1, 1) := by decide +kernel
theorem dX6_isTried_80 : decode cX6_isTried 80 = .ok (.goto 4, 3) := by decide +kernel
theorem dX6_isTried_83 : decode cX6_isTried 83 = .ok (.iconst 0, 1) := by decide +kernel
theorem dX6_isTried_84 : decode cX6_isTried 84 = .ok (.if_icmp .eq 5, 3) := by decide +kernel
theorem dX6_isTried_87 : decode cX6_isTried 87 = .ok (.iconst 0, 1) := by decide +kernel
theorem dX6_isTried_88 : decode cX6_isTried 88 = .ok (.ireturn, 1) := by decide +kernel
theorem dX6_isTried_89 : decode cX6_isTried 89 = .ok (.aload_n 0, 1) := by decide +kernel
theorem dX6_isTried_90 : decode cX6_isTried 90 = .ok (.getfield 38, 3) := by decide +kernel
theorem dX6_isTried_93 : decode cX6_isTried 93 = .ok (.iload_n 2, 1) := by decide +kernel
theorem dX6_isTried_94 : decode cX6_isTried 94 = .ok (.invokevirtual 184, 3) := by decide +kernel
theorem dX6_isTried_97 : decode cX6_isTried 97 = .ok (.iconst 1, 1) := by decide +kernel
theorem dX6_isTried_98 : decode cX6_isTried 98 = .ok (.ireturn, 1) := by decide +kernel
theorem dX6_isTried_99 : decode cX6_isTried 99 = .ok (.aload_n 0, 1) := by decide +kernel
theorem dX6_isTried_100 : decode cX6_isTried 100 = .ok (.iload_n 2, 1) := by decide +kernel
theorem dX6_isTried_101 : decode cX6_isTried 101 = .ok (.invokevirtual 98, 3) := by decide +kernel
theorem dX6_isTried_104 : decode cX6_isTried 104 = .ok (.ifCond .ne 17, 3) := by decide +kernel
theorem dX6_isTried_107 : decode cX6_isTried 107 = .ok (.aload_n 0, 1) := by decide +kernel
theorem dX6_isTried_108 : decode cX6_isTried 108 = .ok (.getfield 30, 3) := by decide +kernel
theorem dX6_isTried_111 : decode cX6_isTried 111 = .ok (.getfield 109, 3) := by decide +kernel
theorem dX6_isTried_114 : decode cX6_isTried 114 = .ok (.iload_n 2, 1) := by decide +kernel
theorem dX6_isTried_115 : decode cX6_isTried 115 = .ok (.invokestatic 112, 3) := by decide +kernel
theorem dX6_isTried_118 : decode cX6_isTried 118 = .ok (.ifCond .ne 5, 3) := by decide +kernel
theorem dX6_isTried_121 : decode cX6_isTried 121 = .ok (.iconst 0, 1) := by decide +kernel
theorem dX6_isTried_122 : decode cX6_isTried 122 = .ok (.ireturn, 1) := by decide +kernel
theorem dX6_isTried_123 : decode cX6_isTried 123 = .ok (.aload_n 0, 1) := by decide +kernel
theorem dX6_isTried_124 : decode cX6_isTried 124 = .ok (.getfield 38, 3) := by decide +kernel
theorem dX6_isTried_127 : decode cX6_isTried 127 = .ok (.iload_n 2, 1) := by decide +kernel
theorem dX6_isTried_128 : decode cX6_isTried 128 = .ok (.invokevirtual 187, 3) := by decide +kernel
theorem dX6_isTried_131 : decode cX6_isTried 131 = .ok (.iconst 1, 1) := by decide +kernel
theorem dX6_isTried_132 : decode cX6_isTried 132 = .ok (.ireturn, 1) := by decide +kernel
theorem dX6_isTried_133 : decode cX6_isTried 133 = .ok (.aload_n 0, 1) := by decide +kernel
theorem dX6_isTried_134 : decode cX6_isTried 134 = .ok (.iload_n 2, 1) := by decide +kernel
theorem dX6_isTried_135 : decode cX6_isTried 135 = .ok (.invokevirtual 149, 3) := by decide +kernel
theorem dX6_isTried_138 : decode cX6_isTried 138 = .ok (.ifCond .ne 17, 3) := by decide +kernel
theorem dX6_isTried_141 : decode cX6_isTried 141 = .ok (.aload_n 0, 1) := by decide +kernel
theorem dX6_isTried_142 : decode cX6_isTried 142 = .ok (.getfield 38, 3) := by decide +kernel
theorem dX6_isTried_145 : decode cX6_isTried 145 = .ok (.getfield 167, 3) := by decide +kernel
theorem dX6_isTried_148 : decode cX6_isTried 148 = .ok (.iload_n 2, 1) := by decide +kernel
theorem dX6_isTried_149 : decode cX6_isTried 149 = .ok (.invokestatic 112, 3) := by decide +kernel
theorem dX6_isTried_152 : decode cX6_isTried 152 = .ok (.ifCond .eq 5, 3) := by decide +kernel
theorem dX6_isTried_155 : decode cX6_isTried 155 = .ok (.iconst 0, 1) := by decide +kernel
theorem dX6_isTried_156 : decode cX6_isTried 156 = .ok (.ireturn, 1) := by decide +kernel
theorem dX6_isTried_157 : decode cX6_isTried 157 = .ok (.aload_n 0, 1) := by decide +kernel
theorem dX6_isTried_158 : decode cX6_isTried 158 = .ok (.getfield 38, 3) := by decide +kernel
theorem dX6_isTried_161 : decode cX6_isTried 161 = .ok (.iload_n 2, 1) := by decide +kernel
theorem dX6_isTried_162 : decode cX6_isTried 162 = .ok (.invokevirtual 190, 3) := by decide +kernel
theorem dX6_isTried_165 : decode cX6_isTried 165 = .ok (.iconst 1, 1) := by decide +kernel
theorem dX6_isTried_166 : decode cX6_isTried 166 = .ok (.ireturn, 1) := by decide +kernel
theorem dX6_isTried_167 : decode cX6_isTried 167 = .ok (.iconst 0, 1) := by decide +kernel
theorem dX6_isTried_168 : decode cX6_isTried 168 = .ok (.ireturn, 1) := by decide +kernel
set_option maxRecDepth 20000 in
theorem ggX6_hear_X6_isNoWalker : GoodIn wsX6_hear wsX6_isNoWalker := goodIn_r _ [7, 8, 9, 26, 27, 28, 29, 30, 31, 32, 33, 34, 35, 36, 37, 38, 43, 44, 45, 46, 47, 48, 49, 50, 51, 52, 53, 54, 55] (by decide +kernel) (by decide +kernel)
set_option maxRecDepth 20000 in
theorem gX6_hear_X6_isNoWalker : GoodIn wsX6_hear (wsV RX6 149 RX6 yX6_isNoWalker wsX6_isNoWalker) := goodIn_app (goodIn_of _ (by decide +kernel)) ggX6_hear_X6_isNoWalker
set_option maxRecDepth 20000 in
theorem ggX6_hear_X6_isNoJoint : GoodIn wsX6_hear wsX6_isNoJoint := goodIn_r _ [13, 8, 14, 26, 27, 28, 29, 30, 31, 32, 33, 34, 35, 36, 37, 38, 43, 44, 45, 46, 47, 48, 49, 50, 51, 52, 53, 54, 55] (by decide +kernel) (by decide +kernel)
set_option maxRecDepth 20000 in
theorem gX6_hear_X6_isNoJoint : GoodIn wsX6_hear (wsV RX6 98 RX6 yX6_isNoJoint wsX6_isNoJoint) := goodIn_app (goodIn_of _ (by decide +kernel)) ggX6_hear_X6_isNoJoint
set_option maxRecDepth 20000 in
theorem ggX6_hear_X0_add : GoodIn wsX6_hear wsX0_add := goodIn_r _ [19, 20, 21, 22, 23, 24, 6, 25, 39, 40, 41, 42] (by decide +kernel) (by decide +kernel)
set_option maxRecDepth 20000 in
theorem gX6_hear_X0_add : GoodIn wsX6_hear (wsV RX6 258 RX0 yX0_add wsX0_add) := goodIn_app (goodIn_of _ (by decide +kernel)) ggX6_hear_X0_add
theorem dX6_hear_0 : decode cX6_hear 0 = .ok (.aload_n 0, 1) := by decide +kernel
theorem dX6_hear_1 : decode cX6_hear 1 = .ok (.iload_n 1, 1) := by decide +kernel
theorem dX6_hear_2 : decode cX6_hear 2 = .ok (.invokevirtual 149, 3) := by decide +kernel
theorem dX6_hear_5 : decode cX6_hear 5 = .ok (.ifCond .ne 11, 3) := by decide +kernel
theorem dX6_hear_8 : decode cX6_hear 8 = .ok (.aload_n 0, 1) := by decide +kernel
theorem dX6_hear_9 : decode cX6_hear 9 = .ok (.iload_n 2, 1) := by decide +kernel
theorem dX6_hear_10 : decode cX6_hear 10 = .ok (.invokevirtual 98, 3) := by decide +kernel
theorem dX6_hear_13 : decode cX6_hear 13 = .ok (.ifCond .eq 5, 3) := by decide +kernel
theorem dX6_hear_16 : decode cX6_hear 16 = .ok (.iconst (-1), 1) := by decide +kernel
theorem dX6_hear_17 : decode cX6_hear 17 = .ok (.ireturn, 1) := by decide +kernel
theorem dX6_hear_18 : decode cX6_hear 18 = .ok (.iload_n 3, 1) := by decide +kernel
theorem dX6_hear_19 : decode cX6_hear 19 = .ok (.iconst 1, 1) := by decide +kernel
theorem dX6_hear_20 : decode cX6_hear 20 = .ok (.if_icmp .lt 9, 3) := by decide +kernel
theorem dX6_hear_23 : decode cX6_hear 23 = .ok (.iload_n 3, 1) := by decide +kernel
theorem dX6_hear_24 : decode cX6_hear 24 = .ok (.bipush 9, 2) := by decide +kernel
theorem dX6_hear_26 : decode cX6_hear 26 = .ok (.if_icmp .le 6, 3) := by decide +kernel
theorem dX6_hear_29 : decode cX6_hear 29 = .ok (.bipush (-2), 2) := by decide +kernel
theorem dX6_hear_31 : decode cX6_hear 31 = .ok (.ireturn, 1) := by decide +kernel
theorem dX6_hear_32 : decode cX6_hear 32 = .ok (.aload_n 0, 1) := by decide +kernel
theorem dX6_hear_33 : decode cX6_hear 33 = .ok (.getfield 61, 3) := by decide +kernel
theorem dX6_hear_36 : decode cX6_hear 36 = .ok (.getfield 257, 3) := by decide +kernel
theorem dX6_hear_39 : decode cX6_hear 39 = .ok (.bipush 6, 2) := by decide +kernel
theorem dX6_hear_41 : decode cX6_hear 41 = .ok (.if_icmp .lt 6, 3) := by decide +kernel
theorem dX6_hear_44 : decode cX6_hear 44 = .ok (.bipush (-4), 2) := by decide +kernel
theorem dX6_hear_46 : decode cX6_hear 46 = .ok (.ireturn, 1) := by decide +kernel
theorem dX6_hear_47 : decode cX6_hear 47 = .ok (.aload_n 0, 1) := by decide +kernel
theorem dX6_hear_48 : decode cX6_hear 48 = .ok (.getfield 61, 3) := by decide +kernel
theorem dX6_hear_51 : decode cX6_hear 51 = .ok (.iload_n 1, 1) := by decide +kernel
theorem dX6_hear_52 : decode cX6_hear 52 = .ok (.iload_n 2, 1) := by decide +kernel
theorem dX6_hear_53 : decode cX6_hear 53 = .ok (.iload_n 3, 1) := by decide +kernel
theorem dX6_hear_54 : decode cX6_hear 54 = .ok (.invokevirtual 258, 3) := by decide +kernel
theorem dX6_hear_57 : decode cX6_hear 57 = .ok (.aload_n 0, 1) := by decide +kernel
theorem dX6_hear_58 : decode cX6_hear 58 = .ok (.getfield 61, 3) := by decide +kernel
theorem dX6_hear_61 : decode cX6_hear 61 = .ok (.getfield 257, 3) := by decide +kernel
theorem dX6_hear_64 : decode cX6_hear 64 = .ok (.ireturn, 1) := by decide +kernel
theorem dX6_unhear_0 : decode cX6_unhear 0 = .ok (.aload_n 0, 1) := by decide +kernel
theorem dX6_unhear_1 : decode cX6_unhear 1 = .ok (.getfield 61, 3) := by decide +kernel
theorem dX6_unhear_4 : decode cX6_unhear 4 = .ok (.getfield 257, 3) := by decide +kernel
theorem dX6_unhear_7 : decode cX6_unhear 7 = .ok (.istore_n 1, 1) := by decide +kernel
theorem dX6_unhear_8 : decode cX6_unhear 8 = .ok (.aload_n 0, 1) := by decide +kernel
theorem dX6_unhear_9 : decode cX6_unhear 9 = .ok (.getfield 61, 3) := by decide +kernel
theorem dX6_unhear_12 : decode cX6_unhear 12 = .ok (.iconst 0, 1) := by decide +kernel
theorem dX6_unhear_13 : decode cX6_unhear 13 = .ok (.putfield 257, 3) := by decide +kernel
theorem dX6_unhear_16 : decode cX6_unhear 16 = .ok (.iload_n 1, 1) := by decide +kernel
theorem dX6_unhear_17 : decode cX6_unhear 17 = .ok (.ireturn, 1) := by decide +kernel
set_option maxRecDepth 20000 in
theorem ggX6_turning_X6_isNoWalker : GoodIn wsX6_turning wsX6_isNoWalker := goodIn_r _ [7, 8, 9, 108, 109, 110, 111, 112, 113, 114, 115, 116, 117, 118, 119, 120, 130, 131, 132, 133, 134, 135, 136, 137, 138, 139, 140, 141, 142] (by decide +kernel) (by decide +kernel)
set_option maxRecDepth 20000 in
theorem gX6_turning_X6_isNoWalker : GoodIn wsX6_turning (wsV RX6 149 RX6 yX6_isNoWalker wsX6_isNoWalker) := goodIn_app (goodIn_of _ (by decide +kernel)) ggX6_turning_X6_isNoWalker
set_option maxRecDepth 20000 in
theorem ggX6_turning_X6_has : GoodIn wsX6_turning wsX6_has := goodIn_r _ [12] (by decide +kernel) (by decide +kernel)
set_option maxRecDepth 20000 in
theorem gX6_turning_X6_has : GoodIn wsX6_turning (va_wsS RX6 112 yX6_has wsX6_has) := goodIn_app (goodIn_of _ (by decide +kernel)) ggX6_turning_X6_has
set_option maxRecDepth 20000 in
theorem ggX6_turning_X6_isAsHeard : GoodIn wsX6_turning wsX6_isAsHeard := goodIn_r _ [16, 17, 1, 18, 8, 19, 20, 21, 22, 23, 24, 25, 26, 27, 28, 29, 30, 31, 32, 33, 34, 35, 36, 6, 37, 38, 39, 40, 41, 42, 43, 44, 45, 46, 47, 48, 49, 50, 51, 52, 53, 54, 55, 11, 12, 56, 57, 58, 59, 60, 61, 62, 63, 64, 65, 66, 67, 68, 69, 70, 71, 72, 73, 74, 75, 76, 77, 78, 79, 80, 81, 82, 83, 84, 85, 86, 87, 88, 89, 90, 91, 92, 93, 94, 95, 96, 97, 98, 99, 100, 101, 102, 103, 104, 105, 106, 108, 109, 110, 111, 112, 113, 114, 115, 116, 117, 118, 119, 120, 121, 122, 123, 124, 125, 126, 127, 128, 129, 130, 131, 132, 133, 134, 135, 136, 137, 138, 139, 140, 141, 142, 143, 144, 145, 146] (by decide +kernel) (by decide +kernel)
set_option maxRecDepth 20000 in
theorem gX6_turning_X6_isAsHeard : GoodIn wsX6_turning (wsV RX6 261 RX6 yX6_isAsHeard wsX6_isAsHeard) := goodIn_app (goodIn_of _ (by decide +kernel)) ggX6_turning_X6_isAsHeard
set_option maxRecDepth 20000 in
theorem ggX6_turning_X6_bit : GoodIn wsX6_turning wsX6_bit := goodIn_r _ [68] (by decide +kernel) (by decide +kernel)
set_option maxRecDepth 20000 in
theorem gX6_turning_X6_bit : GoodIn wsX6_turning (va_wsS RX6 244 yX6_bit wsX6_bit) := goodIn_app (goodIn_of _ (by decide +kernel)) ggX6_turning_X6_bit
theorem dX6_turning_0 : decode cX6_turning 0 = .ok (.aload_n 0, 1) := by decide +kernel
theorem dX6_turning_1 : decode cX6_turning 1 = .ok (.iload_n 1, 1) := by decide +kernel
theorem dX6_turning_2 : decode cX6_turning 2 = .ok (.invokevirtual 149, 3) := by decide +kernel
theorem dX6_turning_5 : decode cX6_turning 5 = .ok (.ifCond .eq 5, 3) := by decide +kernel
theorem dX6_turning_8 : decode cX6_turning 8 = .ok (.iconst (-1), 1) := by decide +kernel
theorem dX6_turning_9 : decode cX6_turning 9 = .ok (.ireturn, 1) := by decide +kernel
theorem dX6_turning_10 : decode cX6_turning 10 = .ok (.aload_n 0, 1) := by decide +kernel
theorem dX6_turning_11 : decode cX6_turning 11 = .ok (.getfield 34, 3) := by decide +kernel
theorem dX6_turning_14 : decode cX6_turning 14 = .ok (.getfield 167, 3) := by decide +kernel
theorem dX6_turning_17 : decode cX6_turning 17 = .ok (.iload_n 1, 1) := by decide +kernel
theorem dX6_turning_18 : decode cX6_turning 18 = .ok (.invokestatic 112, 3) := by decide +kernel
theorem dX6_turning_21 : decode cX6_turning 21 = .ok (.ifCond .eq 6, 3) := by decide +kernel
theorem dX6_turning_24 : decode cX6_turning 24 = .ok (.bipush (-3), 2) := by decide +kernel
theorem dX6_turning_26 : decode cX6_turning 26 = .ok (.ireturn, 1) := by decide +kernel
theorem dX6_turning_27 : decode cX6_turning 27 = .ok (.iconst 0, 1) := by decide +kernel
theorem dX6_turning_28 : decode cX6_turning 28 = .ok (.istore_n 2, 1) := by decide +kernel
theorem dX6_turning_29 : decode cX6_turning 29 = .ok (.iconst 0, 1) := by decide +kernel
theorem dX6_turning_30 : decode cX6_turning 30 = .ok (.istore_n 3, 1) := by decide +kernel
theorem dX6_turning_31 : decode cX6_turning 31 = .ok (.iload_n 3, 1) := by decide +kernel
theorem dX6_turning_32 : decode cX6_turning 32 = .ok (.iconst 4, 1) := by decide +kernel
theorem dX6_turning_33 : decode cX6_turning 33 = .ok (.if_icmp .ge 25, 3) := by decide +kernel
theorem dX6_turning_36 : decode cX6_turning 36 = .ok (.aload_n 0, 1) := by decide +kernel
theorem dX6_turning_37 : decode cX6_turning 37 = .ok (.iload_n 1, 1) := by decide +kernel
theorem dX6_turning_38 : decode cX6_turning 38 = .ok (.iload_n 3, 1) := by decide +kernel
theorem dX6_turning_39 : decode cX6_turning 39 = .ok (.invokevirtual 261, 3) := by decide +kernel
theorem dX6_turning_42 : decode cX6_turning 42 = .ok (.ifCond .eq 10, 3) := by decide +kernel
theorem dX6_turning_45 : decode cX6_turning 45 = .ok (.iload_n 2, 1) := by decide +kernel
theorem dX6_turning_46 : decode cX6_turning 46 = .ok (.iload_n 3, 1) := by decide +kernel
theorem dX6_turning_47 : decode cX6_turning 47 = .ok (.invokestatic 244, 3) := by decide +kernel
theorem dX6_turning_50 : decode cX6_turning 50 = .ok (.ior, 1) := by decide +kernel
theorem dX6_turning_51 : decode cX6_turning 51 = .ok (.istore_n 2, 1) := by decide +kernel
theorem dX6_turning_52 : decode cX6_turning 52 = .ok (.iinc 3 1, 3) := by decide +kernel
theorem dX6_turning_55 : decode cX6_turning 55 = .ok (.goto (-24), 3) := by decide +kernel
theorem dX6_turning_58 : decode cX6_turning 58 = .ok (.iload_n 2, 1) := by decide +kernel
theorem dX6_turning_59 : decode cX6_turning 59 = .ok (.ireturn, 1) := by decide +kernel
set_option maxRecDepth 20000 in
theorem ggX6_isAsHeard_X2_copy : GoodIn wsX6_isAsHeard wsX2_copy := goodIn_r _ [12, 13, 14, 15, 16, 17, 18, 19, 20, 21, 22, 23, 24, 25, 26, 109, 110, 111, 112, 113, 114, 115, 116, 117] (by decide +kernel) (by decide +kernel)
set_option maxRecDepth 20000 in
theorem gX6_isAsHeard_X2_copy : GoodIn wsX6_isAsHeard (wsV RX6 206 RX2 yX2_copy wsX2_copy) := goodIn_app (goodIn_of _ (by decide +kernel)) ggX6_isAsHeard_X2_copy
set_option maxRecDepth 20000 in
theorem ggX6_isAsHeard_X6_put : GoodIn wsX6_isAsHeard wsX6_put := goodIn_r _ [26] (by decide +kernel) (by decide +kernel)
set_option maxRecDepth 20000 in
theorem gX6_isAsHeard_X6_put : GoodIn wsX6_isAsHeard (va_wsS RX6 247 yX6_put wsX6_put) := goodIn_app (goodIn_of _ (by decide +kernel)) ggX6_isAsHeard_X6_put
set_option maxRecDepth 20000 in
theorem ggX6_isAsHeard_X2_advance : GoodIn wsX6_isAsHeard wsX2_advance := goodIn_r _ [31, 21, 32, 33, 34, 35, 36, 37, 38, 39, 40, 41, 11, 42, 17, 18, 43, 23, 44, 45, 46, 47, 48, 13, 19, 14, 16, 22, 24, 49, 50, 51, 52, 53, 54, 55, 56, 57, 58, 59, 60, 61, 62, 63, 64, 65, 66, 67, 68, 69, 70, 71, 72, 73, 74, 75, 15, 76, 77, 78, 79, 25, 26, 80, 81, 82, 83, 84, 85, 20, 109, 110, 111, 112, 113, 114, 115, 116, 117, 118, 119, 120, 121, 122, 123, 124, 125, 126, 127, 128, 129, 130] (by decide +kernel) (by decide +kernel)
set_option maxRecDepth 20000 in
theorem gX6_isAsHeard_X2_advance : GoodIn wsX6_isAsHeard (wsV RX6 181 RX2 yX2_advance wsX2_advance) := goodIn_app (goodIn_of _ (by decide +kernel)) ggX6_isAsHeard_X2_advance
set_option maxRecDepth 20000 in
theorem ggX6_isAsHeard_X6_cell : GoodIn wsX6_isAsHeard wsX6_cell := goodIn_r _ [24] (by decide +kernel) (by decide +kernel)
set_option maxRecDepth 20000 in
theorem gX6_isAsHeard_X6_cell : GoodIn wsX6_isAsHeard (va_wsS RX6 105 yX6_cell wsX6_cell) := goodIn_app (goodIn_of _ (by decide +kernel)) ggX6_isAsHeard_X6_cell
set_option maxRecDepth 20000 in
theorem ggX6_isAsHeard_X0_allows : GoodIn wsX6_isAsHeard wsX0_allows := goodIn_r _ [91, 92, 93, 94, 95, 22, 23, 24, 131, 132, 133, 134] (by decide +kernel) (by decide +kernel)
set_option maxRecDepth 20000 in
theorem gX6_isAsHeard_X0_allows : GoodIn wsX6_isAsHeard (wsV RX6 265 RX0 yX0_allows wsX0_allows) := goodIn_app (goodIn_of _ (by decide +kernel)) ggX6_isAsHeard_X0_allows
theorem dX6_isAsHeard_0 : decode cX6_isAsHeard 0 = .ok (.aload_n 0, 1) := by decide +kernel
theorem dX6_isAsHeard_1 : decode cX6_isAsHeard 1 = .ok (.getfield 38, 3) := by decide +kernel
theorem dX6_isAsHeard_4 : decode cX6_isAsHeard 4 = .ok (.aload_n 0, 1) := by decide +kernel
theorem dX6_isAsHeard_5 : decode cX6_isAsHeard 5 = .ok (.getfield 34, 3) := by decide +kernel
theorem dX6_isAsHeard_8 : decode cX6_isAsHeard 8 = .ok (.invokevirtual 206, 3) := by decide +kernel
theorem dX6_isAsHeard_11 : decode cX6_isAsHeard 11 = .ok (.aload_n 0, 1) := by decide +kernel
theorem dX6_isAsHeard_12 : decode cX6_isAsHeard 12 = .ok (.getfield 38, 3) := by decide +kernel
theorem dX6_isAsHeard_15 : decode cX6_isAsHeard 15 = .ok (.getfield 264, 3) := by decide +kernel
theorem dX6_isAsHeard_18 : decode cX6_isAsHeard 18 = .ok (.iload_n 1, 1) := by decide +kernel
theorem dX6_isAsHeard_19 : decode cX6_isAsHeard 19 = .ok (.iload_n 2, 1) := by decide +kernel
theorem dX6_isAsHeard_20 : decode cX6_isAsHeard 20 = .ok (.invokestatic 247, 3) := by decide +kernel
theorem dX6_isAsHeard_23 : decode cX6_isAsHeard 23 = .ok (.iconst 1, 1) := by decide +kernel
theorem dX6_isAsHeard_24 : decode cX6_isAsHeard 24 = .ok (.istore_n 3, 1) := by decide +kernel
theorem dX6_isAsHeard_25 : decode cX6_isAsHeard 25 = .ok (.iload_n 3, 1) := by decide +kernel
theorem dX6_isAsHeard_26 : decode cX6_isAsHeard 26 = .ok (.bipush 9, 2) := by decide +kernel
theorem dX6_isAsHeard_28 : decode cX6_isAsHeard 28 = .ok (.if_icmp .gt 52, 3) := by decide +kernel
theorem dX6_isAsHeard_31 : decode cX6_isAsHeard 31 = .ok (.aload_n 0, 1) := by decide +kernel
theorem dX6_isAsHeard_32 : decode cX6_isAsHeard 32 = .ok (.getfield 38, 3) := by decide +kernel
theorem dX6_isAsHeard_35 : decode cX6_isAsHeard 35 = .ok (.aload_n 0, 1) := by decide +kernel
theorem dX6_isAsHeard_36 : decode cX6_isAsHeard 36 = .ok (.getfield 30, 3) := by decide +kernel
theorem dX6_isAsHeard_39 : decode cX6_isAsHeard 39 = .ok (.invokevirtual 181, 3) := by decide +kernel
theorem dX6_isAsHeard_42 : decode cX6_isAsHeard 42 = .ok (.aload_n 0, 1) := by decide +kernel
theorem dX6_isAsHeard_43 : decode cX6_isAsHeard 43 = .ok (.getfield 61, 3) := by decide +kernel
theorem dX6_isAsHeard_46 : decode cX6_isAsHeard 46 = .ok (.iload_n 1, 1) := by decide +kernel
theorem dX6_isAsHeard_47 : decode cX6_isAsHeard 47 = .ok (.iload_n 3, 1) := by decide +kernel
theorem dX6_isAsHeard_48 : decode cX6_isAsHeard 48 = .ok (.aload_n 0, 1) := by decide +kernel
theorem dX6_isAsHeard_49 : decode cX6_isAsHeard 49 = .ok (.getfield 38, 3) := by decide +kernel
theorem dX6_isAsHeard_52 : decode cX6_isAsHeard 52 = .ok (.getfield 152, 3) := by decide +kernel
theorem dX6_isAsHeard_55 : decode cX6_isAsHeard 55 = .ok (.iload_n 1, 1) := by decide +kernel
theorem dX6_isAsHeard_56 : decode cX6_isAsHeard 56 = .ok (.invokestatic 105, 3) := by decide +kernel
theorem dX6_isAsHeard_59 : decode cX6_isAsHeard 59 = .ok (.aload_n 0, 1) := by decide +kernel
theorem dX6_isAsHeard_60 : decode cX6_isAsHeard 60 = .ok (.getfield 30, 3) := by decide +kernel
theorem dX6_isAsHeard_63 : decode cX6_isAsHeard 63 = .ok (.getfield 87, 3) := by decide +kernel
theorem dX6_isAsHeard_66 : decode cX6_isAsHeard 66 = .ok (.invokevirtual 265, 3) := by decide +kernel
theorem dX6_isAsHeard_69 : decode cX6_isAsHeard 69 = .ok (.ifCond .ne 5, 3) := by decide +kernel
theorem dX6_isAsHeard_72 : decode cX6_isAsHeard 72 = .ok (.iconst 0, 1) := by decide +kernel
theorem dX6_isAsHeard_73 : decode cX6_isAsHeard 73 = .ok (.ireturn, 1) := by decide +kernel
theorem dX6_isAsHeard_74 : decode cX6_isAsHeard 74 = .ok (.iinc 3 1, 3) := by decide +kernel
theorem dX6_isAsHeard_77 : decode cX6_isAsHeard 77 = .ok (.goto (-52), 3) := by decide +kernel
theorem dX6_isAsHeard_80 : decode cX6_isAsHeard 80 = .ok (.iconst 1, 1) := by decide +kernel
theorem dX6_isAsHeard_81 : decode cX6_isAsHeard 81 = .ok (.ireturn, 1) := by decide +kernel
set_option maxRecDepth 20000 in
theorem ggX6_share_X6_isNoWalker : GoodIn wsX6_share wsX6_isNoWalker := goodIn_r _ [8, 1, 2, 127, 128, 129, 130, 131, 132, 133, 134, 135, 136, 137, 138, 139, 140, 141, 142, 143, 144, 145, 146, 147, 148, 149, 150, 151, 152] (by decide +kernel) (by decide +kernel)
set_option maxRecDepth 20000 in
theorem gX6_share_X6_isNoWalker : GoodIn wsX6_share (wsV RX6 149 RX6 yX6_isNoWalker wsX6_isNoWalker) := goodIn_app (goodIn_of _ (by decide +kernel)) ggX6_share_X6_isNoWalker
set_option maxRecDepth 20000 in
theorem ggX6_share_X6_all : GoodIn wsX6_share wsX6_all := goodIn_r _ [11, 12, 13, 7, 14] (by decide +kernel) (by decide +kernel)
set_option maxRecDepth 20000 in
theorem gX6_share_X6_all : GoodIn wsX6_share (va_wsS RX6 227 yX6_all wsX6_all) := goodIn_app (goodIn_of _ (by decide +kernel)) ggX6_share_X6_all
set_option maxRecDepth 20000 in
theorem ggX6_share_X6_has : GoodIn wsX6_share wsX6_has := goodIn_r _ [17] (by decide +kernel) (by decide +kernel)
set_option maxRecDepth 20000 in
theorem gX6_share_X6_has : GoodIn wsX6_share (va_wsS RX6 112 yX6_has wsX6_has) := goodIn_app (goodIn_of _ (by decide +kernel)) ggX6_share_X6_has
set_option maxRecDepth 20000 in
theorem ggX6_share_X6_bit : GoodIn wsX6_share wsX6_bit := goodIn_r _ [14] (by decide +kernel) (by decide +kernel)
set_option maxRecDepth 20000 in
theorem gX6_share_X6_bit : GoodIn wsX6_share (va_wsS RX6 244 yX6_bit wsX6_bit) := goodIn_app (goodIn_of _ (by decide +kernel)) ggX6_share_X6_bit
set_option maxRecDepth 20000 in
theorem ggX6_share_X6_rightAmong : GoodIn wsX6_share wsX6_rightAmong := goodIn_r _ [21, 22, 23, 24, 1, 25, 26, 27, 28, 29, 30, 31, 32, 33, 34, 35, 36, 37, 38, 39, 7, 40, 41, 42, 43, 44, 45, 46, 47, 48, 49, 50, 51, 52, 53, 54, 55, 56, 57, 16, 17, 58, 59, 60, 61, 62, 63, 64, 65, 66, 67, 68, 13, 14, 69, 70, 71, 72, 73, 74, 75, 76, 77, 78, 79, 80, 81, 82, 83, 84, 85, 86, 87, 88, 89, 90, 91, 92, 93, 94, 95, 96, 97, 98, 99, 100, 101, 102, 103, 104, 105, 106, 107, 108, 109, 110, 111, 112, 127, 128, 129, 130, 131, 132, 133, 134, 135, 136, 137, 138, 139, 153, 154, 155, 156, 157, 158, 159, 160, 161, 140, 141, 142, 143, 144, 145, 146, 147, 148, 149, 150, 151, 152] (by decide +kernel) (by decide +kernel)
set_option maxRecDepth 20000 in
theorem gX6_share_X6_rightAmong : GoodIn wsX6_share (wsV RX6 269 RX6 yX6_rightAmong wsX6_rightAmong) := goodIn_app (goodIn_of _ (by decide +kernel)) ggX6_share_X6_rightAmong
set_option maxRecDepth 20000 in
theorem ggX6_share_J6_bitCount_0f7a4 : GoodIn wsX6_share wsJ6_bitCount_0f7a4 := goodIn_r _ [109, 110, 111, 112] (by decide +kernel) (by decide +kernel)
set_option maxRecDepth 20000 in
theorem gX6_share_J6_bitCount_0f7a4 : GoodIn wsX6_share (va_wsS RX6 230 yJ6_bitCount_0f7a4 wsJ6_bitCount_0f7a4) := goodIn_app (goodIn_of _ (by decide +kernel)) ggX6_share_J6_bitCount_0f7a4
set_option maxRecDepth 20000 in
theorem ggX6_share_X6_ordersWith : GoodIn wsX6_share wsX6_ordersWith := goodIn_r _ [116, 3, 1, 2, 117, 39, 7, 40, 127, 128, 129, 130, 131, 132, 133, 134, 135, 136, 137, 138, 139, 140, 141, 142, 143, 144, 145, 146, 147, 148, 149, 150, 151, 152] (by decide +kernel) (by decide +kernel)
set_option maxRecDepth 20000 in
theorem gX6_share_X6_ordersWith : GoodIn wsX6_share (wsV RX6 272 RX6 yX6_ordersWith wsX6_ordersWith) := goodIn_app (goodIn_of _ (by decide +kernel)) ggX6_share_X6_ordersWith
set_option maxRecDepth 20000 in
theorem ggX6_share_X6_cell : GoodIn wsX6_share wsX6_cell := goodIn_r _ [40] (by decide +kernel) (by decide +kernel)
set_option maxRecDepth 20000 in
theorem gX6_share_X6_cell : GoodIn wsX6_share (va_wsS RX6 105 yX6_cell wsX6_cell) := goodIn_app (goodIn_of _ (by decide +kernel)) ggX6_share_X6_cell
set_option maxRecDepth 20000 in
theorem ggX6_share_X6_fraction : GoodIn wsX6_share wsX6_fraction := goodIn_r _ [120, 121, 122, 89, 123, 124, 125, 7, 126] (by decide +kernel) (by decide +kernel)
set_option maxRecDepth 20000 in
theorem gX6_share_X6_fraction : GoodIn wsX6_share (va_wsS RX6 278 yX6_fraction wsX6_fraction) := goodIn_app (goodIn_of _ (by decide +kernel)) ggX6_share_X6_fraction
theorem dX6_share_0 : decode cX6_share 0 = .ok (.aload_n 0, 1) := by decide +kernel
theorem dX6_share_1 : decode cX6_share 1 = .ok (.iload_n 1, 1) := by decide +kernel
theorem dX6_share_2 : decode cX6_share 2 = .ok (.invokevirtual 149, 3) := by decide +kernel
theorem dX6_share_5 : decode cX6_share 5 = .ok (.ifCond .eq 5, 3) := by decide +kernel
theorem dX6_share_8 : decode cX6_share 8 = .ok (.iconst (-1), 1) := by decide +kernel
theorem dX6_share_9 : decode cX6_share 9 = .ok (.ireturn, 1) := by decide +kernel
theorem dX6_share_10 : decode cX6_share 10 = .ok (.iconst 0, 1) := by decide +kernel
theorem dX6_share_11 : decode cX6_share 11 = .ok (.istore_n 3, 1) := by decide +kernel
theorem dX6_share_12 : decode cX6_share 12 = .ok (.iconst 0, 1) := by decide +kernel
theorem dX6_share_13 : decode cX6_share 13 = .ok (.istore 4, 2) := by decide +kernel
theorem dX6_share_15 : decode cX6_share 15 = .ok (.iload 4, 2) := by decide +kernel
theorem dX6_share_17 : decode cX6_share 17 = .ok (.aload_n 0, 1) := by decide +kernel
theorem dX6_share_18 : decode cX6_share 18 = .ok (.getfield 30, 3) := by decide +kernel
theorem dX6_share_21 : decode cX6_share 21 = .ok (.getfield 95, 3) := by decide +kernel
theorem dX6_share_24 : decode cX6_share 24 = .ok (.invokestatic 227, 3) := by decide +kernel
theorem dX6_share_27 : decode cX6_share 27 = .ok (.if_icmp .gt 56, 3) := by decide +kernel
theorem dX6_share_30 : decode cX6_share 30 = .ok (.iload 4, 2) := by decide +kernel
theorem dX6_share_32 : decode cX6_share 32 = .ok (.iload_n 1, 1) := by decide +kernel
theorem dX6_share_33 : decode cX6_share 33 = .ok (.invokestatic 112, 3) := by decide +kernel
theorem dX6_share_36 : decode cX6_share 36 = .ok (.ifCond .eq 6, 3) := by decide +kernel
theorem dX6_share_39 : decode cX6_share 39 = .ok (.goto 38, 3) := by decide +kernel
theorem dX6_share_42 : decode cX6_share 42 = .ok (.aload_n 0, 1) := by decide +kernel
theorem dX6_share_43 : decode cX6_share 43 = .ok (.iload 4, 2) := by decide +kernel
theorem dX6_share_45 : decode cX6_share 45 = .ok (.iload_n 1, 1) := by decide +kernel
theorem dX6_share_46 : decode cX6_share 46 = .ok (.invokestatic 244, 3) := by decide +kernel
theorem dX6_share_49 : decode cX6_share 49 = .ok (.ior, 1) := by decide +kernel
theorem dX6_share_50 : decode cX6_share 50 = .ok (.invokevirtual 269, 3) := by decide +kernel
theorem dX6_share_53 : decode cX6_share 53 = .ok (.aload_n 0, 1) := by decide +kernel
theorem dX6_share_54 : decode cX6_share 54 = .ok (.iload 4, 2) := by decide +kernel
theorem dX6_share_56 : decode cX6_share 56 = .ok (.invokevirtual 269, 3) := by decide +kernel
theorem dX6_share_59 : decode cX6_share 59 = .ok (.isub, 1) := by decide +kernel

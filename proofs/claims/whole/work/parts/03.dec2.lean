theorem dX6_share_60 : decode cX6_share 60 = .ok (.istore 5, 2) := by decide +kernel
theorem dX6_share_62 : decode cX6_share 62 = .ok (.iload_n 3, 1) := by decide +kernel
theorem dX6_share_63 : decode cX6_share 63 = .ok (.iload 5, 2) := by decide +kernel
theorem dX6_share_65 : decode cX6_share 65 = .ok (.aload_n 0, 1) := by decide +kernel
theorem dX6_share_66 : decode cX6_share 66 = .ok (.iload 4, 2) := by decide +kernel
theorem dX6_share_68 : decode cX6_share 68 = .ok (.invokestatic 230, 3) := by decide +kernel
theorem dX6_share_71 : decode cX6_share 71 = .ok (.invokevirtual 272, 3) := by decide +kernel
theorem dX6_share_74 : decode cX6_share 74 = .ok (.imul, 1) := by decide +kernel
theorem dX6_share_75 : decode cX6_share 75 = .ok (.iadd, 1) := by decide +kernel
theorem dX6_share_76 : decode cX6_share 76 = .ok (.istore_n 3, 1) := by decide +kernel
theorem dX6_share_77 : decode cX6_share 77 = .ok (.iinc 4 1, 3) := by decide +kernel
theorem dX6_share_80 : decode cX6_share 80 = .ok (.goto (-65), 3) := by decide +kernel
theorem dX6_share_83 : decode cX6_share 83 = .ok (.iload_n 3, 1) := by decide +kernel
theorem dX6_share_84 : decode cX6_share 84 = .ok (.getstatic 275, 3) := by decide +kernel
theorem dX6_share_87 : decode cX6_share 87 = .ok (.aload_n 0, 1) := by decide +kernel
theorem dX6_share_88 : decode cX6_share 88 = .ok (.getfield 30, 3) := by decide +kernel
theorem dX6_share_91 : decode cX6_share 91 = .ok (.getfield 95, 3) := by decide +kernel
theorem dX6_share_94 : decode cX6_share 94 = .ok (.invokestatic 105, 3) := by decide +kernel
theorem dX6_share_97 : decode cX6_share 97 = .ok (.iload_n 2, 1) := by decide +kernel
theorem dX6_share_98 : decode cX6_share 98 = .ok (.invokestatic 278, 3) := by decide +kernel
theorem dX6_share_101 : decode cX6_share 101 = .ok (.ireturn, 1) := by decide +kernel
set_option maxRecDepth 20000 in
theorem ggX6_rightAmong_X2_copy : GoodIn wsX6_rightAmong wsX2_copy := goodIn_r _ [9, 10, 11, 12, 13, 14, 15, 16, 17, 18, 19, 20, 21, 22, 23, 111, 112, 113, 114, 115, 116, 117, 118, 119] (by decide +kernel) (by decide +kernel)
set_option maxRecDepth 20000 in
theorem gX6_rightAmong_X2_copy : GoodIn wsX6_rightAmong (wsV RX6 206 RX2 yX2_copy wsX2_copy) := goodIn_app (goodIn_of _ (by decide +kernel)) ggX6_rightAmong_X2_copy
set_option maxRecDepth 20000 in
theorem ggX6_rightAmong_X2_advanceTimes : GoodIn wsX6_rightAmong wsX2_advanceTimes := goodIn_r _ [27, 18, 28, 29, 30, 31, 32, 33, 34, 35, 36, 37, 8, 38, 14, 15, 39, 20, 40, 41, 42, 43, 44, 10, 16, 11, 13, 19, 21, 45, 46, 47, 48, 49, 50, 51, 52, 53, 54, 55, 56, 57, 58, 59, 60, 61, 62, 63, 64, 65, 66, 67, 68, 69, 70, 71, 12, 72, 73, 74, 75, 22, 23, 76, 77, 78, 79, 80, 81, 17, 111, 112, 113, 114, 115, 116, 117, 118, 119, 120, 121, 122, 123, 124, 125, 126, 127, 128, 129, 130, 131, 132] (by decide +kernel) (by decide +kernel)
set_option maxRecDepth 20000 in
theorem gX6_rightAmong_X2_advanceTimes : GoodIn wsX6_rightAmong (wsV RX6 285 RX2 yX2_advanceTimes wsX2_advanceTimes) := goodIn_app (goodIn_of _ (by decide +kernel)) ggX6_rightAmong_X2_advanceTimes
set_option maxRecDepth 20000 in
theorem ggX6_rightAmong_X2_right : GoodIn wsX6_rightAmong wsX2_right := goodIn_r _ [85, 86, 87, 88, 8, 89, 15, 14, 10, 90, 39, 20, 40, 19, 21, 52, 53, 111, 112, 113, 114, 115, 116, 117, 118, 119, 120, 121, 122, 123, 124, 125, 126, 127, 128, 129, 130, 131, 132] (by decide +kernel) (by decide +kernel)
set_option maxRecDepth 20000 in
theorem gX6_rightAmong_X2_right : GoodIn wsX6_rightAmong (wsV RX6 202 RX2 yX2_right wsX2_right) := goodIn_app (goodIn_of _ (by decide +kernel)) ggX6_rightAmong_X2_right
set_option maxRecDepth 20000 in
theorem ggX6_rightAmong_J6_bitCount_0f7a4 : GoodIn wsX6_rightAmong wsJ6_bitCount_0f7a4 := goodIn_r _ [94, 95, 96, 97] (by decide +kernel) (by decide +kernel)
set_option maxRecDepth 20000 in
theorem gX6_rightAmong_J6_bitCount_0f7a4 : GoodIn wsX6_rightAmong (va_wsS RX6 230 yJ6_bitCount_0f7a4 wsJ6_bitCount_0f7a4) := goodIn_app (goodIn_of _ (by decide +kernel)) ggX6_rightAmong_J6_bitCount_0f7a4
theorem dX6_rightAmong_0 : decode cX6_rightAmong 0 = .ok (.aload_n 0, 1) := by decide +kernel
theorem dX6_rightAmong_1 : decode cX6_rightAmong 1 = .ok (.getfield 38, 3) := by decide +kernel
theorem dX6_rightAmong_4 : decode cX6_rightAmong 4 = .ok (.aload_n 0, 1) := by decide +kernel
theorem dX6_rightAmong_5 : decode cX6_rightAmong 5 = .ok (.getfield 34, 3) := by decide +kernel
theorem dX6_rightAmong_8 : decode cX6_rightAmong 8 = .ok (.invokevirtual 206, 3) := by decide +kernel
theorem dX6_rightAmong_11 : decode cX6_rightAmong 11 = .ok (.aload_n 0, 1) := by decide +kernel
theorem dX6_rightAmong_12 : decode cX6_rightAmong 12 = .ok (.getfield 38, 3) := by decide +kernel
theorem dX6_rightAmong_15 : decode cX6_rightAmong 15 = .ok (.iload_n 1, 1) := by decide +kernel
theorem dX6_rightAmong_16 : decode cX6_rightAmong 16 = .ok (.putfield 282, 3) := by decide +kernel
theorem dX6_rightAmong_19 : decode cX6_rightAmong 19 = .ok (.aload_n 0, 1) := by decide +kernel
theorem dX6_rightAmong_20 : decode cX6_rightAmong 20 = .ok (.getfield 38, 3) := by decide +kernel
theorem dX6_rightAmong_23 : decode cX6_rightAmong 23 = .ok (.bipush 20, 2) := by decide +kernel
theorem dX6_rightAmong_25 : decode cX6_rightAmong 25 = .ok (.aload_n 0, 1) := by decide +kernel
theorem dX6_rightAmong_26 : decode cX6_rightAmong 26 = .ok (.getfield 30, 3) := by decide +kernel
theorem dX6_rightAmong_29 : decode cX6_rightAmong 29 = .ok (.invokevirtual 285, 3) := by decide +kernel
theorem dX6_rightAmong_32 : decode cX6_rightAmong 32 = .ok (.aload_n 0, 1) := by decide +kernel
theorem dX6_rightAmong_33 : decode cX6_rightAmong 33 = .ok (.getfield 38, 3) := by decide +kernel
theorem dX6_rightAmong_36 : decode cX6_rightAmong 36 = .ok (.aload_n 0, 1) := by decide +kernel
theorem dX6_rightAmong_37 : decode cX6_rightAmong 37 = .ok (.getfield 30, 3) := by decide +kernel
theorem dX6_rightAmong_40 : decode cX6_rightAmong 40 = .ok (.invokevirtual 202, 3) := by decide +kernel
theorem dX6_rightAmong_43 : decode cX6_rightAmong 43 = .ok (.invokestatic 230, 3) := by decide +kernel
theorem dX6_rightAmong_46 : decode cX6_rightAmong 46 = .ok (.ireturn, 1) := by decide +kernel
set_option maxRecDepth 20000 in
theorem ggX6_ordersWith_X6_cell : GoodIn wsX6_ordersWith wsX6_cell := goodIn_r _ [7] (by decide +kernel) (by decide +kernel)
set_option maxRecDepth 20000 in
theorem gX6_ordersWith_X6_cell : GoodIn wsX6_ordersWith (va_wsS RX6 105 yX6_cell wsX6_cell) := goodIn_app (goodIn_of _ (by decide +kernel)) ggX6_ordersWith_X6_cell
theorem dX6_ordersWith_0 : decode cX6_ordersWith 0 = .ok (.getstatic 275, 3) := by decide +kernel
theorem dX6_ordersWith_3 : decode cX6_ordersWith 3 = .ok (.iload_n 1, 1) := by decide +kernel
theorem dX6_ordersWith_4 : decode cX6_ordersWith 4 = .ok (.invokestatic 105, 3) := by decide +kernel
theorem dX6_ordersWith_7 : decode cX6_ordersWith 7 = .ok (.getstatic 275, 3) := by decide +kernel
theorem dX6_ordersWith_10 : decode cX6_ordersWith 10 = .ok (.aload_n 0, 1) := by decide +kernel
theorem dX6_ordersWith_11 : decode cX6_ordersWith 11 = .ok (.getfield 30, 3) := by decide +kernel
theorem dX6_ordersWith_14 : decode cX6_ordersWith 14 = .ok (.getfield 95, 3) := by decide +kernel
theorem dX6_ordersWith_17 : decode cX6_ordersWith 17 = .ok (.iload_n 1, 1) := by decide +kernel
theorem dX6_ordersWith_18 : decode cX6_ordersWith 18 = .ok (.isub, 1) := by decide +kernel
theorem dX6_ordersWith_19 : decode cX6_ordersWith 19 = .ok (.iconst 1, 1) := by decide +kernel
theorem dX6_ordersWith_20 : decode cX6_ordersWith 20 = .ok (.isub, 1) := by decide +kernel
theorem dX6_ordersWith_21 : decode cX6_ordersWith 21 = .ok (.invokestatic 105, 3) := by decide +kernel
theorem dX6_ordersWith_24 : decode cX6_ordersWith 24 = .ok (.imul, 1) := by decide +kernel
theorem dX6_ordersWith_25 : decode cX6_ordersWith 25 = .ok (.ireturn, 1) := by decide +kernel
set_option maxRecDepth 20000 in
theorem ggX6_rests_X6_isNoWalker : GoodIn wsX6_rests wsX6_isNoWalker := goodIn_r _ [8, 2, 9, 111, 112, 113, 114, 115, 116, 117, 118, 119, 120, 121, 122, 123, 124, 125, 126, 127, 128, 129, 130, 131, 132, 133, 134, 135, 136] (by decide +kernel) (by decide +kernel)
set_option maxRecDepth 20000 in
theorem gX6_rests_X6_isNoWalker : GoodIn wsX6_rests (wsV RX6 149 RX6 yX6_isNoWalker wsX6_isNoWalker) := goodIn_app (goodIn_of _ (by decide +kernel)) ggX6_rests_X6_isNoWalker
set_option maxRecDepth 20000 in
theorem ggX6_rests_X6_isNoChoice : GoodIn wsX6_rests wsX6_isNoChoice := goodIn_r _ [12] (by decide +kernel) (by decide +kernel)
set_option maxRecDepth 20000 in
theorem gX6_rests_X6_isNoChoice : GoodIn wsX6_rests (va_wsS RX6 196 yX6_isNoChoice wsX6_isNoChoice) := goodIn_app (goodIn_of _ (by decide +kernel)) ggX6_rests_X6_isNoChoice
set_option maxRecDepth 20000 in
theorem ggX6_rests_X6_tryFromNow : GoodIn wsX6_rests wsX6_tryFromNow := goodIn_r _ [16, 1, 17, 2, 18, 19, 20, 21, 22, 23, 24, 25, 26, 27, 28, 29, 30, 31, 32, 7, 33, 34, 35, 36, 37, 38, 39, 40, 41, 42, 43, 44, 45, 46, 47, 48, 49, 50, 51, 52, 53, 54, 55, 56, 57, 58, 59, 60, 61, 62, 63, 64, 65, 66, 67, 68, 69, 70, 71, 72, 73, 74, 75, 76, 77, 78, 79, 80, 81, 82, 83, 84, 85, 86, 87, 88, 89, 90, 91, 92, 93, 111, 112, 113, 114, 115, 116, 117, 118, 119, 120, 121, 122, 123, 137, 138, 139, 140, 141, 142, 143, 144, 145, 124, 125, 126, 127, 128, 129, 130, 131, 132, 133, 134, 135, 136] (by decide +kernel) (by decide +kernel)
set_option maxRecDepth 20000 in
theorem gX6_rests_X6_tryFromNow : GoodIn wsX6_rests (wsV RX6 199 RX6 yX6_tryFromNow wsX6_tryFromNow) := goodIn_app (goodIn_of _ (by decide +kernel)) ggX6_rests_X6_tryFromNow
set_option maxRecDepth 20000 in
theorem ggX6_rests_X2_outAt : GoodIn wsX6_rests wsX2_outAt := goodIn_r _ [97, 28, 23, 51, 7, 52, 32, 33, 137, 138, 139, 140, 141, 142, 143, 144, 145] (by decide +kernel) (by decide +kernel)
set_option maxRecDepth 20000 in
theorem gX6_rests_X2_outAt : GoodIn wsX6_rests (wsV RX6 213 RX2 yX2_outAt wsX2_outAt) := goodIn_app (goodIn_of _ (by decide +kernel)) ggX6_rests_X2_outAt
set_option maxRecDepth 20000 in
theorem ggX6_rests_X6_isAtRest : GoodIn wsX6_rests wsX6_isAtRest := goodIn_r _ [101, 2, 102, 103, 51, 7, 52, 104, 105, 106, 107, 3, 108, 109, 110, 111, 112, 113, 114, 115, 116, 117, 118, 119, 120, 121, 122, 123, 124, 125, 126, 127, 128, 129, 130, 131, 132, 133, 134, 135, 136] (by decide +kernel) (by decide +kernel)
set_option maxRecDepth 20000 in
theorem gX6_rests_X6_isAtRest : GoodIn wsX6_rests (wsV RX6 289 RX6 yX6_isAtRest wsX6_isAtRest) := goodIn_app (goodIn_of _ (by decide +kernel)) ggX6_rests_X6_isAtRest
theorem dX6_rests_0 : decode cX6_rests 0 = .ok (.aload_n 0, 1) := by decide +kernel
theorem dX6_rests_1 : decode cX6_rests 1 = .ok (.iload_n 1, 1) := by decide +kernel
theorem dX6_rests_2 : decode cX6_rests 2 = .ok (.invokevirtual 149, 3) := by decide +kernel
theorem dX6_rests_5 : decode cX6_rests 5 = .ok (.ifCond .ne 11, 3) := by decide +kernel
theorem dX6_rests_8 : decode cX6_rests 8 = .ok (.aload_n 0, 1) := by decide +kernel
theorem dX6_rests_9 : decode cX6_rests 9 = .ok (.iload_n 2, 1) := by decide +kernel
theorem dX6_rests_10 : decode cX6_rests 10 = .ok (.invokevirtual 149, 3) := by decide +kernel
theorem dX6_rests_13 : decode cX6_rests 13 = .ok (.ifCond .eq 5, 3) := by decide +kernel
theorem dX6_rests_16 : decode cX6_rests 16 = .ok (.iconst (-1), 1) := by decide +kernel
theorem dX6_rests_17 : decode cX6_rests 17 = .ok (.ireturn, 1) := by decide +kernel
theorem dX6_rests_18 : decode cX6_rests 18 = .ok (.iload_n 1, 1) := by decide +kernel
theorem dX6_rests_19 : decode cX6_rests 19 = .ok (.iload_n 2, 1) := by decide +kernel
theorem dX6_rests_20 : decode cX6_rests 20 = .ok (.if_icmp .eq 10, 3) := by decide +kernel
theorem dX6_rests_23 : decode cX6_rests 23 = .ok (.iload_n 3, 1) := by decide +kernel
theorem dX6_rests_24 : decode cX6_rests 24 = .ok (.invokestatic 196, 3) := by decide +kernel
theorem dX6_rests_27 : decode cX6_rests 27 = .ok (.ifCond .eq 6, 3) := by decide +kernel
theorem dX6_rests_30 : decode cX6_rests 30 = .ok (.bipush (-2), 2) := by decide +kernel
theorem dX6_rests_32 : decode cX6_rests 32 = .ok (.ireturn, 1) := by decide +kernel
theorem dX6_rests_33 : decode cX6_rests 33 = .ok (.aload_n 0, 1) := by decide +kernel
theorem dX6_rests_34 : decode cX6_rests 34 = .ok (.bipush 40, 2) := by decide +kernel
theorem dX6_rests_36 : decode cX6_rests 36 = .ok (.invokevirtual 199, 3) := by decide +kernel
theorem dX6_rests_39 : decode cX6_rests 39 = .ok (.aload_n 0, 1) := by decide +kernel
theorem dX6_rests_40 : decode cX6_rests 40 = .ok (.getfield 38, 3) := by decide +kernel
theorem dX6_rests_43 : decode cX6_rests 43 = .ok (.iload_n 1, 1) := by decide +kernel
theorem dX6_rests_44 : decode cX6_rests 44 = .ok (.invokevirtual 213, 3) := by decide +kernel
theorem dX6_rests_47 : decode cX6_rests 47 = .ok (.istore 4, 2) := by decide +kernel
theorem dX6_rests_49 : decode cX6_rests 49 = .ok (.aload_n 0, 1) := by decide +kernel
theorem dX6_rests_50 : decode cX6_rests 50 = .ok (.getfield 38, 3) := by decide +kernel
theorem dX6_rests_53 : decode cX6_rests 53 = .ok (.iload_n 2, 1) := by decide +kernel
theorem dX6_rests_54 : decode cX6_rests 54 = .ok (.invokevirtual 213, 3) := by decide +kernel
theorem dX6_rests_57 : decode cX6_rests 57 = .ok (.istore 5, 2) := by decide +kernel
theorem dX6_rests_59 : decode cX6_rests 59 = .ok (.iconst 0, 1) := by decide +kernel
theorem dX6_rests_60 : decode cX6_rests 60 = .ok (.istore 6, 2) := by decide +kernel
theorem dX6_rests_62 : decode cX6_rests 62 = .ok (.bipush (-9), 2) := by decide +kernel
theorem dX6_rests_64 : decode cX6_rests 64 = .ok (.istore 7, 2) := by decide +kernel
theorem dX6_rests_66 : decode cX6_rests 66 = .ok (.iconst 0, 1) := by decide +kernel
theorem dX6_rests_67 : decode cX6_rests 67 = .ok (.istore 8, 2) := by decide +kernel
theorem dX6_rests_69 : decode cX6_rests 69 = .ok (.iload 8, 2) := by decide +kernel
theorem dX6_rests_71 : decode cX6_rests 71 = .ok (.aload_n 0, 1) := by decide +kernel
theorem dX6_rests_72 : decode cX6_rests 72 = .ok (.getfield 30, 3) := by decide +kernel
theorem dX6_rests_75 : decode cX6_rests 75 = .ok (.getfield 87, 3) := by decide +kernel
theorem dX6_rests_78 : decode cX6_rests 78 = .ok (.if_icmp .ge 66, 3) := by decide +kernel
theorem dX6_rests_81 : decode cX6_rests 81 = .ok (.iconst 0, 1) := by decide +kernel
theorem dX6_rests_82 : decode cX6_rests 82 = .ok (.istore 9, 2) := by decide +kernel
theorem dX6_rests_84 : decode cX6_rests 84 = .ok (.iload 9, 2) := by decide +kernel
theorem dX6_rests_86 : decode cX6_rests 86 = .ok (.aload_n 0, 1) := by decide +kernel
theorem dX6_rests_87 : decode cX6_rests 87 = .ok (.getfield 30, 3) := by decide +kernel
theorem dX6_rests_90 : decode cX6_rests 90 = .ok (.getfield 87, 3) := by decide +kernel
theorem dX6_rests_93 : decode cX6_rests 93 = .ok (.if_icmp .ge 45, 3) := by decide +kernel
theorem dX6_rests_96 : decode cX6_rests 96 = .ok (.aload_n 0, 1) := by decide +kernel
theorem dX6_rests_97 : decode cX6_rests 97 = .ok (.iload 8, 2) := by decide +kernel
theorem dX6_rests_99 : decode cX6_rests 99 = .ok (.iload 9, 2) := by decide +kernel
theorem dX6_rests_101 : decode cX6_rests 101 = .ok (.iload 4, 2) := by decide +kernel
theorem dX6_rests_103 : decode cX6_rests 103 = .ok (.iload 5, 2) := by decide +kernel
theorem dX6_rests_105 : decode cX6_rests 105 = .ok (.invokevirtual 289, 3) := by decide +kernel
theorem dX6_rests_108 : decode cX6_rests 108 = .ok (.ifCond .ne 6, 3) := by decide +kernel
theorem dX6_rests_111 : decode cX6_rests 111 = .ok (.goto 21, 3) := by decide +kernel
theorem dX6_rests_114 : decode cX6_rests 114 = .ok (.iload 6, 2) := by decide +kernel
theorem dX6_rests_116 : decode cX6_rests 116 = .ok (.ifCond .ne 13, 3) := by decide +kernel
theorem dX6_rests_119 : decode cX6_rests 119 = .ok (.bipush 10, 2) := by decide +kernel
theorem dX6_rests_121 : decode cX6_rests 121 = .ok (.iload 8, 2) := by decide +kernel
theorem dX6_rests_123 : decode cX6_rests 123 = .ok (.imul, 1) := by decide +kernel
theorem dX6_rests_124 : decode cX6_rests 124 = .ok (.iload 9, 2) := by decide +kernel
theorem dX6_rests_126 : decode cX6_rests 126 = .ok (.iadd, 1) := by decide +kernel
theorem dX6_rests_127 : decode cX6_rests 127 = .ok (.istore 7, 2) := by decide +kernel
theorem dX6_rests_129 : decode cX6_rests 129 = .ok (.iinc 6 1, 3) := by decide +kernel
theorem dX6_rests_132 : decode cX6_rests 132 = .ok (.iinc 9 1, 3) := by decide +kernel
theorem dX6_rests_135 : decode cX6_rests 135 = .ok (.goto (-51), 3) := by decide +kernel
theorem dX6_rests_138 : decode cX6_rests 138 = .ok (.iinc 8 1, 3) := by decide +kernel
theorem dX6_rests_141 : decode cX6_rests 141 = .ok (.goto (-72), 3) := by decide +kernel
theorem dX6_rests_144 : decode cX6_rests 144 = .ok (.iload_n 3, 1) := by decide +kernel
theorem dX6_rests_145 : decode cX6_rests 145 = .ok (.ifCond .ne 8, 3) := by decide +kernel
theorem dX6_rests_148 : decode cX6_rests 148 = .ok (.iload 6, 2) := by decide +kernel
theorem dX6_rests_150 : decode cX6_rests 150 = .ok (.goto 5, 3) := by decide +kernel
theorem dX6_rests_153 : decode cX6_rests 153 = .ok (.iload 7, 2) := by decide +kernel
theorem dX6_rests_155 : decode cX6_rests 155 = .ok (.ireturn, 1) := by decide +kernel
set_option maxRecDepth 20000 in
theorem ggX6_isAtRest_X6_has : GoodIn wsX6_isAtRest wsX6_has := goodIn_r _ [6] (by decide +kernel) (by decide +kernel)
set_option maxRecDepth 20000 in
theorem gX6_isAtRest_X6_has : GoodIn wsX6_isAtRest (va_wsS RX6 112 yX6_has wsX6_has) := goodIn_app (goodIn_of _ (by decide +kernel)) ggX6_isAtRest_X6_has
set_option maxRecDepth 20000 in
theorem ggX6_isAtRest_X6_isBest : GoodIn wsX6_isAtRest wsX6_isBest := goodIn_r _ [10, 1, 11, 2, 12, 13, 5, 14, 3, 4, 6, 15, 16, 17, 18, 19, 20, 21, 22, 23, 24, 25, 26, 27, 28, 29, 30, 31, 32, 33, 34, 35, 36, 37, 38, 39, 40] (by decide +kernel) (by decide +kernel)
set_option maxRecDepth 20000 in
theorem gX6_isAtRest_X6_isBest : GoodIn wsX6_isAtRest (wsV RX6 292 RX6 yX6_isBest wsX6_isBest) := goodIn_app (goodIn_of _ (by decide +kernel)) ggX6_isAtRest_X6_isBest
theorem dX6_isAtRest_0 : decode cX6_isAtRest 0 = .ok (.aload_n 0, 1) := by decide +kernel
theorem dX6_isAtRest_1 : decode cX6_isAtRest 1 = .ok (.getfield 30, 3) := by decide +kernel
theorem dX6_isAtRest_4 : decode cX6_isAtRest 4 = .ok (.getfield 109, 3) := by decide +kernel
theorem dX6_isAtRest_7 : decode cX6_isAtRest 7 = .ok (.iload_n 1, 1) := by decide +kernel
theorem dX6_isAtRest_8 : decode cX6_isAtRest 8 = .ok (.invokestatic 112, 3) := by decide +kernel
theorem dX6_isAtRest_11 : decode cX6_isAtRest 11 = .ok (.ifCond .eq 45, 3) := by decide +kernel
theorem dX6_isAtRest_14 : decode cX6_isAtRest 14 = .ok (.aload_n 0, 1) := by decide +kernel
theorem dX6_isAtRest_15 : decode cX6_isAtRest 15 = .ok (.getfield 30, 3) := by decide +kernel
theorem dX6_isAtRest_18 : decode cX6_isAtRest 18 = .ok (.getfield 109, 3) := by decide +kernel
theorem dX6_isAtRest_21 : decode cX6_isAtRest 21 = .ok (.iload_n 2, 1) := by decide +kernel
theorem dX6_isAtRest_22 : decode cX6_isAtRest 22 = .ok (.invokestatic 112, 3) := by decide +kernel
theorem dX6_isAtRest_25 : decode cX6_isAtRest 25 = .ok (.ifCond .eq 31, 3) := by decide +kernel
theorem dX6_isAtRest_28 : decode cX6_isAtRest 28 = .ok (.aload_n 0, 1) := by decide +kernel
theorem dX6_isAtRest_29 : decode cX6_isAtRest 29 = .ok (.iload_n 1, 1) := by decide +kernel
theorem dX6_isAtRest_30 : decode cX6_isAtRest 30 = .ok (.iload_n 2, 1) := by decide +kernel
theorem dX6_isAtRest_31 : decode cX6_isAtRest 31 = .ok (.iload_n 3, 1) := by decide +kernel
theorem dX6_isAtRest_32 : decode cX6_isAtRest 32 = .ok (.iload 4, 2) := by decide +kernel
theorem dX6_isAtRest_34 : decode cX6_isAtRest 34 = .ok (.invokevirtual 292, 3) := by decide +kernel
theorem dX6_isAtRest_37 : decode cX6_isAtRest 37 = .ok (.ifCond .eq 19, 3) := by decide +kernel
theorem dX6_isAtRest_40 : decode cX6_isAtRest 40 = .ok (.aload_n 0, 1) := by decide +kernel
theorem dX6_isAtRest_41 : decode cX6_isAtRest 41 = .ok (.iload_n 2, 1) := by decide +kernel
theorem dX6_isAtRest_42 : decode cX6_isAtRest 42 = .ok (.iload_n 1, 1) := by decide +kernel
theorem dX6_isAtRest_43 : decode cX6_isAtRest 43 = .ok (.iload 4, 2) := by decide +kernel
theorem dX6_isAtRest_45 : decode cX6_isAtRest 45 = .ok (.iload_n 3, 1) := by decide +kernel
theorem dX6_isAtRest_46 : decode cX6_isAtRest 46 = .ok (.invokevirtual 292, 3) := by decide +kernel
theorem dX6_isAtRest_49 : decode cX6_isAtRest 49 = .ok (.ifCond .eq 7, 3) := by decide +kernel
theorem dX6_isAtRest_52 : decode cX6_isAtRest 52 = .ok (.iconst 1, 1) := by decide +kernel
theorem dX6_isAtRest_53 : decode cX6_isAtRest 53 = .ok (.goto 4, 3) := by decide +kernel
theorem dX6_isAtRest_56 : decode cX6_isAtRest 56 = .ok (.iconst 0, 1) := by decide +kernel
theorem dX6_isAtRest_57 : decode cX6_isAtRest 57 = .ok (.ireturn, 1) := by decide +kernel
set_option maxRecDepth 20000 in
theorem ggX6_isBest_X6_gain : GoodIn wsX6_isBest wsX6_gain := goodIn_r _ [7] (by decide +kernel) (by decide +kernel)
set_option maxRecDepth 20000 in
theorem gX6_isBest_X6_gain : GoodIn wsX6_isBest (va_wsS RX6 295 yX6_gain wsX6_gain) := goodIn_app (goodIn_of _ (by decide +kernel)) ggX6_isBest_X6_gain
set_option maxRecDepth 20000 in
theorem ggX6_isBest_X6_has : GoodIn wsX6_isBest wsX6_has := goodIn_r _ [10] (by decide +kernel) (by decide +kernel)
set_option maxRecDepth 20000 in
theorem gX6_isBest_X6_has : GoodIn wsX6_isBest (va_wsS RX6 112 yX6_has wsX6_has) := goodIn_app (goodIn_of _ (by decide +kernel)) ggX6_isBest_X6_has
theorem dX6_isBest_0 : decode cX6_isBest 0 = .ok (.iload_n 1, 1) := by decide +kernel
theorem dX6_isBest_1 : decode cX6_isBest 1 = .ok (.iload_n 2, 1) := by decide +kernel
theorem dX6_isBest_2 : decode cX6_isBest 2 = .ok (.iload_n 3, 1) := by decide +kernel
theorem dX6_isBest_3 : decode cX6_isBest 3 = .ok (.iload 4, 2) := by decide +kernel
theorem dX6_isBest_5 : decode cX6_isBest 5 = .ok (.invokestatic 295, 3) := by decide +kernel
theorem dX6_isBest_8 : decode cX6_isBest 8 = .ok (.istore 5, 2) := by decide +kernel
theorem dX6_isBest_10 : decode cX6_isBest 10 = .ok (.iconst 0, 1) := by decide +kernel
theorem dX6_isBest_11 : decode cX6_isBest 11 = .ok (.istore 6, 2) := by decide +kernel
theorem dX6_isBest_13 : decode cX6_isBest 13 = .ok (.iload 6, 2) := by decide +kernel
theorem dX6_isBest_15 : decode cX6_isBest 15 = .ok (.aload_n 0, 1) := by decide +kernel
theorem dX6_isBest_16 : decode cX6_isBest 16 = .ok (.getfield 30, 3) := by decide +kernel
theorem dX6_isBest_19 : decode cX6_isBest 19 = .ok (.getfield 87, 3) := by decide +kernel
theorem dX6_isBest_22 : decode cX6_isBest 22 = .ok (.if_icmp .ge 40, 3) := by decide +kernel
theorem dX6_isBest_25 : decode cX6_isBest 25 = .ok (.aload_n 0, 1) := by decide +kernel
theorem dX6_isBest_26 : decode cX6_isBest 26 = .ok (.getfield 30, 3) := by decide +kernel
theorem dX6_isBest_29 : decode cX6_isBest 29 = .ok (.getfield 109, 3) := by decide +kernel
theorem dX6_isBest_32 : decode cX6_isBest 32 = .ok (.iload 6, 2) := by decide +kernel
theorem dX6_isBest_34 : decode cX6_isBest 34 = .ok (.invokestatic 112, 3) := by decide +kernel
theorem dX6_isBest_37 : decode cX6_isBest 37 = .ok (.ifCond .eq 19, 3) := by decide +kernel
theorem dX6_isBest_40 : decode cX6_isBest 40 = .ok (.iload 6, 2) := by decide +kernel
theorem dX6_isBest_42 : decode cX6_isBest 42 = .ok (.iload_n 2, 1) := by decide +kernel
theorem dX6_isBest_43 : decode cX6_isBest 43 = .ok (.iload_n 3, 1) := by decide +kernel
theorem dX6_isBest_44 : decode cX6_isBest 44 = .ok (.iload 4, 2) := by decide +kernel
theorem dX6_isBest_46 : decode cX6_isBest 46 = .ok (.invokestatic 295, 3) := by decide +kernel
theorem dX6_isBest_49 : decode cX6_isBest 49 = .ok (.iload 5, 2) := by decide +kernel
theorem dX6_isBest_51 : decode cX6_isBest 51 = .ok (.if_icmp .le 5, 3) := by decide +kernel
theorem dX6_isBest_54 : decode cX6_isBest 54 = .ok (.iconst 0, 1) := by decide +kernel
theorem dX6_isBest_55 : decode cX6_isBest 55 = .ok (.ireturn, 1) := by decide +kernel
theorem dX6_isBest_56 : decode cX6_isBest 56 = .ok (.iinc 6 1, 3) := by decide +kernel
theorem dX6_isBest_59 : decode cX6_isBest 59 = .ok (.goto (-46), 3) := by decide +kernel
theorem dX6_isBest_62 : decode cX6_isBest 62 = .ok (.iconst 1, 1) := by decide +kernel
theorem dX6_isBest_63 : decode cX6_isBest 63 = .ok (.ireturn, 1) := by decide +kernel
theorem dX6_gain_0 : decode cX6_gain 0 = .ok (.iload_n 0, 1) := by decide +kernel
theorem dX6_gain_1 : decode cX6_gain 1 = .ok (.iload_n 2, 1) := by decide +kernel
theorem dX6_gain_2 : decode cX6_gain 2 = .ok (.if_icmp .ne 7, 3) := by decide +kernel
theorem dX6_gain_5 : decode cX6_gain 5 = .ok (.iconst 3, 1) := by decide +kernel
theorem dX6_gain_6 : decode cX6_gain 6 = .ok (.goto 4, 3) := by decide +kernel
theorem dX6_gain_9 : decode cX6_gain 9 = .ok (.iconst 0, 1) := by decide +kernel
theorem dX6_gain_10 : decode cX6_gain 10 = .ok (.iload_n 0, 1) := by decide +kernel
theorem dX6_gain_11 : decode cX6_gain 11 = .ok (.iload_n 3, 1) := by decide +kernel
theorem dX6_gain_12 : decode cX6_gain 12 = .ok (.if_icmp .ne 7, 3) := by decide +kernel
theorem dX6_gain_15 : decode cX6_gain 15 = .ok (.iconst 2, 1) := by decide +kernel
theorem dX6_gain_16 : decode cX6_gain 16 = .ok (.goto 4, 3) := by decide +kernel
theorem dX6_gain_19 : decode cX6_gain 19 = .ok (.iconst 0, 1) := by decide +kernel
theorem dX6_gain_20 : decode cX6_gain 20 = .ok (.iadd, 1) := by decide +kernel
theorem dX6_gain_21 : decode cX6_gain 21 = .ok (.iload_n 0, 1) := by decide +kernel
theorem dX6_gain_22 : decode cX6_gain 22 = .ok (.iload_n 1, 1) := by decide +kernel
theorem dX6_gain_23 : decode cX6_gain 23 = .ok (.if_icmp .ne 7, 3) := by decide +kernel
theorem dX6_gain_26 : decode cX6_gain 26 = .ok (.iconst 1, 1) := by decide +kernel
theorem dX6_gain_27 : decode cX6_gain 27 = .ok (.goto 4, 3) := by decide +kernel
theorem dX6_gain_30 : decode cX6_gain 30 = .ok (.iconst 0, 1) := by decide +kernel
theorem dX6_gain_31 : decode cX6_gain 31 = .ok (.isub, 1) := by decide +kernel
theorem dX6_gain_32 : decode cX6_gain 32 = .ok (.ireturn, 1) := by decide +kernel
set_option maxRecDepth 20000 in
theorem ggX6_flood_X6_isNoWalker : GoodIn wsX6_flood wsX6_isNoWalker := goodIn_r _ [5, 6, 7, 96, 97, 98, 99, 100, 101, 102, 103, 104, 105, 106, 107, 108, 109, 110, 111, 112, 113, 114, 115, 116, 117, 118, 119, 120, 121] (by decide +kernel) (by decide +kernel)
set_option maxRecDepth 20000 in
theorem gX6_flood_X6_isNoWalker : GoodIn wsX6_flood (wsV RX6 149 RX6 yX6_isNoWalker wsX6_isNoWalker) := goodIn_app (goodIn_of _ (by decide +kernel)) ggX6_flood_X6_isNoWalker
set_option maxRecDepth 20000 in
theorem ggX6_flood_X6_weightOf : GoodIn wsX6_flood wsX6_weightOf := goodIn_r _ [10, 11, 12, 4, 13] (by decide +kernel) (by decide +kernel)
set_option maxRecDepth 20000 in
theorem gX6_flood_X6_weightOf : GoodIn wsX6_flood (va_wsS RX6 299 yX6_weightOf wsX6_weightOf) := goodIn_app (goodIn_of _ (by decide +kernel)) ggX6_flood_X6_weightOf
set_option maxRecDepth 20000 in
theorem ggX6_flood_X6_isOutByTides : GoodIn wsX6_flood wsX6_isOutByTides := goodIn_r _ [17, 18, 19, 6, 20, 21, 22, 23, 24, 25, 26, 27, 28, 29, 30, 31, 32, 33, 34, 35, 36, 37, 4, 38, 39, 40, 11, 12, 13, 41, 42, 43, 44, 45, 46, 47, 48, 49, 50, 51, 52, 53, 54, 55, 56, 57, 58, 59, 60, 61, 62, 63, 64, 65, 66, 67, 68, 69, 70, 71, 72, 73, 74, 75, 76, 77, 78, 79, 80, 81, 82, 83, 84, 85, 86, 96, 97, 98, 99, 100, 101, 102, 103, 104, 105, 106, 107, 108, 109, 110, 111, 112, 113, 114, 115, 116, 117, 118, 119, 120, 121, 122, 123, 124, 125, 126, 127, 128, 129, 130] (by decide +kernel) (by decide +kernel)
set_option maxRecDepth 20000 in
theorem gX6_flood_X6_isOutByTides : GoodIn wsX6_flood (wsV RX6 302 RX6 yX6_isOutByTides wsX6_isOutByTides) := goodIn_app (goodIn_of _ (by decide +kernel)) ggX6_flood_X6_isOutByTides
set_option maxRecDepth 20000 in
theorem ggX6_flood_X6_fraction : GoodIn wsX6_flood wsX6_fraction := goodIn_r _ [89, 90, 91, 79, 92, 93, 94, 4, 95] (by decide +kernel) (by decide +kernel)
set_option maxRecDepth 20000 in
theorem gX6_flood_X6_fraction : GoodIn wsX6_flood (va_wsS RX6 278 yX6_fraction wsX6_fraction) := goodIn_app (goodIn_of _ (by decide +kernel)) ggX6_flood_X6_fraction
theorem dX6_flood_0 : decode cX6_flood 0 = .ok (.aload_n 0, 1) := by decide +kernel
theorem dX6_flood_1 : decode cX6_flood 1 = .ok (.iload_n 1, 1) := by decide +kernel
theorem dX6_flood_2 : decode cX6_flood 2 = .ok (.invokevirtual 149, 3) := by decide +kernel
theorem dX6_flood_5 : decode cX6_flood 5 = .ok (.ifCond .eq 5, 3) := by decide +kernel
theorem dX6_flood_8 : decode cX6_flood 8 = .ok (.iconst (-1), 1) := by decide +kernel
theorem dX6_flood_9 : decode cX6_flood 9 = .ok (.ireturn, 1) := by decide +kernel
theorem dX6_flood_10 : decode cX6_flood 10 = .ok (.iload_n 2, 1) := by decide +kernel
theorem dX6_flood_11 : decode cX6_flood 11 = .ok (.iconst 1, 1) := by decide +kernel
theorem dX6_flood_12 : decode cX6_flood 12 = .ok (.if_icmp .lt 19, 3) := by decide +kernel
theorem dX6_flood_15 : decode cX6_flood 15 = .ok (.iload_n 2, 1) := by decide +kernel
theorem dX6_flood_16 : decode cX6_flood 16 = .ok (.bipush 6, 2) := by decide +kernel
theorem dX6_flood_18 : decode cX6_flood 18 = .ok (.if_icmp .gt 13, 3) := by decide +kernel
theorem dX6_flood_21 : decode cX6_flood 21 = .ok (.iload_n 3, 1) := by decide +kernel
theorem dX6_flood_22 : decode cX6_flood 22 = .ok (.ifCond .lt 9, 3) := by decide +kernel
theorem dX6_flood_25 : decode cX6_flood 25 = .ok (.iload_n 3, 1) := by decide +kernel
theorem dX6_flood_26 : decode cX6_flood 26 = .ok (.bipush 10, 2) := by decide +kernel
theorem dX6_flood_28 : decode cX6_flood 28 = .ok (.if_icmp .le 6, 3) := by decide +kernel
theorem dX6_flood_31 : decode cX6_flood 31 = .ok (.bipush (-2), 2) := by decide +kernel
theorem dX6_flood_33 : decode cX6_flood 33 = .ok (.ireturn, 1) := by decide +kernel
theorem dX6_flood_34 : decode cX6_flood 34 = .ok (.iconst 0, 1) := by decide +kernel
theorem dX6_flood_35 : decode cX6_flood 35 = .ok (.istore 5, 2) := by decide +kernel
theorem dX6_flood_37 : decode cX6_flood 37 = .ok (.iconst 1, 1) := by decide +kernel
theorem dX6_flood_38 : decode cX6_flood 38 = .ok (.istore 6, 2) := by decide +kernel
theorem dX6_flood_40 : decode cX6_flood 40 = .ok (.iconst 0, 1) := by decide +kernel
theorem dX6_flood_41 : decode cX6_flood 41 = .ok (.istore 7, 2) := by decide +kernel
theorem dX6_flood_43 : decode cX6_flood 43 = .ok (.iload 7, 2) := by decide +kernel
theorem dX6_flood_45 : decode cX6_flood 45 = .ok (.iload_n 2, 1) := by decide +kernel
theorem dX6_flood_46 : decode cX6_flood 46 = .ok (.if_icmp .ge 16, 3) := by decide +kernel
theorem dX6_flood_49 : decode cX6_flood 49 = .ok (.iload 6, 2) := by decide +kernel
theorem dX6_flood_51 : decode cX6_flood 51 = .ok (.bipush 10, 2) := by decide +kernel
theorem dX6_flood_53 : decode cX6_flood 53 = .ok (.imul, 1) := by decide +kernel
theorem dX6_flood_54 : decode cX6_flood 54 = .ok (.istore 6, 2) := by decide +kernel
theorem dX6_flood_56 : decode cX6_flood 56 = .ok (.iinc 7 1, 3) := by decide +kernel
theorem dX6_flood_59 : decode cX6_flood 59 = .ok (.goto (-16), 3) := by decide +kernel
theorem dX6_flood_62 : decode cX6_flood 62 = .ok (.iconst 0, 1) := by decide +kernel
theorem dX6_flood_63 : decode cX6_flood 63 = .ok (.istore 7, 2) := by decide +kernel
theorem dX6_flood_65 : decode cX6_flood 65 = .ok (.iload 7, 2) := by decide +kernel
theorem dX6_flood_67 : decode cX6_flood 67 = .ok (.iconst 1, 1) := by decide +kernel
theorem dX6_flood_68 : decode cX6_flood 68 = .ok (.iload_n 2, 1) := by decide +kernel
theorem dX6_flood_69 : decode cX6_flood 69 = .ok (.ishl, 1) := by decide +kernel
theorem dX6_flood_70 : decode cX6_flood 70 = .ok (.if_icmp .ge 41, 3) := by decide +kernel
theorem dX6_flood_73 : decode cX6_flood 73 = .ok (.iload 7, 2) := by decide +kernel
theorem dX6_flood_75 : decode cX6_flood 75 = .ok (.iload_n 2, 1) := by decide +kernel
theorem dX6_flood_76 : decode cX6_flood 76 = .ok (.iload_n 3, 1) := by decide +kernel
theorem dX6_flood_77 : decode cX6_flood 77 = .ok (.invokestatic 299, 3) := by decide +kernel
theorem dX6_flood_80 : decode cX6_flood 80 = .ok (.istore 8, 2) := by decide +kernel
theorem dX6_flood_82 : decode cX6_flood 82 = .ok (.iload 8, 2) := by decide +kernel
theorem dX6_flood_84 : decode cX6_flood 84 = .ok (.ifCond .le 21, 3) := by decide +kernel
theorem dX6_flood_87 : decode cX6_flood 87 = .ok (.aload_n 0, 1) := by decide +kernel
theorem dX6_flood_88 : decode cX6_flood 88 = .ok (.iload_n 1, 1) := by decide +kernel
theorem dX6_flood_89 : decode cX6_flood 89 = .ok (.iload_n 2, 1) := by decide +kernel
theorem dX6_flood_90 : decode cX6_flood 90 = .ok (.iload 7, 2) := by decide +kernel
theorem dX6_flood_92 : decode cX6_flood 92 = .ok (.invokevirtual 302, 3) := by decide +kernel
theorem dX6_flood_95 : decode cX6_flood 95 = .ok (.ifCond .eq 10, 3) := by decide +kernel
theorem dX6_flood_98 : decode cX6_flood 98 = .ok (.iload 5, 2) := by decide +kernel
theorem dX6_flood_100 : decode cX6_flood 100 = .ok (.iload 8, 2) := by decide +kernel
theorem dX6_flood_102 : decode cX6_flood 102 = .ok (.iadd, 1) := by decide +kernel
theorem dX6_flood_103 : decode cX6_flood 103 = .ok (.istore 5, 2) := by decide +kernel
theorem dX6_flood_105 : decode cX6_flood 105 = .ok (.iinc 7 1, 3) := by decide +kernel
theorem dX6_flood_108 : decode cX6_flood 108 = .ok (.goto (-43), 3) := by decide +kernel
theorem dX6_flood_111 : decode cX6_flood 111 = .ok (.iload 5, 2) := by decide +kernel
theorem dX6_flood_113 : decode cX6_flood 113 = .ok (.iload 6, 2) := by decide +kernel
theorem dX6_flood_115 : decode cX6_flood 115 = .ok (.iload 4, 2) := by decide +kernel
theorem dX6_flood_117 : decode cX6_flood 117 = .ok (.invokestatic 278, 3) := by decide +kernel
theorem dX6_flood_120 : decode cX6_flood 120 = .ok (.ireturn, 1) := by decide +kernel
set_option maxRecDepth 20000 in
theorem ggX6_weightOf_X6_has : GoodIn wsX6_weightOf wsX6_has := goodIn_r _ [4] (by decide +kernel) (by decide +kernel)
set_option maxRecDepth 20000 in
theorem gX6_weightOf_X6_has : GoodIn wsX6_weightOf (va_wsS RX6 112 yX6_has wsX6_has) := goodIn_app (goodIn_of _ (by decide +kernel)) ggX6_weightOf_X6_has
theorem dX6_weightOf_0 : decode cX6_weightOf 0 = .ok (.iconst 1, 1) := by decide +kernel
theorem dX6_weightOf_1 : decode cX6_weightOf 1 = .ok (.istore_n 3, 1) := by decide +kernel
theorem dX6_weightOf_2 : decode cX6_weightOf 2 = .ok (.iconst 0, 1) := by decide +kernel
theorem dX6_weightOf_3 : decode cX6_weightOf 3 = .ok (.istore 4, 2) := by decide +kernel
theorem dX6_weightOf_5 : decode cX6_weightOf 5 = .ok (.iload 4, 2) := by decide +kernel
theorem dX6_weightOf_7 : decode cX6_weightOf 7 = .ok (.iload_n 1, 1) := by decide +kernel
theorem dX6_weightOf_8 : decode cX6_weightOf 8 = .ok (.if_icmp .ge 29, 3) := by decide +kernel
theorem dX6_weightOf_11 : decode cX6_weightOf 11 = .ok (.iload_n 3, 1) := by decide +kernel
theorem dX6_weightOf_12 : decode cX6_weightOf 12 = .ok (.iload_n 0, 1) := by decide +kernel
theorem dX6_weightOf_13 : decode cX6_weightOf 13 = .ok (.iload 4, 2) := by decide +kernel
theorem dX6_weightOf_15 : decode cX6_weightOf 15 = .ok (.invokestatic 112, 3) := by decide +kernel
theorem dX6_weightOf_18 : decode cX6_weightOf 18 = .ok (.ifCond .eq 7, 3) := by decide +kernel
theorem dX6_weightOf_21 : decode cX6_weightOf 21 = .ok (.iload_n 2, 1) := by decide +kernel
theorem dX6_weightOf_22 : decode cX6_weightOf 22 = .ok (.goto 7, 3) := by decide +kernel
theorem dX6_weightOf_25 : decode cX6_weightOf 25 = .ok (.bipush 10, 2) := by decide +kernel
theorem dX6_weightOf_27 : decode cX6_weightOf 27 = .ok (.iload_n 2, 1) := by decide +kernel
theorem dX6_weightOf_28 : decode cX6_weightOf 28 = .ok (.isub, 1) := by decide +kernel
theorem dX6_weightOf_29 : decode cX6_weightOf 29 = .ok (.imul, 1) := by decide +kernel
theorem dX6_weightOf_30 : decode cX6_weightOf 30 = .ok (.istore_n 3, 1) := by decide +kernel
theorem dX6_weightOf_31 : decode cX6_weightOf 31 = .ok (.iinc 4 1, 3) := by decide +kernel
theorem dX6_weightOf_34 : decode cX6_weightOf 34 = .ok (.goto (-29), 3) := by decide +kernel
theorem dX6_weightOf_37 : decode cX6_weightOf 37 = .ok (.iload_n 3, 1) := by decide +kernel
theorem dX6_weightOf_38 : decode cX6_weightOf 38 = .ok (.ireturn, 1) := by decide +kernel
set_option maxRecDepth 20000 in
theorem ggX6_isOutByTides_X2_copy : GoodIn wsX6_isOutByTides wsX2_copy := goodIn_r _ [11, 12, 13, 14, 15, 16, 17, 18, 19, 20, 21, 22, 23, 24, 25, 101, 102, 103, 104, 105, 106, 107, 108, 109] (by decide +kernel) (by decide +kernel)
set_option maxRecDepth 20000 in
theorem gX6_isOutByTides_X2_copy : GoodIn wsX6_isOutByTides (wsV RX6 206 RX2 yX2_copy wsX2_copy) := goodIn_app (goodIn_of _ (by decide +kernel)) ggX6_isOutByTides_X2_copy
set_option maxRecDepth 20000 in
theorem ggX6_isOutByTides_X6_has : GoodIn wsX6_isOutByTides wsX6_has := goodIn_r _ [28] (by decide +kernel) (by decide +kernel)
set_option maxRecDepth 20000 in
theorem gX6_isOutByTides_X6_has : GoodIn wsX6_isOutByTides (va_wsS RX6 112 yX6_has wsX6_has) := goodIn_app (goodIn_of _ (by decide +kernel)) ggX6_isOutByTides_X6_has
set_option maxRecDepth 20000 in
theorem ggX6_isOutByTides_X2_advanceBy : GoodIn wsX6_isOutByTides wsX2_advanceBy := goodIn_r _ [32, 16, 17, 20, 27, 22, 28, 33, 34, 35, 10, 36, 12, 18, 13, 15, 21, 23, 37, 38, 39, 40, 41, 42, 43, 44, 45, 46, 47, 48, 49, 50, 51, 52, 53, 54, 55, 56, 57, 58, 59, 60, 61, 62, 63, 64, 14, 65, 66, 67, 68, 24, 25, 69, 70, 71, 72, 73, 74, 19, 101, 102, 103, 104, 105, 106, 107, 108, 109, 88, 89, 90, 91, 92, 93, 94, 95, 96, 97, 98, 99, 100] (by decide +kernel) (by decide +kernel)
set_option maxRecDepth 20000 in
theorem gX6_isOutByTides_X2_advanceBy : GoodIn wsX6_isOutByTides (wsV RX6 312 RX2 yX2_advanceBy wsX2_advanceBy) := goodIn_app (goodIn_of _ (by decide +kernel)) ggX6_isOutByTides_X2_advanceBy
theorem dX6_isOutByTides_0 : decode cX6_isOutByTides 0 = .ok (.aload_n 0, 1) := by decide +kernel
theorem dX6_isOutByTides_1 : decode cX6_isOutByTides 1 = .ok (.getfield 38, 3) := by decide +kernel
theorem dX6_isOutByTides_4 : decode cX6_isOutByTides 4 = .ok (.aload_n 0, 1) := by decide +kernel
theorem dX6_isOutByTides_5 : decode cX6_isOutByTides 5 = .ok (.getfield 34, 3) := by decide +kernel
theorem dX6_isOutByTides_8 : decode cX6_isOutByTides 8 = .ok (.invokevirtual 206, 3) := by decide +kernel
theorem dX6_isOutByTides_11 : decode cX6_isOutByTides 11 = .ok (.iconst 0, 1) := by decide +kernel
theorem dX6_isOutByTides_12 : decode cX6_isOutByTides 12 = .ok (.istore 4, 2) := by decide +kernel
theorem dX6_isOutByTides_14 : decode cX6_isOutByTides 14 = .ok (.iload 4, 2) := by decide +kernel
theorem dX6_isOutByTides_16 : decode cX6_isOutByTides 16 = .ok (.iload_n 2, 1) := by decide +kernel
theorem dX6_isOutByTides_17 : decode cX6_isOutByTides 17 = .ok (.if_icmp .ge 46, 3) := by decide +kernel
theorem dX6_isOutByTides_20 : decode cX6_isOutByTides 20 = .ok (.aload_n 0, 1) := by decide +kernel
theorem dX6_isOutByTides_21 : decode cX6_isOutByTides 21 = .ok (.getfield 38, 3) := by decide +kernel
theorem dX6_isOutByTides_24 : decode cX6_isOutByTides 24 = .ok (.iload_n 3, 1) := by decide +kernel
theorem dX6_isOutByTides_25 : decode cX6_isOutByTides 25 = .ok (.iload 4, 2) := by decide +kernel
theorem dX6_isOutByTides_27 : decode cX6_isOutByTides 27 = .ok (.invokestatic 112, 3) := by decide +kernel
theorem dX6_isOutByTides_30 : decode cX6_isOutByTides 30 = .ok (.ifCond .eq 13, 3) := by decide +kernel
theorem dX6_isOutByTides_33 : decode cX6_isOutByTides 33 = .ok (.aload_n 0, 1) := by decide +kernel
theorem dX6_isOutByTides_34 : decode cX6_isOutByTides 34 = .ok (.getfield 30, 3) := by decide +kernel
theorem dX6_isOutByTides_37 : decode cX6_isOutByTides 37 = .ok (.getfield 306, 3) := by decide +kernel
theorem dX6_isOutByTides_40 : decode cX6_isOutByTides 40 = .ok (.goto 10, 3) := by decide +kernel
theorem dX6_isOutByTides_43 : decode cX6_isOutByTides 43 = .ok (.aload_n 0, 1) := by decide +kernel
theorem dX6_isOutByTides_44 : decode cX6_isOutByTides 44 = .ok (.getfield 30, 3) := by decide +kernel
theorem dX6_isOutByTides_47 : decode cX6_isOutByTides 47 = .ok (.getfield 309, 3) := by decide +kernel
theorem dX6_isOutByTides_50 : decode cX6_isOutByTides 50 = .ok (.aload_n 0, 1) := by decide +kernel
theorem dX6_isOutByTides_51 : decode cX6_isOutByTides 51 = .ok (.getfield 30, 3) := by decide +kernel
theorem dX6_isOutByTides_54 : decode cX6_isOutByTides 54 = .ok (.invokevirtual 312, 3) := by decide +kernel
theorem dX6_isOutByTides_57 : decode cX6_isOutByTides 57 = .ok (.iinc 4 1, 3) := by decide +kernel
theorem dX6_isOutByTides_60 : decode cX6_isOutByTides 60 = .ok (.goto (-46), 3) := by decide +kernel
theorem dX6_isOutByTides_63 : decode cX6_isOutByTides 63 = .ok (.aload_n 0, 1) := by decide +kernel
theorem dX6_isOutByTides_64 : decode cX6_isOutByTides 64 = .ok (.getfield 38, 3) := by decide +kernel
theorem dX6_isOutByTides_67 : decode cX6_isOutByTides 67 = .ok (.getfield 167, 3) := by decide +kernel
theorem dX6_isOutByTides_70 : decode cX6_isOutByTides 70 = .ok (.iload_n 1, 1) := by decide +kernel
theorem dX6_isOutByTides_71 : decode cX6_isOutByTides 71 = .ok (.invokestatic 112, 3) := by decide +kernel
theorem dX6_isOutByTides_74 : decode cX6_isOutByTides 74 = .ok (.ireturn, 1) := by decide +kernel
theorem dX6_seed_0 : decode cX6_seed 0 = .ok (.aload_n 0, 1) := by decide +kernel
theorem dX6_seed_1 : decode cX6_seed 1 = .ok (.getfield 315, 3) := by decide +kernel
theorem dX6_seed_4 : decode cX6_seed 4 = .ok (.lstore_n 3, 1) := by decide +kernel
theorem dX6_seed_5 : decode cX6_seed 5 = .ok (.aload_n 0, 1) := by decide +kernel
theorem dX6_seed_6 : decode cX6_seed 6 = .ok (.lload_n 1, 1) := by decide +kernel
theorem dX6_seed_7 : decode cX6_seed 7 = .ok (.putfield 315, 3) := by decide +kernel
theorem dX6_seed_10 : decode cX6_seed 10 = .ok (.lload_n 3, 1) := by decide +kernel
theorem dX6_seed_11 : decode cX6_seed 11 = .ok (.lreturn, 1) := by decide +kernel
set_option maxRecDepth 20000 in
theorem ggX6_years_X2_copy : GoodIn wsX6_years wsX2_copy := goodIn_r _ [13, 14, 15, 16, 17, 18, 19, 20, 21, 22, 23, 24, 25, 26, 27, 132, 133, 134, 135, 136, 137, 138, 139, 140] (by decide +kernel) (by decide +kernel)
set_option maxRecDepth 20000 in
theorem gX6_years_X2_copy : GoodIn wsX6_years (wsV RX6 206 RX2 yX2_copy wsX2_copy) := goodIn_app (goodIn_of _ (by decide +kernel)) ggX6_years_X2_copy
set_option maxRecDepth 20000 in
theorem ggX6_years_X2_advance : GoodIn wsX6_years wsX2_advance := goodIn_r _ [31, 22, 32, 33, 34, 35, 36, 37, 38, 39, 40, 41, 12, 42, 18, 19, 43, 24, 44, 45, 46, 47, 48, 14, 20, 15, 17, 23, 25, 49, 50, 51, 52, 53, 54, 55, 56, 57, 58, 59, 60, 61, 62, 63, 64, 65, 66, 67, 68, 69, 70, 71, 72, 73, 74, 75, 16, 76, 77, 78, 79, 26, 27, 80, 81, 82, 83, 84, 85, 21, 132, 133, 134, 135, 136, 137, 138, 139, 140, 119, 120, 121, 122, 123, 124, 125, 126, 127, 128, 129, 130, 131] (by decide +kernel) (by decide +kernel)
set_option maxRecDepth 20000 in
theorem gX6_years_X2_advance : GoodIn wsX6_years (wsV RX6 181 RX2 yX2_advance wsX2_advance) := goodIn_app (goodIn_of _ (by decide +kernel)) ggX6_years_X2_advance
set_option maxRecDepth 20000 in
theorem ggX6_years_X2_turnPipe : GoodIn wsX6_years wsX2_turnPipe := goodIn_r _ [89, 20, 56, 24, 57, 132, 133, 134, 135, 136, 137, 138, 139, 140] (by decide +kernel) (by decide +kernel)
set_option maxRecDepth 20000 in
theorem gX6_years_X2_turnPipe : GoodIn wsX6_years (wsV RX6 184 RX2 yX2_turnPipe wsX2_turnPipe) := goodIn_app (goodIn_of _ (by decide +kernel)) ggX6_years_X2_turnPipe
set_option maxRecDepth 20000 in
theorem ggX6_years_X2_right : GoodIn wsX6_years wsX2_right := goodIn_r _ [93, 94, 95, 96, 12, 97, 19, 18, 14, 98, 43, 24, 44, 23, 25, 56, 57, 132, 133, 134, 135, 136, 137, 138, 139, 140, 119, 120, 121, 122, 123, 124, 125, 126, 127, 128, 129, 130, 131] (by decide +kernel) (by decide +kernel)
set_option maxRecDepth 20000 in
theorem gX6_years_X2_right : GoodIn wsX6_years (wsV RX6 202 RX2 yX2_right wsX2_right) := goodIn_app (goodIn_of _ (by decide +kernel)) ggX6_years_X2_right
set_option maxRecDepth 20000 in
theorem ggX6_years_J6_bitCount_0f7a4 : GoodIn wsX6_years wsJ6_bitCount_0f7a4 := goodIn_r _ [102, 103, 104, 105] (by decide +kernel) (by decide +kernel)
set_option maxRecDepth 20000 in
theorem gX6_years_J6_bitCount_0f7a4 : GoodIn wsX6_years (va_wsS RX6 230 yJ6_bitCount_0f7a4 wsJ6_bitCount_0f7a4) := goodIn_app (goodIn_of _ (by decide +kernel)) ggX6_years_J6_bitCount_0f7a4
theorem dX6_years_0 : decode cX6_years 0 = .ok (.iload_n 1, 1) := by decide +kernel
theorem dX6_years_1 : decode cX6_years 1 = .ok (.iconst 1, 1) := by decide +kernel
theorem dX6_years_2 : decode cX6_years 2 = .ok (.if_icmp .lt 9, 3) := by decide +kernel
theorem dX6_years_5 : decode cX6_years 5 = .ok (.iload_n 1, 1) := by decide +kernel
theorem dX6_years_6 : decode cX6_years 6 = .ok (.bipush 30, 2) := by decide +kernel
theorem dX6_years_8 : decode cX6_years 8 = .ok (.if_icmp .le 6, 3) := by decide +kernel
theorem dX6_years_11 : decode cX6_years 11 = .ok (.bipush (-2), 2) := by decide +kernel
theorem dX6_years_13 : decode cX6_years 13 = .ok (.ireturn, 1) := by decide +kernel
theorem dX6_years_14 : decode cX6_years 14 = .ok (.aload_n 0, 1) := by decide +kernel
theorem dX6_years_15 : decode cX6_years 15 = .ok (.getfield 38, 3) := by decide +kernel
theorem dX6_years_18 : decode cX6_years 18 = .ok (.aload_n 0, 1) := by decide +kernel
theorem dX6_years_19 : decode cX6_years 19 = .ok (.getfield 34, 3) := by decide +kernel
theorem dX6_years_22 : decode cX6_years 22 = .ok (.invokevirtual 206, 3) := by decide +kernel
theorem dX6_years_25 : decode cX6_years 25 = .ok (.iconst 0, 1) := by decide +kernel
theorem dX6_years_26 : decode cX6_years 26 = .ok (.istore_n 2, 1) := by decide +kernel
theorem dX6_years_27 : decode cX6_years 27 = .ok (.iload_n 2, 1) := by decide +kernel
theorem dX6_years_28 : decode cX6_years 28 = .ok (.iload_n 1, 1) := by decide +kernel
theorem dX6_years_29 : decode cX6_years 29 = .ok (.if_icmp .ge 77, 3) := by decide +kernel
theorem dX6_years_32 : decode cX6_years 32 = .ok (.aload_n 0, 1) := by decide +kernel
theorem dX6_years_33 : decode cX6_years 33 = .ok (.aload_n 0, 1) := by decide +kernel
theorem dX6_years_34 : decode cX6_years 34 = .ok (.getfield 315, 3) := by decide +kernel
theorem dX6_years_37 : decode cX6_years 37 = .ok (.ldc2_w 319, 3) := by decide +kernel
theorem dX6_years_40 : decode cX6_years 40 = .ok (.lmul, 1) := by decide +kernel
theorem dX6_years_41 : decode cX6_years 41 = .ok (.ldc2_w 321, 3) := by decide +kernel
theorem dX6_years_44 : decode cX6_years 44 = .ok (.ladd, 1) := by decide +kernel
theorem dX6_years_45 : decode cX6_years 45 = .ok (.putfield 315, 3) := by decide +kernel
theorem dX6_years_48 : decode cX6_years 48 = .ok (.aload_n 0, 1) := by decide +kernel
theorem dX6_years_49 : decode cX6_years 49 = .ok (.getfield 315, 3) := by decide +kernel
theorem dX6_years_52 : decode cX6_years 52 = .ok (.bipush 33, 2) := by decide +kernel
theorem dX6_years_54 : decode cX6_years 54 = .ok (.lushr, 1) := by decide +kernel
theorem dX6_years_55 : decode cX6_years 55 = .ok (.ldc2_w 323, 3) := by decide +kernel
theorem dX6_years_58 : decode cX6_years 58 = .ok (.lrem, 1) := by decide +kernel
theorem dX6_years_59 : decode cX6_years 59 = .ok (.l2i, 1) := by decide +kernel
theorem dX6_years_60 : decode cX6_years 60 = .ok (.istore_n 3, 1) := by decide +kernel
theorem dX6_years_61 : decode cX6_years 61 = .ok (.iload_n 3, 1) := by decide +kernel
theorem dX6_years_62 : decode cX6_years 62 = .ok (.bipush 8, 2) := by decide +kernel
theorem dX6_years_64 : decode cX6_years 64 = .ok (.if_icmp .lt 17, 3) := by decide +kernel
theorem dX6_years_67 : decode cX6_years 67 = .ok (.aload_n 0, 1) := by decide +kernel
theorem dX6_years_68 : decode cX6_years 68 = .ok (.getfield 38, 3) := by decide +kernel
theorem dX6_years_71 : decode cX6_years 71 = .ok (.aload_n 0, 1) := by decide +kernel
theorem dX6_years_72 : decode cX6_years 72 = .ok (.getfield 30, 3) := by decide +kernel
theorem dX6_years_75 : decode cX6_years 75 = .ok (.invokevirtual 181, 3) := by decide +kernel
theorem dX6_years_78 : decode cX6_years 78 = .ok (.goto 22, 3) := by decide +kernel
theorem dX6_years_81 : decode cX6_years 81 = .ok (.iload_n 3, 1) := by decide +kernel
theorem dX6_years_82 : decode cX6_years 82 = .ok (.aload_n 0, 1) := by decide +kernel
theorem dX6_years_83 : decode cX6_years 83 = .ok (.getfield 30, 3) := by decide +kernel
theorem dX6_years_86 : decode cX6_years 86 = .ok (.getfield 92, 3) := by decide +kernel
theorem dX6_years_89 : decode cX6_years 89 = .ok (.if_icmp .ge 11, 3) := by decide +kernel
theorem dX6_years_92 : decode cX6_years 92 = .ok (.aload_n 0, 1) := by decide +kernel
theorem dX6_years_93 : decode cX6_years 93 = .ok (.getfield 38, 3) := by decide +kernel
theorem dX6_years_96 : decode cX6_years 96 = .ok (.iload_n 3, 1) := by decide +kernel
theorem dX6_years_97 : decode cX6_years 97 = .ok (.invokevirtual 184, 3) := by decide +kernel
theorem dX6_years_100 : decode cX6_years 100 = .ok (.iinc 2 1, 3) := by decide +kernel
theorem dX6_years_103 : decode cX6_years 103 = .ok (.goto (-76), 3) := by decide +kernel
theorem dX6_years_106 : decode cX6_years 106 = .ok (.aload_n 0, 1) := by decide +kernel
theorem dX6_years_107 : decode cX6_years 107 = .ok (.getfield 38, 3) := by decide +kernel
theorem dX6_years_110 : decode cX6_years 110 = .ok (.aload_n 0, 1) := by decide +kernel
theorem dX6_years_111 : decode cX6_years 111 = .ok (.getfield 30, 3) := by decide +kernel
theorem dX6_years_114 : decode cX6_years 114 = .ok (.invokevirtual 202, 3) := by decide +kernel
theorem dX6_years_117 : decode cX6_years 117 = .ok (.invokestatic 230, 3) := by decide +kernel
theorem dX6_years_120 : decode cX6_years 120 = .ok (.ireturn, 1) := by decide +kernel
set_option maxRecDepth 20000 in
theorem ggX6_keep_X6_isNoChoice : GoodIn wsX6_keep wsX6_isNoChoice := goodIn_r _ [7] (by decide +kernel) (by decide +kernel)
set_option maxRecDepth 20000 in
theorem gX6_keep_X6_isNoChoice : GoodIn wsX6_keep (va_wsS RX6 196 yX6_isNoChoice wsX6_isNoChoice) := goodIn_app (goodIn_of _ (by decide +kernel)) ggX6_keep_X6_isNoChoice
set_option maxRecDepth 20000 in
theorem ggX6_keep_X6_slotOf : GoodIn wsX6_keep wsX6_slotOf := goodIn_r _ [11, 12, 13, 35, 36, 37, 38, 39, 40, 41, 42, 43, 44, 45, 46, 47] (by decide +kernel) (by decide +kernel)
set_option maxRecDepth 20000 in
theorem gX6_keep_X6_slotOf : GoodIn wsX6_keep (wsV RX6 325 RX6 yX6_slotOf wsX6_slotOf) := goodIn_app (goodIn_of _ (by decide +kernel)) ggX6_keep_X6_slotOf
set_option maxRecDepth 20000 in
theorem ggX6_keep_X2_copy : GoodIn wsX6_keep wsX2_copy := goodIn_r _ [18, 19, 20, 21, 22, 23, 24, 25, 26, 27, 28, 6, 29, 30, 31, 48, 49, 50, 51, 52, 53, 54, 55, 56] (by decide +kernel) (by decide +kernel)
set_option maxRecDepth 20000 in
theorem gX6_keep_X2_copy : GoodIn wsX6_keep (wsV RX6 206 RX2 yX2_copy wsX2_copy) := goodIn_app (goodIn_of _ (by decide +kernel)) ggX6_keep_X2_copy
set_option maxRecDepth 20000 in
theorem ggX6_keep_X6_bit : GoodIn wsX6_keep wsX6_bit := goodIn_r _ [34] (by decide +kernel) (by decide +kernel)
set_option maxRecDepth 20000 in
theorem gX6_keep_X6_bit : GoodIn wsX6_keep (va_wsS RX6 244 yX6_bit wsX6_bit) := goodIn_app (goodIn_of _ (by decide +kernel)) ggX6_keep_X6_bit
theorem dX6_keep_0 : decode cX6_keep 0 = .ok (.iload_n 1, 1) := by decide +kernel
theorem dX6_keep_1 : decode cX6_keep 1 = .ok (.invokestatic 196, 3) := by decide +kernel
theorem dX6_keep_4 : decode cX6_keep 4 = .ok (.ifCond .eq 5, 3) := by decide +kernel
theorem dX6_keep_7 : decode cX6_keep 7 = .ok (.iconst (-1), 1) := by decide +kernel
theorem dX6_keep_8 : decode cX6_keep 8 = .ok (.ireturn, 1) := by decide +kernel
theorem dX6_keep_9 : decode cX6_keep 9 = .ok (.aload_n 0, 1) := by decide +kernel
theorem dX6_keep_10 : decode cX6_keep 10 = .ok (.iload_n 1, 1) := by decide +kernel
theorem dX6_keep_11 : decode cX6_keep 11 = .ok (.invokevirtual 325, 3) := by decide +kernel
theorem dX6_keep_14 : decode cX6_keep 14 = .ok (.aload_n 0, 1) := by decide +kernel
theorem dX6_keep_15 : decode cX6_keep 15 = .ok (.getfield 34, 3) := by decide +kernel
theorem dX6_keep_18 : decode cX6_keep 18 = .ok (.invokevirtual 206, 3) := by decide +kernel
theorem dX6_keep_21 : decode cX6_keep 21 = .ok (.aload_n 0, 1) := by decide +kernel
theorem dX6_keep_22 : decode cX6_keep 22 = .ok (.dup, 1) := by decide +kernel
theorem dX6_keep_23 : decode cX6_keep 23 = .ok (.getfield 84, 3) := by decide +kernel
theorem dX6_keep_26 : decode cX6_keep 26 = .ok (.iload_n 1, 1) := by decide +kernel
theorem dX6_keep_27 : decode cX6_keep 27 = .ok (.invokestatic 244, 3) := by decide +kernel
theorem dX6_keep_30 : decode cX6_keep 30 = .ok (.ior, 1) := by decide +kernel
theorem dX6_keep_31 : decode cX6_keep 31 = .ok (.putfield 84, 3) := by decide +kernel
theorem dX6_keep_34 : decode cX6_keep 34 = .ok (.aload_n 0, 1) := by decide +kernel
theorem dX6_keep_35 : decode cX6_keep 35 = .ok (.getfield 34, 3) := by decide +kernel
theorem dX6_keep_38 : decode cX6_keep 38 = .ok (.getfield 123, 3) := by decide +kernel
theorem dX6_keep_41 : decode cX6_keep 41 = .ok (.ireturn, 1) := by decide +kernel
set_option maxRecDepth 20000 in
theorem ggX6_again_X6_isNoChoice : GoodIn wsX6_again wsX6_isNoChoice := goodIn_r _ [9] (by decide +kernel) (by decide +kernel)
set_option maxRecDepth 20000 in
theorem gX6_again_X6_isNoChoice : GoodIn wsX6_again (va_wsS RX6 196 yX6_isNoChoice wsX6_isNoChoice) := goodIn_app (goodIn_of _ (by decide +kernel)) ggX6_again_X6_isNoChoice
set_option maxRecDepth 20000 in
theorem ggX6_again_X6_has : GoodIn wsX6_again wsX6_has := goodIn_r _ [12] (by decide +kernel) (by decide +kernel)
set_option maxRecDepth 20000 in
theorem gX6_again_X6_has : GoodIn wsX6_again (va_wsS RX6 112 yX6_has wsX6_has) := goodIn_app (goodIn_of _ (by decide +kernel)) ggX6_again_X6_has
set_option maxRecDepth 20000 in
theorem ggX6_again_X6_slotOf : GoodIn wsX6_again wsX6_slotOf := goodIn_r _ [16, 17, 18, 37, 38, 39, 40, 41, 42, 43, 44, 45, 46, 47, 48, 49] (by decide +kernel) (by decide +kernel)
set_option maxRecDepth 20000 in
theorem gX6_again_X6_slotOf : GoodIn wsX6_again (wsV RX6 325 RX6 yX6_slotOf wsX6_slotOf) := goodIn_app (goodIn_of _ (by decide +kernel)) ggX6_again_X6_slotOf
set_option maxRecDepth 20000 in
theorem ggX6_again_X2_copy : GoodIn wsX6_again wsX2_copy := goodIn_r _ [23, 24, 25, 26, 27, 28, 29, 30, 31, 32, 33, 8, 34, 35, 36, 52, 53, 54, 55, 56, 57, 58, 59, 60] (by decide +kernel) (by decide +kernel)
set_option maxRecDepth 20000 in
theorem gX6_again_X2_copy : GoodIn wsX6_again (wsV RX6 206 RX2 yX2_copy wsX2_copy) := goodIn_app (goodIn_of _ (by decide +kernel)) ggX6_again_X2_copy
theorem dX6_again_0 : decode cX6_again 0 = .ok (.iload_n 1, 1) := by decide +kernel
theorem dX6_again_1 : decode cX6_again 1 = .ok (.invokestatic 196, 3) := by decide +kernel
theorem dX6_again_4 : decode cX6_again 4 = .ok (.ifCond .eq 5, 3) := by decide +kernel
theorem dX6_again_7 : decode cX6_again 7 = .ok (.iconst (-1), 1) := by decide +kernel
theorem dX6_again_8 : decode cX6_again 8 = .ok (.ireturn, 1) := by decide +kernel
theorem dX6_again_9 : decode cX6_again 9 = .ok (.aload_n 0, 1) := by decide +kernel
theorem dX6_again_10 : decode cX6_again 10 = .ok (.getfield 84, 3) := by decide +kernel
theorem dX6_again_13 : decode cX6_again 13 = .ok (.iload_n 1, 1) := by decide +kernel
theorem dX6_again_14 : decode cX6_again 14 = .ok (.invokestatic 112, 3) := by decide +kernel
theorem dX6_again_17 : decode cX6_again 17 = .ok (.ifCond .ne 6, 3) := by decide +kernel
theorem dX6_again_20 : decode cX6_again 20 = .ok (.bipush (-3), 2) := by decide +kernel
theorem dX6_again_22 : decode cX6_again 22 = .ok (.ireturn, 1) := by decide +kernel
theorem dX6_again_23 : decode cX6_again 23 = .ok (.aload_n 0, 1) := by decide +kernel
theorem dX6_again_24 : decode cX6_again 24 = .ok (.getfield 34, 3) := by decide +kernel
theorem dX6_again_27 : decode cX6_again 27 = .ok (.aload_n 0, 1) := by decide +kernel
theorem dX6_again_28 : decode cX6_again 28 = .ok (.iload_n 1, 1) := by decide +kernel
theorem dX6_again_29 : decode cX6_again 29 = .ok (.invokevirtual 325, 3) := by decide +kernel
theorem dX6_again_32 : decode cX6_again 32 = .ok (.invokevirtual 206, 3) := by decide +kernel
theorem dX6_again_35 : decode cX6_again 35 = .ok (.aload_n 0, 1) := by decide +kernel
theorem dX6_again_36 : decode cX6_again 36 = .ok (.getfield 48, 3) := by decide +kernel
theorem dX6_again_39 : decode cX6_again 39 = .ok (.iconst 0, 1) := by decide +kernel
theorem dX6_again_40 : decode cX6_again 40 = .ok (.putfield 81, 3) := by decide +kernel
theorem dX6_again_43 : decode cX6_again 43 = .ok (.aload_n 0, 1) := by decide +kernel
theorem dX6_again_44 : decode cX6_again 44 = .ok (.getfield 34, 3) := by decide +kernel
theorem dX6_again_47 : decode cX6_again 47 = .ok (.getfield 123, 3) := by decide +kernel
theorem dX6_again_50 : decode cX6_again 50 = .ok (.ireturn, 1) := by decide +kernel
theorem dX6_slotOf_0 : decode cX6_slotOf 0 = .ok (.iload_n 1, 1) := by decide +kernel
theorem dX6_slotOf_1 : decode cX6_slotOf 1 = .ok (.ifCond .ne 10, 3) := by decide +kernel
theorem dX6_slotOf_4 : decode cX6_slotOf 4 = .ok (.aload_n 0, 1) := by decide +kernel
theorem dX6_slotOf_5 : decode cX6_slotOf 5 = .ok (.getfield 52, 3) := by decide +kernel
theorem dX6_slotOf_8 : decode cX6_slotOf 8 = .ok (.goto 7, 3) := by decide +kernel
theorem dX6_slotOf_11 : decode cX6_slotOf 11 = .ok (.aload_n 0, 1) := by decide +kernel
theorem dX6_slotOf_12 : decode cX6_slotOf 12 = .ok (.getfield 55, 3) := by decide +kernel
theorem dX6_slotOf_15 : decode cX6_slotOf 15 = .ok (.areturn, 1) := by decide +kernel
set_option maxRecDepth 20000 in
theorem ggX6_count_X3_tide : GoodIn wsX6_count wsX3_tide := goodIn_r _ [18, 19, 20, 56, 57, 58, 59, 60, 61, 62, 63, 64, 65, 66, 67, 68] (by decide +kernel) (by decide +kernel)
set_option maxRecDepth 20000 in
theorem gX6_count_X3_tide : GoodIn wsX6_count (wsV RX6 126 RX3 yX3_tide wsX3_tide) := goodIn_app (goodIn_of _ (by decide +kernel)) ggX6_count_X3_tide
set_option maxRecDepth 20000 in
theorem ggX6_count_X2_right : GoodIn wsX6_count wsX2_right := goodIn_r _ [25, 26, 27, 28, 24, 29, 30, 31, 32, 33, 34, 35, 36, 37, 38, 39, 40, 69, 70, 71, 72, 73, 74, 75, 76, 77, 56, 57, 58, 59, 60, 61, 62, 63, 64, 65, 66, 67, 68] (by decide +kernel) (by decide +kernel)
set_option maxRecDepth 20000 in
theorem gX6_count_X2_right : GoodIn wsX6_count (wsV RX6 202 RX2 yX2_right wsX2_right) := goodIn_app (goodIn_of _ (by decide +kernel)) ggX6_count_X2_right
theorem dX6_count_0 : decode cX6_count 0 = .ok (.iload_n 1, 1) := by decide +kernel
theorem dX6_count_1 : decode cX6_count 1 = .ok (.tableswitch 146 0 9 #[55, 63, 71, 79, 87, 95, 110, 118, 130, 138], 55) := by decide +kernel
theorem dX6_count_56 : decode cX6_count 56 = .ok (.aload_n 0, 1) := by decide +kernel
theorem dX6_count_57 : decode cX6_count 57 = .ok (.getfield 10, 3) := by decide +kernel
theorem dX6_count_60 : decode cX6_count 60 = .ok (.getfield 65, 3) := by decide +kernel
theorem dX6_count_63 : decode cX6_count 63 = .ok (.ireturn, 1) := by decide +kernel
theorem dX6_count_64 : decode cX6_count 64 = .ok (.aload_n 0, 1) := by decide +kernel
theorem dX6_count_65 : decode cX6_count 65 = .ok (.getfield 30, 3) := by decide +kernel
theorem dX6_count_68 : decode cX6_count 68 = .ok (.getfield 87, 3) := by decide +kernel
theorem dX6_count_71 : decode cX6_count 71 = .ok (.ireturn, 1) := by decide +kernel
theorem dX6_count_72 : decode cX6_count 72 = .ok (.aload_n 0, 1) := by decide +kernel
theorem dX6_count_73 : decode cX6_count 73 = .ok (.getfield 30, 3) := by decide +kernel
theorem dX6_count_76 : decode cX6_count 76 = .ok (.getfield 92, 3) := by decide +kernel
theorem dX6_count_79 : decode cX6_count 79 = .ok (.ireturn, 1) := by decide +kernel
theorem dX6_count_80 : decode cX6_count 80 = .ok (.aload_n 0, 1) := by decide +kernel
theorem dX6_count_81 : decode cX6_count 81 = .ok (.getfield 30, 3) := by decide +kernel
theorem dX6_count_84 : decode cX6_count 84 = .ok (.getfield 95, 3) := by decide +kernel
theorem dX6_count_87 : decode cX6_count 87 = .ok (.ireturn, 1) := by decide +kernel
theorem dX6_count_88 : decode cX6_count 88 = .ok (.aload_n 0, 1) := by decide +kernel
theorem dX6_count_89 : decode cX6_count 89 = .ok (.getfield 34, 3) := by decide +kernel
theorem dX6_count_92 : decode cX6_count 92 = .ok (.getfield 123, 3) := by decide +kernel
theorem dX6_count_95 : decode cX6_count 95 = .ok (.ireturn, 1) := by decide +kernel
theorem dX6_count_96 : decode cX6_count 96 = .ok (.aload_n 0, 1) := by decide +kernel
theorem dX6_count_97 : decode cX6_count 97 = .ok (.getfield 30, 3) := by decide +kernel
theorem dX6_count_100 : decode cX6_count 100 = .ok (.aload_n 0, 1) := by decide +kernel
theorem dX6_count_101 : decode cX6_count 101 = .ok (.getfield 34, 3) := by decide +kernel
theorem dX6_count_104 : decode cX6_count 104 = .ok (.getfield 123, 3) := by decide +kernel
theorem dX6_count_107 : decode cX6_count 107 = .ok (.invokevirtual 126, 3) := by decide +kernel
theorem dX6_count_110 : decode cX6_count 110 = .ok (.ireturn, 1) := by decide +kernel
theorem dX6_count_111 : decode cX6_count 111 = .ok (.aload_n 0, 1) := by decide +kernel
theorem dX6_count_112 : decode cX6_count 112 = .ok (.getfield 34, 3) := by decide +kernel
theorem dX6_count_115 : decode cX6_count 115 = .ok (.getfield 167, 3) := by decide +kernel
theorem dX6_count_118 : decode cX6_count 118 = .ok (.ireturn, 1) := by decide +kernel
theorem dX6_count_119 : decode cX6_count 119 = .ok (.aload_n 0, 1) := by decide +kernel
theorem dX6_count_120 : decode cX6_count 120 = .ok (.getfield 34, 3) := by decide +kernel
theorem dX6_count_123 : decode cX6_count 123 = .ok (.aload_n 0, 1) := by decide +kernel
theorem dX6_count_124 : decode cX6_count 124 = .ok (.getfield 30, 3) := by decide +kernel
theorem dX6_count_127 : decode cX6_count 127 = .ok (.invokevirtual 202, 3) := by decide +kernel
theorem dX6_count_130 : decode cX6_count 130 = .ok (.ireturn, 1) := by decide +kernel
theorem dX6_count_131 : decode cX6_count 131 = .ok (.aload_n 0, 1) := by decide +kernel
theorem dX6_count_132 : decode cX6_count 132 = .ok (.getfield 48, 3) := by decide +kernel
theorem dX6_count_135 : decode cX6_count 135 = .ok (.getfield 81, 3) := by decide +kernel
theorem dX6_count_138 : decode cX6_count 138 = .ok (.ireturn, 1) := by decide +kernel
theorem dX6_count_139 : decode cX6_count 139 = .ok (.aload_n 0, 1) := by decide +kernel
theorem dX6_count_140 : decode cX6_count 140 = .ok (.getfield 61, 3) := by decide +kernel
theorem dX6_count_143 : decode cX6_count 143 = .ok (.getfield 257, 3) := by decide +kernel
theorem dX6_count_146 : decode cX6_count 146 = .ok (.ireturn, 1) := by decide +kernel
theorem dX6_count_147 : decode cX6_count 147 = .ok (.bipush (-2), 2) := by decide +kernel
theorem dX6_count_149 : decode cX6_count 149 = .ok (.ireturn, 1) := by decide +kernel
set_option maxRecDepth 20000 in
theorem ggX6_tryFromNow_X2_copy : GoodIn wsX6_tryFromNow wsX2_copy := goodIn_r _ [8, 9, 10, 11, 12, 13, 14, 15, 16, 17, 18, 19, 20, 21, 22, 94, 95, 96, 97, 98, 99, 100, 101, 102] (by decide +kernel) (by decide +kernel)
set_option maxRecDepth 20000 in
theorem gX6_tryFromNow_X2_copy : GoodIn wsX6_tryFromNow (wsV RX6 206 RX2 yX2_copy wsX2_copy) := goodIn_app (goodIn_of _ (by decide +kernel)) ggX6_tryFromNow_X2_copy
set_option maxRecDepth 20000 in
theorem ggX6_tryFromNow_X2_advanceTimes : GoodIn wsX6_tryFromNow wsX2_advanceTimes := goodIn_r _ [26, 17, 27, 28, 29, 30, 31, 32, 33, 34, 35, 36, 7, 37, 13, 14, 38, 19, 39, 40, 41, 42, 43, 9, 15, 10, 12, 18, 20, 44, 45, 46, 47, 48, 49, 50, 51, 52, 53, 54, 55, 56, 57, 58, 59, 60, 61, 62, 63, 64, 65, 66, 67, 68, 69, 70, 11, 71, 72, 73, 74, 21, 22, 75, 76, 77, 78, 79, 80, 16, 94, 95, 96, 97, 98, 99, 100, 101, 102, 103, 104, 105, 106, 107, 108, 109, 110, 111, 112, 113, 114, 115] (by decide +kernel) (by decide +kernel)
set_option maxRecDepth 20000 in
theorem gX6_tryFromNow_X2_advanceTimes : GoodIn wsX6_tryFromNow (wsV RX6 285 RX2 yX2_advanceTimes wsX2_advanceTimes) := goodIn_app (goodIn_of _ (by decide +kernel)) ggX6_tryFromNow_X2_advanceTimes
theorem dX6_tryFromNow_0 : decode cX6_tryFromNow 0 = .ok (.aload_n 0, 1) := by decide +kernel
theorem dX6_tryFromNow_1 : decode cX6_tryFromNow 1 = .ok (.getfield 38, 3) := by decide +kernel
theorem dX6_tryFromNow_4 : decode cX6_tryFromNow 4 = .ok (.aload_n 0, 1) := by decide +kernel
theorem dX6_tryFromNow_5 : decode cX6_tryFromNow 5 = .ok (.getfield 34, 3) := by decide +kernel
theorem dX6_tryFromNow_8 : decode cX6_tryFromNow 8 = .ok (.invokevirtual 206, 3) := by decide +kernel
theorem dX6_tryFromNow_11 : decode cX6_tryFromNow 11 = .ok (.aload_n 0, 1) := by decide +kernel
theorem dX6_tryFromNow_12 : decode cX6_tryFromNow 12 = .ok (.getfield 38, 3) := by decide +kernel
theorem dX6_tryFromNow_15 : decode cX6_tryFromNow 15 = .ok (.iload_n 1, 1) := by decide +kernel
theorem dX6_tryFromNow_16 : decode cX6_tryFromNow 16 = .ok (.aload_n 0, 1) := by decide +kernel
theorem dX6_tryFromNow_17 : decode cX6_tryFromNow 17 = .ok (.getfield 30, 3) := by decide +kernel
theorem dX6_tryFromNow_20 : decode cX6_tryFromNow 20 = .ok (.invokevirtual 285, 3) := by decide +kernel
theorem dX6_tryFromNow_23 : decode cX6_tryFromNow 23 = .ok (.return_, 1) := by decide +kernel
theorem dX6_isNoJoint_0 : decode cX6_isNoJoint 0 = .ok (.iload_n 1, 1) := by decide +kernel
theorem dX6_isNoJoint_1 : decode cX6_isNoJoint 1 = .ok (.ifCond .lt 14, 3) := by decide +kernel
theorem dX6_isNoJoint_4 : decode cX6_isNoJoint 4 = .ok (.iload_n 1, 1) := by decide +kernel
theorem dX6_isNoJoint_5 : decode cX6_isNoJoint 5 = .ok (.aload_n 0, 1) := by decide +kernel
theorem dX6_isNoJoint_6 : decode cX6_isNoJoint 6 = .ok (.getfield 30, 3) := by decide +kernel
theorem dX6_isNoJoint_9 : decode cX6_isNoJoint 9 = .ok (.getfield 87, 3) := by decide +kernel
theorem dX6_isNoJoint_12 : decode cX6_isNoJoint 12 = .ok (.if_icmp .lt 7, 3) := by decide +kernel
theorem dX6_isNoJoint_15 : decode cX6_isNoJoint 15 = .ok (.iconst 1, 1) := by decide +kernel
theorem dX6_isNoJoint_16 : decode cX6_isNoJoint 16 = .ok (.goto 4, 3) := by decide +kernel
theorem dX6_isNoJoint_19 : decode cX6_isNoJoint 19 = .ok (.iconst 0, 1) := by decide +kernel
theorem dX6_isNoJoint_20 : decode cX6_isNoJoint 20 = .ok (.ireturn, 1) := by decide +kernel
theorem dX6_isNoPipe_0 : decode cX6_isNoPipe 0 = .ok (.iload_n 1, 1) := by decide +kernel
theorem dX6_isNoPipe_1 : decode cX6_isNoPipe 1 = .ok (.ifCond .lt 14, 3) := by decide +kernel
theorem dX6_isNoPipe_4 : decode cX6_isNoPipe 4 = .ok (.iload_n 1, 1) := by decide +kernel
theorem dX6_isNoPipe_5 : decode cX6_isNoPipe 5 = .ok (.aload_n 0, 1) := by decide +kernel
theorem dX6_isNoPipe_6 : decode cX6_isNoPipe 6 = .ok (.getfield 30, 3) := by decide +kernel
theorem dX6_isNoPipe_9 : decode cX6_isNoPipe 9 = .ok (.getfield 92, 3) := by decide +kernel
theorem dX6_isNoPipe_12 : decode cX6_isNoPipe 12 = .ok (.if_icmp .lt 7, 3) := by decide +kernel
theorem dX6_isNoPipe_15 : decode cX6_isNoPipe 15 = .ok (.iconst 1, 1) := by decide +kernel
theorem dX6_isNoPipe_16 : decode cX6_isNoPipe 16 = .ok (.goto 4, 3) := by decide +kernel
theorem dX6_isNoPipe_19 : decode cX6_isNoPipe 19 = .ok (.iconst 0, 1) := by decide +kernel
theorem dX6_isNoPipe_20 : decode cX6_isNoPipe 20 = .ok (.ireturn, 1) := by decide +kernel
theorem dX6_isNoWalker_0 : decode cX6_isNoWalker 0 = .ok (.iload_n 1, 1) := by decide +kernel
theorem dX6_isNoWalker_1 : decode cX6_isNoWalker 1 = .ok (.ifCond .lt 14, 3) := by decide +kernel
theorem dX6_isNoWalker_4 : decode cX6_isNoWalker 4 = .ok (.iload_n 1, 1) := by decide +kernel
theorem dX6_isNoWalker_5 : decode cX6_isNoWalker 5 = .ok (.aload_n 0, 1) := by decide +kernel
theorem dX6_isNoWalker_6 : decode cX6_isNoWalker 6 = .ok (.getfield 30, 3) := by decide +kernel
theorem dX6_isNoWalker_9 : decode cX6_isNoWalker 9 = .ok (.getfield 95, 3) := by decide +kernel
theorem dX6_isNoWalker_12 : decode cX6_isNoWalker 12 = .ok (.if_icmp .lt 7, 3) := by decide +kernel
theorem dX6_isNoWalker_15 : decode cX6_isNoWalker 15 = .ok (.iconst 1, 1) := by decide +kernel
theorem dX6_isNoWalker_16 : decode cX6_isNoWalker 16 = .ok (.goto 4, 3) := by decide +kernel
theorem dX6_isNoWalker_19 : decode cX6_isNoWalker 19 = .ok (.iconst 0, 1) := by decide +kernel
theorem dX6_isNoWalker_20 : decode cX6_isNoWalker 20 = .ok (.ireturn, 1) := by decide +kernel
theorem dX6_isNoChoice_0 : decode cX6_isNoChoice 0 = .ok (.iload_n 0, 1) := by decide +kernel
theorem dX6_isNoChoice_1 : decode cX6_isNoChoice 1 = .ok (.ifCond .lt 8, 3) := by decide +kernel
theorem dX6_isNoChoice_4 : decode cX6_isNoChoice 4 = .ok (.iload_n 0, 1) := by decide +kernel
theorem dX6_isNoChoice_5 : decode cX6_isNoChoice 5 = .ok (.iconst 1, 1) := by decide +kernel
theorem dX6_isNoChoice_6 : decode cX6_isNoChoice 6 = .ok (.if_icmp .le 7, 3) := by decide +kernel
theorem dX6_isNoChoice_9 : decode cX6_isNoChoice 9 = .ok (.iconst 1, 1) := by decide +kernel
theorem dX6_isNoChoice_10 : decode cX6_isNoChoice 10 = .ok (.goto 4, 3) := by decide +kernel
theorem dX6_isNoChoice_13 : decode cX6_isNoChoice 13 = .ok (.iconst 0, 1) := by decide +kernel
theorem dX6_isNoChoice_14 : decode cX6_isNoChoice 14 = .ok (.ireturn, 1) := by decide +kernel
theorem dX6_flag_0 : decode cX6_flag 0 = .ok (.iload_n 0, 1) := by decide +kernel
theorem dX6_flag_1 : decode cX6_flag 1 = .ok (.ifCond .eq 7, 3) := by decide +kernel
theorem dX6_flag_4 : decode cX6_flag 4 = .ok (.iconst 1, 1) := by decide +kernel
theorem dX6_flag_5 : decode cX6_flag 5 = .ok (.goto 4, 3) := by decide +kernel
theorem dX6_flag_8 : decode cX6_flag 8 = .ok (.iconst 0, 1) := by decide +kernel
theorem dX6_flag_9 : decode cX6_flag 9 = .ok (.ireturn, 1) := by decide +kernel
set_option maxRecDepth 20000 in
theorem ggX6_fraction_X6_commonDivisor : GoodIn wsX6_fraction wsX6_commonDivisor := goodIn_r _ [8] (by decide +kernel) (by decide +kernel)
set_option maxRecDepth 20000 in
theorem gX6_fraction_X6_commonDivisor : GoodIn wsX6_fraction (va_wsS RX6 334 yX6_commonDivisor wsX6_commonDivisor) := goodIn_app (goodIn_of _ (by decide +kernel)) ggX6_fraction_X6_commonDivisor
theorem dX6_fraction_0 : decode cX6_fraction 0 = .ok (.iload_n 0, 1) := by decide +kernel
theorem dX6_fraction_1 : decode cX6_fraction 1 = .ok (.invokestatic 329, 3) := by decide +kernel
theorem dX6_fraction_4 : decode cX6_fraction 4 = .ok (.iload_n 1, 1) := by decide +kernel
theorem dX6_fraction_5 : decode cX6_fraction 5 = .ok (.invokestatic 334, 3) := by decide +kernel
theorem dX6_fraction_8 : decode cX6_fraction 8 = .ok (.istore_n 3, 1) := by decide +kernel
theorem dX6_fraction_9 : decode cX6_fraction 9 = .ok (.iload_n 3, 1) := by decide +kernel
theorem dX6_fraction_10 : decode cX6_fraction 10 = .ok (.ifCond .ne 6, 3) := by decide +kernel
theorem dX6_fraction_13 : decode cX6_fraction 13 = .ok (.bipush (-9), 2) := by decide +kernel
theorem dX6_fraction_15 : decode cX6_fraction 15 = .ok (.ireturn, 1) := by decide +kernel
theorem dX6_fraction_16 : decode cX6_fraction 16 = .ok (.iload_n 2, 1) := by decide +kernel
theorem dX6_fraction_17 : decode cX6_fraction 17 = .ok (.ifCond .eq 9, 3) := by decide +kernel
theorem dX6_fraction_20 : decode cX6_fraction 20 = .ok (.iload_n 0, 1) := by decide +kernel
theorem dX6_fraction_21 : decode cX6_fraction 21 = .ok (.iload_n 3, 1) := by decide +kernel
theorem dX6_fraction_22 : decode cX6_fraction 22 = .ok (.idiv, 1) := by decide +kernel
theorem dX6_fraction_23 : decode cX6_fraction 23 = .ok (.goto 6, 3) := by decide +kernel
theorem dX6_fraction_26 : decode cX6_fraction 26 = .ok (.iload_n 1, 1) := by decide +kernel
theorem dX6_fraction_27 : decode cX6_fraction 27 = .ok (.iload_n 3, 1) := by decide +kernel
theorem dX6_fraction_28 : decode cX6_fraction 28 = .ok (.idiv, 1) := by decide +kernel
theorem dX6_fraction_29 : decode cX6_fraction 29 = .ok (.ireturn, 1) := by decide +kernel
theorem dX6_commonDivisor_0 : decode cX6_commonDivisor 0 = .ok (.iload_n 0, 1) := by decide +kernel
theorem dX6_commonDivisor_1 : decode cX6_commonDivisor 1 = .ok (.istore_n 2, 1) := by decide +kernel
theorem dX6_commonDivisor_2 : decode cX6_commonDivisor 2 = .ok (.iload_n 1, 1) := by decide +kernel
theorem dX6_commonDivisor_3 : decode cX6_commonDivisor 3 = .ok (.istore_n 3, 1) := by decide +kernel
theorem dX6_commonDivisor_4 : decode cX6_commonDivisor 4 = .ok (.iconst 0, 1) := by decide +kernel
theorem dX6_commonDivisor_5 : decode cX6_commonDivisor 5 = .ok (.istore 4, 2) := by decide +kernel
theorem dX6_commonDivisor_7 : decode cX6_commonDivisor 7 = .ok (.iload 4, 2) := by decide +kernel
theorem dX6_commonDivisor_9 : decode cX6_commonDivisor 9 = .ok (.bipush 64, 2) := by decide +kernel
theorem dX6_commonDivisor_11 : decode cX6_commonDivisor 11 = .ok (.if_icmp .ge 23, 3) := by decide +kernel
theorem dX6_commonDivisor_14 : decode cX6_commonDivisor 14 = .ok (.iload_n 3, 1) := by decide +kernel
theorem dX6_commonDivisor_15 : decode cX6_commonDivisor 15 = .ok (.ifCond .eq 19, 3) := by decide +kernel
theorem dX6_commonDivisor_18 : decode cX6_commonDivisor 18 = .ok (.iload_n 2, 1) := by decide +kernel
theorem dX6_commonDivisor_19 : decode cX6_commonDivisor 19 = .ok (.iload_n 3, 1) := by decide +kernel
theorem dX6_commonDivisor_20 : decode cX6_commonDivisor 20 = .ok (.irem, 1) := by decide +kernel
theorem dX6_commonDivisor_21 : decode cX6_commonDivisor 21 = .ok (.istore 5, 2) := by decide +kernel
theorem dX6_commonDivisor_23 : decode cX6_commonDivisor 23 = .ok (.iload_n 3, 1) := by decide +kernel
theorem dX6_commonDivisor_24 : decode cX6_commonDivisor 24 = .ok (.istore_n 2, 1) := by decide +kernel
theorem dX6_commonDivisor_25 : decode cX6_commonDivisor 25 = .ok (.iload 5, 2) := by decide +kernel
theorem dX6_commonDivisor_27 : decode cX6_commonDivisor 27 = .ok (.istore_n 3, 1) := by decide +kernel
theorem dX6_commonDivisor_28 : decode cX6_commonDivisor 28 = .ok (.iinc 4 1, 3) := by decide +kernel
theorem dX6_commonDivisor_31 : decode cX6_commonDivisor 31 = .ok (.goto (-24), 3) := by decide +kernel
theorem dX6_commonDivisor_34 : decode cX6_commonDivisor 34 = .ok (.iload_n 2, 1) := by decide +kernel
theorem dX6_commonDivisor_35 : decode cX6_commonDivisor 35 = .ok (.ireturn, 1) := by decide +kernel
theorem dX6_has_0 : decode cX6_has 0 = .ok (.iload_n 1, 1) := by decide +kernel
theorem dX6_has_1 : decode cX6_has 1 = .ok (.ifCond .lt 21, 3) := by decide +kernel
theorem dX6_has_4 : decode cX6_has 4 = .ok (.iload_n 1, 1) := by decide +kernel
theorem dX6_has_5 : decode cX6_has 5 = .ok (.bipush 31, 2) := by decide +kernel
theorem dX6_has_7 : decode cX6_has 7 = .ok (.if_icmp .ge 15, 3) := by decide +kernel
theorem dX6_has_10 : decode cX6_has 10 = .ok (.iload_n 0, 1) := by decide +kernel
theorem dX6_has_11 : decode cX6_has 11 = .ok (.iload_n 1, 1) := by decide +kernel
theorem dX6_has_12 : decode cX6_has 12 = .ok (.ishr, 1) := by decide +kernel
theorem dX6_has_13 : decode cX6_has 13 = .ok (.iconst 1, 1) := by decide +kernel
theorem dX6_has_14 : decode cX6_has 14 = .ok (.iand, 1) := by decide +kernel
theorem dX6_has_15 : decode cX6_has 15 = .ok (.ifCond .eq 7, 3) := by decide +kernel
theorem dX6_has_18 : decode cX6_has 18 = .ok (.iconst 1, 1) := by decide +kernel
theorem dX6_has_19 : decode cX6_has 19 = .ok (.goto 4, 3) := by decide +kernel
theorem dX6_has_22 : decode cX6_has 22 = .ok (.iconst 0, 1) := by decide +kernel
theorem dX6_has_23 : decode cX6_has 23 = .ok (.ireturn, 1) := by decide +kernel
theorem dX6_bit_0 : decode cX6_bit 0 = .ok (.iload_n 0, 1) := by decide +kernel
theorem dX6_bit_1 : decode cX6_bit 1 = .ok (.ifCond .lt 15, 3) := by decide +kernel
theorem dX6_bit_4 : decode cX6_bit 4 = .ok (.iload_n 0, 1) := by decide +kernel
theorem dX6_bit_5 : decode cX6_bit 5 = .ok (.bipush 31, 2) := by decide +kernel
theorem dX6_bit_7 : decode cX6_bit 7 = .ok (.if_icmp .ge 9, 3) := by decide +kernel
theorem dX6_bit_10 : decode cX6_bit 10 = .ok (.iconst 1, 1) := by decide +kernel
theorem dX6_bit_11 : decode cX6_bit 11 = .ok (.iload_n 0, 1) := by decide +kernel
theorem dX6_bit_12 : decode cX6_bit 12 = .ok (.ishl, 1) := by decide +kernel
theorem dX6_bit_13 : decode cX6_bit 13 = .ok (.goto 4, 3) := by decide +kernel
theorem dX6_bit_16 : decode cX6_bit 16 = .ok (.iconst 0, 1) := by decide +kernel
theorem dX6_bit_17 : decode cX6_bit 17 = .ok (.ireturn, 1) := by decide +kernel
set_option maxRecDepth 20000 in
theorem ggX6_all_X6_bit : GoodIn wsX6_all wsX6_bit := goodIn_r _ [4] (by decide +kernel) (by decide +kernel)
set_option maxRecDepth 20000 in
theorem gX6_all_X6_bit : GoodIn wsX6_all (va_wsS RX6 244 yX6_bit wsX6_bit) := goodIn_app (goodIn_of _ (by decide +kernel)) ggX6_all_X6_bit
theorem dX6_all_0 : decode cX6_all 0 = .ok (.iload_n 0, 1) := by decide +kernel
theorem dX6_all_1 : decode cX6_all 1 = .ok (.invokestatic 244, 3) := by decide +kernel
theorem dX6_all_4 : decode cX6_all 4 = .ok (.iconst 1, 1) := by decide +kernel
theorem dX6_all_5 : decode cX6_all 5 = .ok (.isub, 1) := by decide +kernel
theorem dX6_all_6 : decode cX6_all 6 = .ok (.ireturn, 1) := by decide +kernel
theorem dX6_cell_0 : decode cX6_cell 0 = .ok (.iload_n 1, 1) := by decide +kernel
theorem dX6_cell_1 : decode cX6_cell 1 = .ok (.ifCond .lt 15, 3) := by decide +kernel
theorem dX6_cell_4 : decode cX6_cell 4 = .ok (.iload_n 1, 1) := by decide +kernel
theorem dX6_cell_5 : decode cX6_cell 5 = .ok (.aload_n 0, 1) := by decide +kernel
theorem dX6_cell_6 : decode cX6_cell 6 = .ok (.arraylength, 1) := by decide +kernel
theorem dX6_cell_7 : decode cX6_cell 7 = .ok (.if_icmp .ge 9, 3) := by decide +kernel
theorem dX6_cell_10 : decode cX6_cell 10 = .ok (.aload_n 0, 1) := by decide +kernel
theorem dX6_cell_11 : decode cX6_cell 11 = .ok (.iload_n 1, 1) := by decide +kernel
theorem dX6_cell_12 : decode cX6_cell 12 = .ok (.iaload, 1) := by decide +kernel
theorem dX6_cell_13 : decode cX6_cell 13 = .ok (.goto 5, 3) := by decide +kernel
theorem dX6_cell_16 : decode cX6_cell 16 = .ok (.bipush (-9), 2) := by decide +kernel
theorem dX6_cell_18 : decode cX6_cell 18 = .ok (.ireturn, 1) := by decide +kernel
theorem dX6_put_0 : decode cX6_put 0 = .ok (.iload_n 1, 1) := by decide +kernel
theorem dX6_put_1 : decode cX6_put 1 = .ok (.ifCond .lt 13, 3) := by decide +kernel
theorem dX6_put_4 : decode cX6_put 4 = .ok (.iload_n 1, 1) := by decide +kernel
theorem dX6_put_5 : decode cX6_put 5 = .ok (.aload_n 0, 1) := by decide +kernel
theorem dX6_put_6 : decode cX6_put 6 = .ok (.arraylength, 1) := by decide +kernel
theorem dX6_put_7 : decode cX6_put 7 = .ok (.if_icmp .ge 7, 3) := by decide +kernel
theorem dX6_put_10 : decode cX6_put 10 = .ok (.aload_n 0, 1) := by decide +kernel
theorem dX6_put_11 : decode cX6_put 11 = .ok (.iload_n 1, 1) := by decide +kernel
theorem dX6_put_12 : decode cX6_put 12 = .ok (.iload_n 2, 1) := by decide +kernel
theorem dX6_put_13 : decode cX6_put 13 = .ok (.iastore, 1) := by decide +kernel
theorem dX6_put_14 : decode cX6_put 14 = .ok (.return_, 1) := by decide +kernel
theorem dX7_init_0 : decode cX7_init 0 = .ok (.aload_n 0, 1) := by decide +kernel
theorem dX7_init_1 : decode cX7_init 1 = .ok (.invokespecial 1, 3) := by decide +kernel
theorem dX7_init_4 : decode cX7_init 4 = .ok (.aload_n 0, 1) := by decide +kernel
theorem dX7_init_5 : decode cX7_init 5 = .ok (.bipush 6, 2) := by decide +kernel
theorem dX7_init_7 : decode cX7_init 7 = .ok (.newarray .int, 2) := by decide +kernel
theorem dX7_init_9 : decode cX7_init 9 = .ok (.putfield 7, 3) := by decide +kernel
theorem dX7_init_12 : decode cX7_init 12 = .ok (.aload_n 0, 1) := by decide +kernel
theorem dX7_init_13 : decode cX7_init 13 = .ok (.bipush 6, 2) := by decide +kernel
theorem dX7_init_15 : decode cX7_init 15 = .ok (.newarray .int, 2) := by decide +kernel
theorem dX7_init_17 : decode cX7_init 17 = .ok (.putfield 13, 3) := by decide +kernel
theorem dX7_init_20 : decode cX7_init 20 = .ok (.aload_n 0, 1) := by decide +kernel
theorem dX7_init_21 : decode cX7_init 21 = .ok (.bipush 16, 2) := by decide +kernel
theorem dX7_init_23 : decode cX7_init 23 = .ok (.newarray .int, 2) := by decide +kernel
theorem dX7_init_25 : decode cX7_init 25 = .ok (.putfield 16, 3) := by decide +kernel
theorem dX7_init_28 : decode cX7_init 28 = .ok (.aload_n 0, 1) := by decide +kernel
theorem dX7_init_29 : decode cX7_init 29 = .ok (.iconst 4, 1) := by decide +kernel
theorem dX7_init_30 : decode cX7_init 30 = .ok (.newarray .int, 2) := by decide +kernel
theorem dX7_init_32 : decode cX7_init 32 = .ok (.putfield 19, 3) := by decide +kernel
theorem dX7_init_35 : decode cX7_init 35 = .ok (.aload_n 0, 1) := by decide +kernel
theorem dX7_init_36 : decode cX7_init 36 = .ok (.iconst 4, 1) := by decide +kernel
theorem dX7_init_37 : decode cX7_init 37 = .ok (.newarray .int, 2) := by decide +kernel
theorem dX7_init_39 : decode cX7_init 39 = .ok (.putfield 22, 3) := by decide +kernel
theorem dX7_init_42 : decode cX7_init 42 = .ok (.aload_n 0, 1) := by decide +kernel
theorem dX7_init_43 : decode cX7_init 43 = .ok (.iconst 4, 1) := by decide +kernel
theorem dX7_init_44 : decode cX7_init 44 = .ok (.newarray .int, 2) := by decide +kernel
theorem dX7_init_46 : decode cX7_init 46 = .ok (.putfield 25, 3) := by decide +kernel
theorem dX7_init_49 : decode cX7_init 49 = .ok (.aload_n 0, 1) := by decide +kernel
theorem dX7_init_50 : decode cX7_init 50 = .ok (.bipush 38, 2) := by decide +kernel
theorem dX7_init_52 : decode cX7_init 52 = .ok (.newarray .int, 2) := by decide +kernel
theorem dX7_init_54 : decode cX7_init 54 = .ok (.putfield 28, 3) := by decide +kernel
theorem dX7_init_57 : decode cX7_init 57 = .ok (.aload_n 0, 1) := by decide +kernel
theorem dX7_init_58 : decode cX7_init 58 = .ok (.bipush 12, 2) := by decide +kernel
theorem dX7_init_60 : decode cX7_init 60 = .ok (.newarray .int, 2) := by decide +kernel
theorem dX7_init_62 : decode cX7_init 62 = .ok (.putfield 31, 3) := by decide +kernel
theorem dX7_init_65 : decode cX7_init 65 = .ok (.aload_n 0, 1) := by decide +kernel
theorem dX7_init_66 : decode cX7_init 66 = .ok (.bipush 16, 2) := by decide +kernel
theorem dX7_init_68 : decode cX7_init 68 = .ok (.newarray .int, 2) := by decide +kernel
theorem dX7_init_70 : decode cX7_init 70 = .ok (.putfield 34, 3) := by decide +kernel
theorem dX7_init_73 : decode cX7_init 73 = .ok (.aload_n 0, 1) := by decide +kernel
theorem dX7_init_74 : decode cX7_init 74 = .ok (.bipush 16, 2) := by decide +kernel
theorem dX7_init_76 : decode cX7_init 76 = .ok (.newarray .int, 2) := by decide +kernel
theorem dX7_init_78 : decode cX7_init 78 = .ok (.putfield 37, 3) := by decide +kernel
theorem dX7_init_81 : decode cX7_init 81 = .ok (.aload_n 0, 1) := by decide +kernel
theorem dX7_init_82 : decode cX7_init 82 = .ok (.bipush 6, 2) := by decide +kernel
theorem dX7_init_84 : decode cX7_init 84 = .ok (.newarray .int, 2) := by decide +kernel
theorem dX7_init_86 : decode cX7_init 86 = .ok (.putfield 40, 3) := by decide +kernel
theorem dX7_init_89 : decode cX7_init 89 = .ok (.aload_n 0, 1) := by decide +kernel
theorem dX7_init_90 : decode cX7_init 90 = .ok (.bipush 60, 2) := by decide +kernel
theorem dX7_init_92 : decode cX7_init 92 = .ok (.newarray .int, 2) := by decide +kernel
theorem dX7_init_94 : decode cX7_init 94 = .ok (.putfield 43, 3) := by decide +kernel
theorem dX7_init_97 : decode cX7_init 97 = .ok (.aload_n 0, 1) := by decide +kernel
theorem dX7_init_98 : decode cX7_init 98 = .ok (.sipush 266, 3) := by decide +kernel
theorem dX7_init_101 : decode cX7_init 101 = .ok (.newarray .int, 2) := by decide +kernel
theorem dX7_init_103 : decode cX7_init 103 = .ok (.putfield 46, 3) := by decide +kernel
theorem dX7_init_106 : decode cX7_init 106 = .ok (.aload_n 0, 1) := by decide +kernel
theorem dX7_init_107 : decode cX7_init 107 = .ok (.iconst 4, 1) := by decide +kernel
theorem dX7_init_108 : decode cX7_init 108 = .ok (.newarray .int, 2) := by decide +kernel
theorem dX7_init_110 : decode cX7_init 110 = .ok (.putfield 49, 3) := by decide +kernel
theorem dX7_init_113 : decode cX7_init 113 = .ok (.aload_n 0, 1) := by decide +kernel
theorem dX7_init_114 : decode cX7_init 114 = .ok (.bipush 6, 2) := by decide +kernel
theorem dX7_init_116 : decode cX7_init 116 = .ok (.newarray .int, 2) := by decide +kernel
theorem dX7_init_118 : decode cX7_init 118 = .ok (.putfield 52, 3) := by decide +kernel
theorem dX7_init_121 : decode cX7_init 121 = .ok (.aload_n 0, 1) := by decide +kernel
theorem dX7_init_122 : decode cX7_init 122 = .ok (.bipush 6, 2) := by decide +kernel
theorem dX7_init_124 : decode cX7_init 124 = .ok (.newarray .int, 2) := by decide +kernel
theorem dX7_init_126 : decode cX7_init 126 = .ok (.putfield 55, 3) := by decide +kernel
theorem dX7_init_129 : decode cX7_init 129 = .ok (.aload_n 0, 1) := by decide +kernel
theorem dX7_init_130 : decode cX7_init 130 = .ok (.bipush 6, 2) := by decide +kernel
theorem dX7_init_132 : decode cX7_init 132 = .ok (.newarray .int, 2) := by decide +kernel
theorem dX7_init_134 : decode cX7_init 134 = .ok (.putfield 58, 3) := by decide +kernel
theorem dX7_init_137 : decode cX7_init 137 = .ok (.aload_n 0, 1) := by decide +kernel
theorem dX7_init_138 : decode cX7_init 138 = .ok (.iconst 2, 1) := by decide +kernel
theorem dX7_init_139 : decode cX7_init 139 = .ok (.newarray .boolean, 2) := by decide +kernel
theorem dX7_init_141 : decode cX7_init 141 = .ok (.putfield 61, 3) := by decide +kernel
theorem dX7_init_144 : decode cX7_init 144 = .ok (.aload_n 0, 1) := by decide +kernel
theorem dX7_init_145 : decode cX7_init 145 = .ok (.bipush 38, 2) := by decide +kernel
theorem dX7_init_147 : decode cX7_init 147 = .ok (.newarray .int, 2) := by decide +kernel
theorem dX7_init_149 : decode cX7_init 149 = .ok (.putfield 65, 3) := by decide +kernel
theorem dX7_init_152 : decode cX7_init 152 = .ok (.aload_n 0, 1) := by decide +kernel
theorem dX7_init_153 : decode cX7_init 153 = .ok (.bipush 15, 2) := by decide +kernel
theorem dX7_init_155 : decode cX7_init 155 = .ok (.putfield 68, 3) := by decide +kernel
theorem dX7_init_158 : decode cX7_init 158 = .ok (.aload_n 0, 1) := by decide +kernel
theorem dX7_init_159 : decode cX7_init 159 = .ok (.bipush (-9), 2) := by decide +kernel
theorem dX7_init_161 : decode cX7_init 161 = .ok (.putfield 72, 3) := by decide +kernel
theorem dX7_init_164 : decode cX7_init 164 = .ok (.return_, 1) := by decide +kernel
theorem dX7_in_0 : decode cX7_in 0 = .ok (.lload_n 0, 1) := by decide +kernel
theorem dX7_in_1 : decode cX7_in 1 = .ok (.lload_n 2, 1) := by decide +kernel
theorem dX7_in_2 : decode cX7_in 2 = .ok (.lcmp, 1) := by decide +kernel
theorem dX7_in_3 : decode cX7_in 3 = .ok (.ifCond .lt 14, 3) := by decide +kernel
theorem dX7_in_6 : decode cX7_in 6 = .ok (.lload_n 0, 1) := by decide +kernel
theorem dX7_in_7 : decode cX7_in 7 = .ok (.lload 4, 2) := by decide +kernel
theorem dX7_in_9 : decode cX7_in 9 = .ok (.lcmp, 1) := by decide +kernel
theorem dX7_in_10 : decode cX7_in 10 = .ok (.ifCond .gt 7, 3) := by decide +kernel
theorem dX7_in_13 : decode cX7_in 13 = .ok (.iconst 1, 1) := by decide +kernel
theorem dX7_in_14 : decode cX7_in 14 = .ok (.goto 4, 3) := by decide +kernel
theorem dX7_in_17 : decode cX7_in 17 = .ok (.iconst 0, 1) := by decide +kernel
theorem dX7_in_18 : decode cX7_in 18 = .ok (.ireturn, 1) := by decide +kernel
theorem dX7_has_0 : decode cX7_has 0 = .ok (.iload_n 0, 1) := by decide +kernel
theorem dX7_has_1 : decode cX7_has 1 = .ok (.iload_n 1, 1) := by decide +kernel
theorem dX7_has_2 : decode cX7_has 2 = .ok (.ishr, 1) := by decide +kernel
theorem dX7_has_3 : decode cX7_has 3 = .ok (.iconst 1, 1) := by decide +kernel
theorem dX7_has_4 : decode cX7_has 4 = .ok (.iand, 1) := by decide +kernel
theorem dX7_has_5 : decode cX7_has 5 = .ok (.iconst 1, 1) := by decide +kernel
theorem dX7_has_6 : decode cX7_has 6 = .ok (.if_icmp .ne 7, 3) := by decide +kernel
theorem dX7_has_9 : decode cX7_has 9 = .ok (.iconst 1, 1) := by decide +kernel
theorem dX7_has_10 : decode cX7_has 10 = .ok (.goto 4, 3) := by decide +kernel
theorem dX7_has_13 : decode cX7_has 13 = .ok (.iconst 0, 1) := by decide +kernel
theorem dX7_has_14 : decode cX7_has 14 = .ok (.ireturn, 1) := by decide +kernel
theorem dX7_ones_0 : decode cX7_ones 0 = .ok (.iconst 0, 1) := by decide +kernel
theorem dX7_ones_1 : decode cX7_ones 1 = .ok (.istore_n 1, 1) := by decide +kernel
theorem dX7_ones_2 : decode cX7_ones 2 = .ok (.iconst 0, 1) := by decide +kernel
theorem dX7_ones_3 : decode cX7_ones 3 = .ok (.istore_n 2, 1) := by decide +kernel
theorem dX7_ones_4 : decode cX7_ones 4 = .ok (.iload_n 2, 1) := by decide +kernel
theorem dX7_ones_5 : decode cX7_ones 5 = .ok (.bipush 8, 2) := by decide +kernel
theorem dX7_ones_7 : decode cX7_ones 7 = .ok (.if_icmp .ge 17, 3) := by decide +kernel
theorem dX7_ones_10 : decode cX7_ones 10 = .ok (.iload_n 1, 1) := by decide +kernel
theorem dX7_ones_11 : decode cX7_ones 11 = .ok (.iload_n 0, 1) := by decide +kernel
theorem dX7_ones_12 : decode cX7_ones 12 = .ok (.iload_n 2, 1) := by decide +kernel
theorem dX7_ones_13 : decode cX7_ones 13 = .ok (.ishr, 1) := by decide +kernel
theorem dX7_ones_14 : decode cX7_ones 14 = .ok (.iconst 1, 1) := by decide +kernel
theorem dX7_ones_15 : decode cX7_ones 15 = .ok (.iand, 1) := by decide +kernel
theorem dX7_ones_16 : decode cX7_ones 16 = .ok (.iadd, 1) := by decide +kernel
theorem dX7_ones_17 : decode cX7_ones 17 = .ok (.istore_n 1, 1) := by decide +kernel
theorem dX7_ones_18 : decode cX7_ones 18 = .ok (.iinc 2 1, 3) := by decide +kernel
theorem dX7_ones_21 : decode cX7_ones 21 = .ok (.goto (-17), 3) := by decide +kernel
theorem dX7_ones_24 : decode cX7_ones 24 = .ok (.iload_n 1, 1) := by decide +kernel
theorem dX7_ones_25 : decode cX7_ones 25 = .ok (.ireturn, 1) := by decide +kernel
set_option maxRecDepth 20000 in
theorem ggX7_write_X7_in : GoodIn wsX7_write wsX7_in := goodIn_r _ [7] (by decide +kernel) (by decide +kernel)
set_option maxRecDepth 20000 in
theorem gX7_write_X7_in : GoodIn wsX7_write (va_wsS RX7 77 yX7_in wsX7_in) := goodIn_app (goodIn_of _ (by decide +kernel)) ggX7_write_X7_in
theorem dX7_write_0 : decode cX7_write 0 = .ok (.iload_n 1, 1) := by decide +kernel
theorem dX7_write_1 : decode cX7_write 1 = .ok (.i2l, 1) := by decide +kernel
theorem dX7_write_2 : decode cX7_write 2 = .ok (.lconst 0, 1) := by decide +kernel
theorem dX7_write_3 : decode cX7_write 3 = .ok (.ldc2_w 75, 3) := by decide +kernel
theorem dX7_write_6 : decode cX7_write 6 = .ok (.invokestatic 77, 3) := by decide +kernel
theorem dX7_write_9 : decode cX7_write 9 = .ok (.ifCond .ne 6, 3) := by decide +kernel
theorem dX7_write_12 : decode cX7_write 12 = .ok (.bipush (-2), 2) := by decide +kernel
theorem dX7_write_14 : decode cX7_write 14 = .ok (.ireturn, 1) := by decide +kernel
theorem dX7_write_15 : decode cX7_write 15 = .ok (.aload_n 0, 1) := by decide +kernel
theorem dX7_write_16 : decode cX7_write 16 = .ok (.getfield 81, 3) := by decide +kernel
theorem dX7_write_19 : decode cX7_write 19 = .ok (.bipush 60, 2) := by decide +kernel
theorem dX7_write_21 : decode cX7_write 21 = .ok (.if_icmp .ne 6, 3) := by decide +kernel
theorem dX7_write_24 : decode cX7_write 24 = .ok (.bipush (-4), 2) := by decide +kernel
theorem dX7_write_26 : decode cX7_write 26 = .ok (.ireturn, 1) := by decide +kernel
theorem dX7_write_27 : decode cX7_write 27 = .ok (.aload_n 0, 1) := by decide +kernel
theorem dX7_write_28 : decode cX7_write 28 = .ok (.getfield 43, 3) := by decide +kernel
theorem dX7_write_31 : decode cX7_write 31 = .ok (.aload_n 0, 1) := by decide +kernel
theorem dX7_write_32 : decode cX7_write 32 = .ok (.getfield 81, 3) := by decide +kernel
theorem dX7_write_35 : decode cX7_write 35 = .ok (.iload_n 1, 1) := by decide +kernel
theorem dX7_write_36 : decode cX7_write 36 = .ok (.iastore, 1) := by decide +kernel
theorem dX7_write_37 : decode cX7_write 37 = .ok (.aload_n 0, 1) := by decide +kernel
theorem dX7_write_38 : decode cX7_write 38 = .ok (.dup, 1) := by decide +kernel
theorem dX7_write_39 : decode cX7_write 39 = .ok (.getfield 81, 3) := by decide +kernel
theorem dX7_write_42 : decode cX7_write 42 = .ok (.iconst 1, 1) := by decide +kernel
theorem dX7_write_43 : decode cX7_write 43 = .ok (.iadd, 1) := by decide +kernel
theorem dX7_write_44 : decode cX7_write 44 = .ok (.putfield 81, 3) := by decide +kernel
theorem dX7_write_47 : decode cX7_write 47 = .ok (.aload_n 0, 1) := by decide +kernel
theorem dX7_write_48 : decode cX7_write 48 = .ok (.getfield 81, 3) := by decide +kernel
theorem dX7_write_51 : decode cX7_write 51 = .ok (.ireturn, 1) := by decide +kernel
theorem dX7_wipe_0 : decode cX7_wipe 0 = .ok (.aload_n 0, 1) := by decide +kernel
theorem dX7_wipe_1 : decode cX7_wipe 1 = .ok (.getfield 81, 3) := by decide +kernel
theorem dX7_wipe_4 : decode cX7_wipe 4 = .ok (.istore_n 1, 1) := by decide +kernel
theorem dX7_wipe_5 : decode cX7_wipe 5 = .ok (.aload_n 0, 1) := by decide +kernel
theorem dX7_wipe_6 : decode cX7_wipe 6 = .ok (.iconst 0, 1) := by decide +kernel
theorem dX7_wipe_7 : decode cX7_wipe 7 = .ok (.putfield 81, 3) := by decide +kernel
theorem dX7_wipe_10 : decode cX7_wipe 10 = .ok (.iload_n 1, 1) := by decide +kernel
theorem dX7_wipe_11 : decode cX7_wipe 11 = .ok (.ireturn, 1) := by decide +kernel
set_option maxRecDepth 20000 in
theorem ggX7_figureOf_X7_in : GoodIn wsX7_figureOf wsX7_in := goodIn_r _ [9] (by decide +kernel) (by decide +kernel)
set_option maxRecDepth 20000 in
theorem gX7_figureOf_X7_in : GoodIn wsX7_figureOf (va_wsS RX7 77 yX7_in wsX7_in) := goodIn_app (goodIn_of _ (by decide +kernel)) ggX7_figureOf_X7_in
set_option maxRecDepth 20000 in
theorem ggX7_figureOf_X7_has : GoodIn wsX7_figureOf wsX7_has := goodIn_r _ [12] (by decide +kernel) (by decide +kernel)
set_option maxRecDepth 20000 in
theorem gX7_figureOf_X7_has : GoodIn wsX7_figureOf (va_wsS RX7 92 yX7_has wsX7_has) := goodIn_app (goodIn_of _ (by decide +kernel)) ggX7_figureOf_X7_has
theorem dX7_figureOf_0 : decode cX7_figureOf 0 = .ok (.aload_n 0, 1) := by decide +kernel
theorem dX7_figureOf_1 : decode cX7_figureOf 1 = .ok (.getfield 84, 3) := by decide +kernel
theorem dX7_figureOf_4 : decode cX7_figureOf 4 = .ok (.bipush (-9), 2) := by decide +kernel
theorem dX7_figureOf_6 : decode cX7_figureOf 6 = .ok (.if_icmp .ne 29, 3) := by decide +kernel
theorem dX7_figureOf_9 : decode cX7_figureOf 9 = .ok (.aload_n 0, 1) := by decide +kernel
theorem dX7_figureOf_10 : decode cX7_figureOf 10 = .ok (.getfield 87, 3) := by decide +kernel
theorem dX7_figureOf_13 : decode cX7_figureOf 13 = .ok (.aload_n 0, 1) := by decide +kernel
theorem dX7_figureOf_14 : decode cX7_figureOf 14 = .ok (.getfield 81, 3) := by decide +kernel
theorem dX7_figureOf_17 : decode cX7_figureOf 17 = .ok (.if_icmp .ge 18, 3) := by decide +kernel
theorem dX7_figureOf_20 : decode cX7_figureOf 20 = .ok (.aload_n 0, 1) := by decide +kernel
theorem dX7_figureOf_21 : decode cX7_figureOf 21 = .ok (.getfield 43, 3) := by decide +kernel
theorem dX7_figureOf_24 : decode cX7_figureOf 24 = .ok (.aload_n 0, 1) := by decide +kernel
theorem dX7_figureOf_25 : decode cX7_figureOf 25 = .ok (.getfield 87, 3) := by decide +kernel
theorem dX7_figureOf_28 : decode cX7_figureOf 28 = .ok (.iaload, 1) := by decide +kernel
theorem dX7_figureOf_29 : decode cX7_figureOf 29 = .ok (.bipush 48, 2) := by decide +kernel
theorem dX7_figureOf_31 : decode cX7_figureOf 31 = .ok (.isub, 1) := by decide +kernel
theorem dX7_figureOf_32 : decode cX7_figureOf 32 = .ok (.goto 5, 3) := by decide +kernel
theorem dX7_figureOf_35 : decode cX7_figureOf 35 = .ok (.bipush (-9), 2) := by decide +kernel
theorem dX7_figureOf_37 : decode cX7_figureOf 37 = .ok (.istore_n 2, 1) := by decide +kernel
theorem dX7_figureOf_38 : decode cX7_figureOf 38 = .ok (.iload_n 2, 1) := by decide +kernel
theorem dX7_figureOf_39 : decode cX7_figureOf 39 = .ok (.i2l, 1) := by decide +kernel
theorem dX7_figureOf_40 : decode cX7_figureOf 40 = .ok (.lconst 0, 1) := by decide +kernel
theorem dX7_figureOf_41 : decode cX7_figureOf 41 = .ok (.ldc2_w 90, 3) := by decide +kernel
theorem dX7_figureOf_44 : decode cX7_figureOf 44 = .ok (.invokestatic 77, 3) := by decide +kernel
theorem dX7_figureOf_47 : decode cX7_figureOf 47 = .ok (.ifCond .eq 11, 3) := by decide +kernel
theorem dX7_figureOf_50 : decode cX7_figureOf 50 = .ok (.iload_n 1, 1) := by decide +kernel
theorem dX7_figureOf_51 : decode cX7_figureOf 51 = .ok (.iload_n 2, 1) := by decide +kernel
theorem dX7_figureOf_52 : decode cX7_figureOf 52 = .ok (.invokestatic 92, 3) := by decide +kernel
theorem dX7_figureOf_55 : decode cX7_figureOf 55 = .ok (.ifCond .ne 29, 3) := by decide +kernel
theorem dX7_figureOf_58 : decode cX7_figureOf 58 = .ok (.aload_n 0, 1) := by decide +kernel
theorem dX7_figureOf_59 : decode cX7_figureOf 59 = .ok (.aload_n 0, 1) := by decide +kernel
theorem dX7_figureOf_60 : decode cX7_figureOf 60 = .ok (.getfield 84, 3) := by decide +kernel
theorem dX7_figureOf_63 : decode cX7_figureOf 63 = .ok (.bipush (-9), 2) := by decide +kernel
theorem dX7_figureOf_65 : decode cX7_figureOf 65 = .ok (.if_icmp .ne 10, 3) := by decide +kernel
theorem dX7_figureOf_68 : decode cX7_figureOf 68 = .ok (.aload_n 0, 1) := by decide +kernel
theorem dX7_figureOf_69 : decode cX7_figureOf 69 = .ok (.getfield 87, 3) := by decide +kernel
theorem dX7_figureOf_72 : decode cX7_figureOf 72 = .ok (.goto 7, 3) := by decide +kernel
theorem dX7_figureOf_75 : decode cX7_figureOf 75 = .ok (.aload_n 0, 1) := by decide +kernel
theorem dX7_figureOf_76 : decode cX7_figureOf 76 = .ok (.getfield 84, 3) := by decide +kernel
theorem dX7_figureOf_79 : decode cX7_figureOf 79 = .ok (.putfield 84, 3) := by decide +kernel
theorem dX7_figureOf_82 : decode cX7_figureOf 82 = .ok (.iconst 0, 1) := by decide +kernel
theorem dX7_figureOf_83 : decode cX7_figureOf 83 = .ok (.ireturn, 1) := by decide +kernel
theorem dX7_figureOf_84 : decode cX7_figureOf 84 = .ok (.aload_n 0, 1) := by decide +kernel
theorem dX7_figureOf_85 : decode cX7_figureOf 85 = .ok (.dup, 1) := by decide +kernel
theorem dX7_figureOf_86 : decode cX7_figureOf 86 = .ok (.getfield 87, 3) := by decide +kernel
theorem dX7_figureOf_89 : decode cX7_figureOf 89 = .ok (.iconst 1, 1) := by decide +kernel
theorem dX7_figureOf_90 : decode cX7_figureOf 90 = .ok (.iadd, 1) := by decide +kernel
theorem dX7_figureOf_91 : decode cX7_figureOf 91 = .ok (.putfield 87, 3) := by decide +kernel
theorem dX7_figureOf_94 : decode cX7_figureOf 94 = .ok (.iload_n 2, 1) := by decide +kernel
theorem dX7_figureOf_95 : decode cX7_figureOf 95 = .ok (.ireturn, 1) := by decide +kernel
theorem dX7_left_0 : decode cX7_left 0 = .ok (.iconst 1, 1) := by decide +kernel
theorem dX7_left_1 : decode cX7_left 1 = .ok (.aload_n 0, 1) := by decide +kernel
theorem dX7_left_2 : decode cX7_left 2 = .ok (.getfield 96, 3) := by decide +kernel
theorem dX7_left_5 : decode cX7_left 5 = .ok (.ishl, 1) := by decide +kernel
theorem dX7_left_6 : decode cX7_left 6 = .ok (.iconst 1, 1) := by decide +kernel
theorem dX7_left_7 : decode cX7_left 7 = .ok (.isub, 1) := by decide +kernel
theorem dX7_left_8 : decode cX7_left 8 = .ok (.aload_n 0, 1) := by decide +kernel
theorem dX7_left_9 : decode cX7_left 9 = .ok (.getfield 40, 3) := by decide +kernel
theorem dX7_left_12 : decode cX7_left 12 = .ok (.iload_n 1, 1) := by decide +kernel
theorem dX7_left_13 : decode cX7_left 13 = .ok (.iaload, 1) := by decide +kernel
theorem dX7_left_14 : decode cX7_left 14 = .ok (.iconst (-1), 1) := by decide +kernel
theorem dX7_left_15 : decode cX7_left 15 = .ok (.ixor, 1) := by decide +kernel
theorem dX7_left_16 : decode cX7_left 16 = .ok (.iand, 1) := by decide +kernel
theorem dX7_left_17 : decode cX7_left 17 = .ok (.iconst 1, 1) := by decide +kernel
theorem dX7_left_18 : decode cX7_left 18 = .ok (.iload_n 1, 1) := by decide +kernel
theorem dX7_left_19 : decode cX7_left 19 = .ok (.ishl, 1) := by decide +kernel
theorem dX7_left_20 : decode cX7_left 20 = .ok (.iconst (-1), 1) := by decide +kernel
theorem dX7_left_21 : decode cX7_left 21 = .ok (.ixor, 1) := by decide +kernel
theorem dX7_left_22 : decode cX7_left 22 = .ok (.iand, 1) := by decide +kernel
theorem dX7_left_23 : decode cX7_left 23 = .ok (.ireturn, 1) := by decide +kernel
set_option maxRecDepth 20000 in
theorem ggX7_firstsLeft_X7_left : GoodIn wsX7_firstsLeft wsX7_left := goodIn_r _ [6, 1, 7, 8, 9, 10, 11, 12, 13, 14, 15, 16, 17, 18, 19, 20, 21, 22, 23, 24, 25, 26, 27, 28, 29, 30, 31, 32, 33, 34, 35, 36, 37, 38, 39, 40, 41, 42, 43, 44] (by decide +kernel) (by decide +kernel)
set_option maxRecDepth 20000 in
theorem gX7_firstsLeft_X7_left : GoodIn wsX7_firstsLeft (wsV RX7 99 RX7 yX7_left wsX7_left) := goodIn_app (goodIn_of _ (by decide +kernel)) ggX7_firstsLeft_X7_left
theorem dX7_firstsLeft_0 : decode cX7_firstsLeft 0 = .ok (.iconst 0, 1) := by decide +kernel
theorem dX7_firstsLeft_1 : decode cX7_firstsLeft 1 = .ok (.istore_n 1, 1) := by decide +kernel
theorem dX7_firstsLeft_2 : decode cX7_firstsLeft 2 = .ok (.iconst 0, 1) := by decide +kernel
theorem dX7_firstsLeft_3 : decode cX7_firstsLeft 3 = .ok (.istore_n 2, 1) := by decide +kernel
theorem dX7_firstsLeft_4 : decode cX7_firstsLeft 4 = .ok (.iload_n 2, 1) := by decide +kernel
theorem dX7_firstsLeft_5 : decode cX7_firstsLeft 5 = .ok (.aload_n 0, 1) := by decide +kernel
theorem dX7_firstsLeft_6 : decode cX7_firstsLeft 6 = .ok (.getfield 96, 3) := by decide +kernel
theorem dX7_firstsLeft_9 : decode cX7_firstsLeft 9 = .ok (.if_icmp .ge 27, 3) := by decide +kernel
theorem dX7_firstsLeft_12 : decode cX7_firstsLeft 12 = .ok (.iload_n 1, 1) := by decide +kernel
theorem dX7_firstsLeft_13 : decode cX7_firstsLeft 13 = .ok (.aload_n 0, 1) := by decide +kernel
theorem dX7_firstsLeft_14 : decode cX7_firstsLeft 14 = .ok (.iload_n 2, 1) := by decide +kernel
theorem dX7_firstsLeft_15 : decode cX7_firstsLeft 15 = .ok (.invokevirtual 99, 3) := by decide +kernel
theorem dX7_firstsLeft_18 : decode cX7_firstsLeft 18 = .ok (.ifCond .eq 9, 3) := by decide +kernel
theorem dX7_firstsLeft_21 : decode cX7_firstsLeft 21 = .ok (.iconst 1, 1) := by decide +kernel
theorem dX7_firstsLeft_22 : decode cX7_firstsLeft 22 = .ok (.iload_n 2, 1) := by decide +kernel
theorem dX7_firstsLeft_23 : decode cX7_firstsLeft 23 = .ok (.ishl, 1) := by decide +kernel
theorem dX7_firstsLeft_24 : decode cX7_firstsLeft 24 = .ok (.goto 4, 3) := by decide +kernel
theorem dX7_firstsLeft_27 : decode cX7_firstsLeft 27 = .ok (.iconst 0, 1) := by decide +kernel
theorem dX7_firstsLeft_28 : decode cX7_firstsLeft 28 = .ok (.ior, 1) := by decide +kernel
theorem dX7_firstsLeft_29 : decode cX7_firstsLeft 29 = .ok (.istore_n 1, 1) := by decide +kernel
theorem dX7_firstsLeft_30 : decode cX7_firstsLeft 30 = .ok (.iinc 2 1, 3) := by decide +kernel
theorem dX7_firstsLeft_33 : decode cX7_firstsLeft 33 = .ok (.goto (-29), 3) := by decide +kernel
theorem dX7_firstsLeft_36 : decode cX7_firstsLeft 36 = .ok (.iload_n 1, 1) := by decide +kernel
theorem dX7_firstsLeft_37 : decode cX7_firstsLeft 37 = .ok (.ireturn, 1) := by decide +kernel
set_option maxRecDepth 20000 in
theorem ggX7_readText_X7_figureOf : GoodIn wsX7_readText wsX7_figureOf := goodIn_r _ [13, 2, 1, 7, 8, 14, 15, 16, 12, 17, 18, 19, 20, 36, 37, 38, 39, 40, 41, 42, 43, 44, 45, 46, 47, 48, 49, 50, 51, 52, 53, 54, 55, 56, 57, 58, 59, 60, 61, 62, 63, 64, 65, 66, 67, 68, 69, 70, 71, 72] (by decide +kernel) (by decide +kernel)
set_option maxRecDepth 20000 in
theorem gX7_readText_X7_figureOf : GoodIn wsX7_readText (wsV RX7 109 RX7 yX7_figureOf wsX7_figureOf) := goodIn_app (goodIn_of _ (by decide +kernel)) ggX7_readText_X7_figureOf
set_option maxRecDepth 20000 in
theorem ggX7_readText_X7_readPart : GoodIn wsX7_readText wsX7_readPart := goodIn_r _ [24, 3, 1, 25, 4, 6, 2, 26, 5, 27, 9, 10, 11, 12, 13, 7, 8, 14, 15, 16, 17, 18, 19, 20, 28, 29, 30, 31, 32, 33, 34, 35, 36, 37, 38, 39, 40, 41, 42, 43, 44, 45, 46, 47, 48, 49, 50, 51, 52, 53, 54, 55, 56, 57, 58, 59, 60, 61, 62, 63, 64, 65, 66, 67, 68, 69, 70, 71, 72] (by decide +kernel) (by decide +kernel)
set_option maxRecDepth 20000 in
theorem gX7_readText_X7_readPart : GoodIn wsX7_readText (wsV RX7 112 RX7 yX7_readPart wsX7_readPart) := goodIn_app (goodIn_of _ (by decide +kernel)) ggX7_readText_X7_readPart
theorem dX7_readText_0 : decode cX7_readText 0 = .ok (.aload_n 0, 1) := by decide +kernel
theorem dX7_readText_1 : decode cX7_readText 1 = .ok (.iconst 0, 1) := by decide +kernel
theorem dX7_readText_2 : decode cX7_readText 2 = .ok (.putfield 87, 3) := by decide +kernel
theorem dX7_readText_5 : decode cX7_readText 5 = .ok (.aload_n 0, 1) := by decide +kernel
theorem dX7_readText_6 : decode cX7_readText 6 = .ok (.bipush (-9), 2) := by decide +kernel
theorem dX7_readText_8 : decode cX7_readText 8 = .ok (.putfield 84, 3) := by decide +kernel
theorem dX7_readText_11 : decode cX7_readText 11 = .ok (.aload_n 0, 1) := by decide +kernel
theorem dX7_readText_12 : decode cX7_readText 12 = .ok (.iconst 0, 1) := by decide +kernel
theorem dX7_readText_13 : decode cX7_readText 13 = .ok (.putfield 96, 3) := by decide +kernel
theorem dX7_readText_16 : decode cX7_readText 16 = .ok (.aload_n 0, 1) := by decide +kernel
theorem dX7_readText_17 : decode cX7_readText 17 = .ok (.iconst 0, 1) := by decide +kernel
theorem dX7_readText_18 : decode cX7_readText 18 = .ok (.putfield 103, 3) := by decide +kernel
theorem dX7_readText_21 : decode cX7_readText 21 = .ok (.aload_n 0, 1) := by decide +kernel
theorem dX7_readText_22 : decode cX7_readText 22 = .ok (.iconst 0, 1) := by decide +kernel
theorem dX7_readText_23 : decode cX7_readText 23 = .ok (.putfield 106, 3) := by decide +kernel
theorem dX7_readText_26 : decode cX7_readText 26 = .ok (.iconst 0, 1) := by decide +kernel
theorem dX7_readText_27 : decode cX7_readText 27 = .ok (.istore_n 1, 1) := by decide +kernel
theorem dX7_readText_28 : decode cX7_readText 28 = .ok (.iload_n 1, 1) := by decide +kernel
theorem dX7_readText_29 : decode cX7_readText 29 = .ok (.bipush 6, 2) := by decide +kernel
theorem dX7_readText_31 : decode cX7_readText 31 = .ok (.if_icmp .ge 16, 3) := by decide +kernel
theorem dX7_readText_34 : decode cX7_readText 34 = .ok (.aload_n 0, 1) := by decide +kernel
theorem dX7_readText_35 : decode cX7_readText 35 = .ok (.getfield 40, 3) := by decide +kernel
theorem dX7_readText_38 : decode cX7_readText 38 = .ok (.iload_n 1, 1) := by decide +kernel
theorem dX7_readText_39 : decode cX7_readText 39 = .ok (.iconst 0, 1) := by decide +kernel
theorem dX7_readText_40 : decode cX7_readText 40 = .ok (.iastore, 1) := by decide +kernel
theorem dX7_readText_41 : decode cX7_readText 41 = .ok (.iinc 1 1, 3) := by decide +kernel
theorem dX7_readText_44 : decode cX7_readText 44 = .ok (.goto (-16), 3) := by decide +kernel
theorem dX7_readText_47 : decode cX7_readText 47 = .ok (.aload_n 0, 1) := by decide +kernel
theorem dX7_readText_48 : decode cX7_readText 48 = .ok (.getfield 81, 3) := by decide +kernel
theorem dX7_readText_51 : decode cX7_readText 51 = .ok (.ifCond .eq 14, 3) := by decide +kernel
theorem dX7_readText_54 : decode cX7_readText 54 = .ok (.aload_n 0, 1) := by decide +kernel
theorem dX7_readText_55 : decode cX7_readText 55 = .ok (.getfield 43, 3) := by decide +kernel
theorem dX7_readText_58 : decode cX7_readText 58 = .ok (.iconst 0, 1) := by decide +kernel
theorem dX7_readText_59 : decode cX7_readText 59 = .ok (.iaload, 1) := by decide +kernel
theorem dX7_readText_60 : decode cX7_readText 60 = .ok (.bipush 66, 2) := by decide +kernel
theorem dX7_readText_62 : decode cX7_readText 62 = .ok (.if_icmp .eq 5, 3) := by decide +kernel
theorem dX7_readText_65 : decode cX7_readText 65 = .ok (.iconst 0, 1) := by decide +kernel
theorem dX7_readText_66 : decode cX7_readText 66 = .ok (.ireturn, 1) := by decide +kernel
theorem dX7_readText_67 : decode cX7_readText 67 = .ok (.aload_n 0, 1) := by decide +kernel
theorem dX7_readText_68 : decode cX7_readText 68 = .ok (.iconst 1, 1) := by decide +kernel
theorem dX7_readText_69 : decode cX7_readText 69 = .ok (.putfield 87, 3) := by decide +kernel
theorem dX7_readText_72 : decode cX7_readText 72 = .ok (.aload_n 0, 1) := by decide +kernel
theorem dX7_readText_73 : decode cX7_readText 73 = .ok (.sipush 1023, 3) := by decide +kernel
theorem dX7_readText_76 : decode cX7_readText 76 = .ok (.invokevirtual 109, 3) := by decide +kernel
theorem dX7_readText_79 : decode cX7_readText 79 = .ok (.pop, 1) := by decide +kernel
theorem dX7_readText_80 : decode cX7_readText 80 = .ok (.aload_n 0, 1) := by decide +kernel
theorem dX7_readText_81 : decode cX7_readText 81 = .ok (.sipush 1023, 3) := by decide +kernel
theorem dX7_readText_84 : decode cX7_readText 84 = .ok (.invokevirtual 109, 3) := by decide +kernel
theorem dX7_readText_87 : decode cX7_readText 87 = .ok (.pop, 1) := by decide +kernel
theorem dX7_readText_88 : decode cX7_readText 88 = .ok (.aload_n 0, 1) := by decide +kernel
theorem dX7_readText_89 : decode cX7_readText 89 = .ok (.getfield 84, 3) := by decide +kernel
theorem dX7_readText_92 : decode cX7_readText 92 = .ok (.bipush (-9), 2) := by decide +kernel
theorem dX7_readText_94 : decode cX7_readText 94 = .ok (.if_icmp .ne 30, 3) := by decide +kernel
theorem dX7_readText_97 : decode cX7_readText 97 = .ok (.aload_n 0, 1) := by decide +kernel
theorem dX7_readText_98 : decode cX7_readText 98 = .ok (.getfield 87, 3) := by decide +kernel
theorem dX7_readText_101 : decode cX7_readText 101 = .ok (.aload_n 0, 1) := by decide +kernel
theorem dX7_readText_102 : decode cX7_readText 102 = .ok (.getfield 81, 3) := by decide +kernel
theorem dX7_readText_105 : decode cX7_readText 105 = .ok (.if_icmp .ge 19, 3) := by decide +kernel
theorem dX7_readText_108 : decode cX7_readText 108 = .ok (.aload_n 0, 1) := by decide +kernel
theorem dX7_readText_109 : decode cX7_readText 109 = .ok (.aload_n 0, 1) := by decide +kernel
theorem dX7_readText_110 : decode cX7_readText 110 = .ok (.getfield 43, 3) := by decide +kernel
theorem dX7_readText_113 : decode cX7_readText 113 = .ok (.aload_n 0, 1) := by decide +kernel
theorem dX7_readText_114 : decode cX7_readText 114 = .ok (.getfield 87, 3) := by decide +kernel
theorem dX7_readText_117 : decode cX7_readText 117 = .ok (.iaload, 1) := by decide +kernel
theorem dX7_readText_118 : decode cX7_readText 118 = .ok (.invokevirtual 112, 3) := by decide +kernel
theorem dX7_readText_121 : decode cX7_readText 121 = .ok (.goto (-33), 3) := by decide +kernel
theorem dX7_readText_124 : decode cX7_readText 124 = .ok (.aload_n 0, 1) := by decide +kernel
theorem dX7_readText_125 : decode cX7_readText 125 = .ok (.getfield 84, 3) := by decide +kernel
theorem dX7_readText_128 : decode cX7_readText 128 = .ok (.ireturn, 1) := by decide +kernel
set_option maxRecDepth 20000 in
theorem ggX7_readPart_X7_figureOf : GoodIn wsX7_readPart wsX7_figureOf := goodIn_r _ [14, 6, 2, 15, 16, 17, 18, 19, 13, 20, 21, 22, 23, 32, 33, 34, 35, 36, 37, 38, 39, 40, 41, 42, 43, 44, 45, 46, 47, 48, 49, 50, 51, 52, 53, 54, 55, 56, 57, 58, 59, 60, 61, 62, 63, 64, 65, 66, 67, 68] (by decide +kernel) (by decide +kernel)
set_option maxRecDepth 20000 in
theorem gX7_readPart_X7_figureOf : GoodIn wsX7_readPart (wsV RX7 109 RX7 yX7_figureOf wsX7_figureOf) := goodIn_app (goodIn_of _ (by decide +kernel)) ggX7_readPart_X7_figureOf
set_option maxRecDepth 20000 in
theorem ggX7_readPart_X7_firstsLeft : GoodIn wsX7_readPart wsX7_firstsLeft := goodIn_r _ [27, 1, 28, 29, 30, 13, 31, 5, 32, 33, 34, 35, 36, 37, 38, 39, 40, 41, 42, 43, 44, 45, 46, 47, 48, 49, 50, 51, 52, 53, 54, 55, 56, 57, 58, 59, 60, 61, 62, 63, 64, 65, 66, 67, 68] (by decide +kernel) (by decide +kernel)
set_option maxRecDepth 20000 in
theorem gX7_readPart_X7_firstsLeft : GoodIn wsX7_readPart (wsV RX7 116 RX7 yX7_firstsLeft wsX7_firstsLeft) := goodIn_app (goodIn_of _ (by decide +kernel)) ggX7_readPart_X7_firstsLeft
set_option maxRecDepth 20000 in
theorem ggX7_readPart_X7_left : GoodIn wsX7_readPart wsX7_left := goodIn_r _ [31, 1, 5, 32, 33, 34, 35, 36, 37, 38, 39, 40, 41, 42, 43, 44, 45, 46, 47, 48, 49, 50, 51, 52, 53, 54, 55, 56, 57, 58, 59, 60, 61, 62, 63, 64, 65, 66, 67, 68] (by decide +kernel) (by decide +kernel)
set_option maxRecDepth 20000 in
theorem gX7_readPart_X7_left : GoodIn wsX7_readPart (wsV RX7 99 RX7 yX7_left wsX7_left) := goodIn_app (goodIn_of _ (by decide +kernel)) ggX7_readPart_X7_left
theorem dX7_readPart_0 : decode cX7_readPart 0 = .ok (.iload_n 1, 1) := by decide +kernel
theorem dX7_readPart_1 : decode cX7_readPart 1 = .ok (.bipush 74, 2) := by decide +kernel
theorem dX7_readPart_3 : decode cX7_readPart 3 = .ok (.if_icmp .ne 71, 3) := by decide +kernel
theorem dX7_readPart_6 : decode cX7_readPart 6 = .ok (.aload_n 0, 1) := by decide +kernel
theorem dX7_readPart_7 : decode cX7_readPart 7 = .ok (.getfield 96, 3) := by decide +kernel
theorem dX7_readPart_10 : decode cX7_readPart 10 = .ok (.bipush 6, 2) := by decide +kernel
theorem dX7_readPart_12 : decode cX7_readPart 12 = .ok (.if_icmp .ge 62, 3) := by decide +kernel
theorem dX7_readPart_15 : decode cX7_readPart 15 = .ok (.aload_n 0, 1) := by decide +kernel
theorem dX7_readPart_16 : decode cX7_readPart 16 = .ok (.dup, 1) := by decide +kernel
theorem dX7_readPart_17 : decode cX7_readPart 17 = .ok (.getfield 87, 3) := by decide +kernel
theorem dX7_readPart_20 : decode cX7_readPart 20 = .ok (.iconst 1, 1) := by decide +kernel
theorem dX7_readPart_21 : decode cX7_readPart 21 = .ok (.iadd, 1) := by decide +kernel
theorem dX7_readPart_22 : decode cX7_readPart 22 = .ok (.putfield 87, 3) := by decide +kernel
theorem dX7_readPart_25 : decode cX7_readPart 25 = .ok (.aload_n 0, 1) := by decide +kernel
theorem dX7_readPart_26 : decode cX7_readPart 26 = .ok (.getfield 31, 3) := by decide +kernel
theorem dX7_readPart_29 : decode cX7_readPart 29 = .ok (.iconst 2, 1) := by decide +kernel
theorem dX7_readPart_30 : decode cX7_readPart 30 = .ok (.aload_n 0, 1) := by decide +kernel
theorem dX7_readPart_31 : decode cX7_readPart 31 = .ok (.getfield 96, 3) := by decide +kernel
theorem dX7_readPart_34 : decode cX7_readPart 34 = .ok (.imul, 1) := by decide +kernel
theorem dX7_readPart_35 : decode cX7_readPart 35 = .ok (.aload_n 0, 1) := by decide +kernel
theorem dX7_readPart_36 : decode cX7_readPart 36 = .ok (.sipush 1023, 3) := by decide +kernel
theorem dX7_readPart_39 : decode cX7_readPart 39 = .ok (.invokevirtual 109, 3) := by decide +kernel
theorem dX7_readPart_42 : decode cX7_readPart 42 = .ok (.iastore, 1) := by decide +kernel
theorem dX7_readPart_43 : decode cX7_readPart 43 = .ok (.aload_n 0, 1) := by decide +kernel
theorem dX7_readPart_44 : decode cX7_readPart 44 = .ok (.getfield 31, 3) := by decide +kernel
theorem dX7_readPart_47 : decode cX7_readPart 47 = .ok (.iconst 2, 1) := by decide +kernel
theorem dX7_readPart_48 : decode cX7_readPart 48 = .ok (.aload_n 0, 1) := by decide +kernel
theorem dX7_readPart_49 : decode cX7_readPart 49 = .ok (.getfield 96, 3) := by decide +kernel
theorem dX7_readPart_52 : decode cX7_readPart 52 = .ok (.imul, 1) := by decide +kernel
theorem dX7_readPart_53 : decode cX7_readPart 53 = .ok (.iconst 1, 1) := by decide +kernel
theorem dX7_readPart_54 : decode cX7_readPart 54 = .ok (.iadd, 1) := by decide +kernel
theorem dX7_readPart_55 : decode cX7_readPart 55 = .ok (.aload_n 0, 1) := by decide +kernel
theorem dX7_readPart_56 : decode cX7_readPart 56 = .ok (.iconst 3, 1) := by decide +kernel
theorem dX7_readPart_57 : decode cX7_readPart 57 = .ok (.invokevirtual 109, 3) := by decide +kernel
theorem dX7_readPart_60 : decode cX7_readPart 60 = .ok (.iastore, 1) := by decide +kernel
theorem dX7_readPart_61 : decode cX7_readPart 61 = .ok (.aload_n 0, 1) := by decide +kernel
theorem dX7_readPart_62 : decode cX7_readPart 62 = .ok (.dup, 1) := by decide +kernel
theorem dX7_readPart_63 : decode cX7_readPart 63 = .ok (.getfield 96, 3) := by decide +kernel
theorem dX7_readPart_66 : decode cX7_readPart 66 = .ok (.iconst 1, 1) := by decide +kernel
theorem dX7_readPart_67 : decode cX7_readPart 67 = .ok (.iadd, 1) := by decide +kernel
theorem dX7_readPart_68 : decode cX7_readPart 68 = .ok (.putfield 96, 3) := by decide +kernel
theorem dX7_readPart_71 : decode cX7_readPart 71 = .ok (.goto 282, 3) := by decide +kernel
theorem dX7_readPart_74 : decode cX7_readPart 74 = .ok (.iload_n 1, 1) := by decide +kernel
theorem dX7_readPart_75 : decode cX7_readPart 75 = .ok (.bipush 80, 2) := by decide +kernel
theorem dX7_readPart_77 : decode cX7_readPart 77 = .ok (.if_icmp .ne 137, 3) := by decide +kernel
theorem dX7_readPart_80 : decode cX7_readPart 80 = .ok (.aload_n 0, 1) := by decide +kernel
theorem dX7_readPart_81 : decode cX7_readPart 81 = .ok (.getfield 103, 3) := by decide +kernel
theorem dX7_readPart_84 : decode cX7_readPart 84 = .ok (.bipush 8, 2) := by decide +kernel
theorem dX7_readPart_86 : decode cX7_readPart 86 = .ok (.if_icmp .ge 128, 3) := by decide +kernel
theorem dX7_readPart_89 : decode cX7_readPart 89 = .ok (.aload_n 0, 1) := by decide +kernel
theorem dX7_readPart_90 : decode cX7_readPart 90 = .ok (.invokevirtual 116, 3) := by decide +kernel
theorem dX7_readPart_93 : decode cX7_readPart 93 = .ok (.ifCond .eq 121, 3) := by decide +kernel
theorem dX7_readPart_96 : decode cX7_readPart 96 = .ok (.aload_n 0, 1) := by decide +kernel
theorem dX7_readPart_97 : decode cX7_readPart 97 = .ok (.dup, 1) := by decide +kernel
theorem dX7_readPart_98 : decode cX7_readPart 98 = .ok (.getfield 87, 3) := by decide +kernel
theorem dX7_readPart_101 : decode cX7_readPart 101 = .ok (.iconst 1, 1) := by decide +kernel
theorem dX7_readPart_102 : decode cX7_readPart 102 = .ok (.iadd, 1) := by decide +kernel
theorem dX7_readPart_103 : decode cX7_readPart 103 = .ok (.putfield 87, 3) := by decide +kernel
theorem dX7_readPart_106 : decode cX7_readPart 106 = .ok (.aload_n 0, 1) := by decide +kernel
theorem dX7_readPart_107 : decode cX7_readPart 107 = .ok (.aload_n 0, 1) := by decide +kernel
theorem dX7_readPart_108 : decode cX7_readPart 108 = .ok (.invokevirtual 116, 3) := by decide +kernel
theorem dX7_readPart_111 : decode cX7_readPart 111 = .ok (.invokevirtual 109, 3) := by decide +kernel
theorem dX7_readPart_114 : decode cX7_readPart 114 = .ok (.istore_n 2, 1) := by decide +kernel
theorem dX7_readPart_115 : decode cX7_readPart 115 = .ok (.aload_n 0, 1) := by decide +kernel
theorem dX7_readPart_116 : decode cX7_readPart 116 = .ok (.aload_n 0, 1) := by decide +kernel
theorem dX7_readPart_117 : decode cX7_readPart 117 = .ok (.iload_n 2, 1) := by decide +kernel
theorem dX7_readPart_118 : decode cX7_readPart 118 = .ok (.invokevirtual 99, 3) := by decide +kernel
theorem dX7_readPart_121 : decode cX7_readPart 121 = .ok (.invokevirtual 109, 3) := by decide +kernel
theorem dX7_readPart_124 : decode cX7_readPart 124 = .ok (.istore_n 3, 1) := by decide +kernel
theorem dX7_readPart_125 : decode cX7_readPart 125 = .ok (.aload_n 0, 1) := by decide +kernel
theorem dX7_readPart_126 : decode cX7_readPart 126 = .ok (.getfield 40, 3) := by decide +kernel
theorem dX7_readPart_129 : decode cX7_readPart 129 = .ok (.iload_n 2, 1) := by decide +kernel
theorem dX7_readPart_130 : decode cX7_readPart 130 = .ok (.dup2, 1) := by decide +kernel
theorem dX7_readPart_131 : decode cX7_readPart 131 = .ok (.iaload, 1) := by decide +kernel
theorem dX7_readPart_132 : decode cX7_readPart 132 = .ok (.aload_n 0, 1) := by decide +kernel
theorem dX7_readPart_133 : decode cX7_readPart 133 = .ok (.getfield 84, 3) := by decide +kernel
theorem dX7_readPart_136 : decode cX7_readPart 136 = .ok (.bipush (-9), 2) := by decide +kernel
theorem dX7_readPart_138 : decode cX7_readPart 138 = .ok (.if_icmp .ne 9, 3) := by decide +kernel
theorem dX7_readPart_141 : decode cX7_readPart 141 = .ok (.iconst 1, 1) := by decide +kernel
theorem dX7_readPart_142 : decode cX7_readPart 142 = .ok (.iload_n 3, 1) := by decide +kernel
theorem dX7_readPart_143 : decode cX7_readPart 143 = .ok (.ishl, 1) := by decide +kernel
theorem dX7_readPart_144 : decode cX7_readPart 144 = .ok (.goto 4, 3) := by decide +kernel
theorem dX7_readPart_147 : decode cX7_readPart 147 = .ok (.iconst 0, 1) := by decide +kernel
theorem dX7_readPart_148 : decode cX7_readPart 148 = .ok (.ior, 1) := by decide +kernel
theorem dX7_readPart_149 : decode cX7_readPart 149 = .ok (.iastore, 1) := by decide +kernel
theorem dX7_readPart_150 : decode cX7_readPart 150 = .ok (.aload_n 0, 1) := by decide +kernel
theorem dX7_readPart_151 : decode cX7_readPart 151 = .ok (.getfield 40, 3) := by decide +kernel
theorem dX7_readPart_154 : decode cX7_readPart 154 = .ok (.iload_n 3, 1) := by decide +kernel
theorem dX7_readPart_155 : decode cX7_readPart 155 = .ok (.dup2, 1) := by decide +kernel
theorem dX7_readPart_156 : decode cX7_readPart 156 = .ok (.iaload, 1) := by decide +kernel
theorem dX7_readPart_157 : decode cX7_readPart 157 = .ok (.aload_n 0, 1) := by decide +kernel
theorem dX7_readPart_158 : decode cX7_readPart 158 = .ok (.getfield 84, 3) := by decide +kernel
theorem dX7_readPart_161 : decode cX7_readPart 161 = .ok (.bipush (-9), 2) := by decide +kernel
theorem dX7_readPart_163 : decode cX7_readPart 163 = .ok (.if_icmp .ne 9, 3) := by decide +kernel
theorem dX7_readPart_166 : decode cX7_readPart 166 = .ok (.iconst 1, 1) := by decide +kernel
theorem dX7_readPart_167 : decode cX7_readPart 167 = .ok (.iload_n 2, 1) := by decide +kernel
theorem dX7_readPart_168 : decode cX7_readPart 168 = .ok (.ishl, 1) := by decide +kernel
theorem dX7_readPart_169 : decode cX7_readPart 169 = .ok (.goto 4, 3) := by decide +kernel
theorem dX7_readPart_172 : decode cX7_readPart 172 = .ok (.iconst 0, 1) := by decide +kernel
theorem dX7_readPart_173 : decode cX7_readPart 173 = .ok (.ior, 1) := by decide +kernel
theorem dX7_readPart_174 : decode cX7_readPart 174 = .ok (.iastore, 1) := by decide +kernel
theorem dX7_readPart_175 : decode cX7_readPart 175 = .ok (.aload_n 0, 1) := by decide +kernel
theorem dX7_readPart_176 : decode cX7_readPart 176 = .ok (.getfield 34, 3) := by decide +kernel
theorem dX7_readPart_179 : decode cX7_readPart 179 = .ok (.iconst 2, 1) := by decide +kernel
theorem dX7_readPart_180 : decode cX7_readPart 180 = .ok (.aload_n 0, 1) := by decide +kernel
theorem dX7_readPart_181 : decode cX7_readPart 181 = .ok (.getfield 103, 3) := by decide +kernel
theorem dX7_readPart_184 : decode cX7_readPart 184 = .ok (.imul, 1) := by decide +kernel
theorem dX7_readPart_185 : decode cX7_readPart 185 = .ok (.iload_n 2, 1) := by decide +kernel
theorem dX7_readPart_186 : decode cX7_readPart 186 = .ok (.iastore, 1) := by decide +kernel
theorem dX7_readPart_187 : decode cX7_readPart 187 = .ok (.aload_n 0, 1) := by decide +kernel
theorem dX7_readPart_188 : decode cX7_readPart 188 = .ok (.getfield 34, 3) := by decide +kernel
theorem dX7_readPart_191 : decode cX7_readPart 191 = .ok (.iconst 2, 1) := by decide +kernel
theorem dX7_readPart_192 : decode cX7_readPart 192 = .ok (.aload_n 0, 1) := by decide +kernel
theorem dX7_readPart_193 : decode cX7_readPart 193 = .ok (.getfield 103, 3) := by decide +kernel
theorem dX7_readPart_196 : decode cX7_readPart 196 = .ok (.imul, 1) := by decide +kernel
theorem dX7_readPart_197 : decode cX7_readPart 197 = .ok (.iconst 1, 1) := by decide +kernel
theorem dX7_readPart_198 : decode cX7_readPart 198 = .ok (.iadd, 1) := by decide +kernel
theorem dX7_readPart_199 : decode cX7_readPart 199 = .ok (.iload_n 3, 1) := by decide +kernel
theorem dX7_readPart_200 : decode cX7_readPart 200 = .ok (.iastore, 1) := by decide +kernel
theorem dX7_readPart_201 : decode cX7_readPart 201 = .ok (.aload_n 0, 1) := by decide +kernel
theorem dX7_readPart_202 : decode cX7_readPart 202 = .ok (.dup, 1) := by decide +kernel
theorem dX7_readPart_203 : decode cX7_readPart 203 = .ok (.getfield 103, 3) := by decide +kernel
theorem dX7_readPart_206 : decode cX7_readPart 206 = .ok (.iconst 1, 1) := by decide +kernel
theorem dX7_readPart_207 : decode cX7_readPart 207 = .ok (.iadd, 1) := by decide +kernel
theorem dX7_readPart_208 : decode cX7_readPart 208 = .ok (.putfield 103, 3) := by decide +kernel
theorem dX7_readPart_211 : decode cX7_readPart 211 = .ok (.goto 142, 3) := by decide +kernel
theorem dX7_readPart_214 : decode cX7_readPart 214 = .ok (.iload_n 1, 1) := by decide +kernel
theorem dX7_readPart_215 : decode cX7_readPart 215 = .ok (.bipush 87, 2) := by decide +kernel
theorem dX7_readPart_217 : decode cX7_readPart 217 = .ok (.if_icmp .ne 128, 3) := by decide +kernel
theorem dX7_readPart_220 : decode cX7_readPart 220 = .ok (.aload_n 0, 1) := by decide +kernel
theorem dX7_readPart_221 : decode cX7_readPart 221 = .ok (.getfield 106, 3) := by decide +kernel
theorem dX7_readPart_224 : decode cX7_readPart 224 = .ok (.iconst 4, 1) := by decide +kernel
theorem dX7_readPart_225 : decode cX7_readPart 225 = .ok (.if_icmp .ge 120, 3) := by decide +kernel
theorem dX7_readPart_228 : decode cX7_readPart 228 = .ok (.aload_n 0, 1) := by decide +kernel
theorem dX7_readPart_229 : decode cX7_readPart 229 = .ok (.getfield 96, 3) := by decide +kernel
theorem dX7_readPart_232 : decode cX7_readPart 232 = .ok (.ifCond .le 113, 3) := by decide +kernel
theorem dX7_readPart_235 : decode cX7_readPart 235 = .ok (.aload_n 0, 1) := by decide +kernel
theorem dX7_readPart_236 : decode cX7_readPart 236 = .ok (.dup, 1) := by decide +kernel
theorem dX7_readPart_237 : decode cX7_readPart 237 = .ok (.getfield 87, 3) := by decide +kernel
theorem dX7_readPart_240 : decode cX7_readPart 240 = .ok (.iconst 1, 1) := by decide +kernel
theorem dX7_readPart_241 : decode cX7_readPart 241 = .ok (.iadd, 1) := by decide +kernel
theorem dX7_readPart_242 : decode cX7_readPart 242 = .ok (.putfield 87, 3) := by decide +kernel
theorem dX7_readPart_245 : decode cX7_readPart 245 = .ok (.aload_n 0, 1) := by decide +kernel
theorem dX7_readPart_246 : decode cX7_readPart 246 = .ok (.getfield 37, 3) := by decide +kernel
theorem dX7_readPart_249 : decode cX7_readPart 249 = .ok (.iconst 4, 1) := by decide +kernel
theorem dX7_readPart_250 : decode cX7_readPart 250 = .ok (.aload_n 0, 1) := by decide +kernel
theorem dX7_readPart_251 : decode cX7_readPart 251 = .ok (.getfield 106, 3) := by decide +kernel
theorem dX7_readPart_254 : decode cX7_readPart 254 = .ok (.imul, 1) := by decide +kernel
theorem dX7_readPart_255 : decode cX7_readPart 255 = .ok (.aload_n 0, 1) := by decide +kernel
theorem dX7_readPart_256 : decode cX7_readPart 256 = .ok (.iconst 1, 1) := by decide +kernel
theorem dX7_readPart_257 : decode cX7_readPart 257 = .ok (.aload_n 0, 1) := by decide +kernel
theorem dX7_readPart_258 : decode cX7_readPart 258 = .ok (.getfield 96, 3) := by decide +kernel
theorem dX7_readPart_261 : decode cX7_readPart 261 = .ok (.ishl, 1) := by decide +kernel
theorem dX7_readPart_262 : decode cX7_readPart 262 = .ok (.iconst 1, 1) := by decide +kernel
theorem dX7_readPart_263 : decode cX7_readPart 263 = .ok (.isub, 1) := by decide +kernel
theorem dX7_readPart_264 : decode cX7_readPart 264 = .ok (.invokevirtual 109, 3) := by decide +kernel
theorem dX7_readPart_267 : decode cX7_readPart 267 = .ok (.iastore, 1) := by decide +kernel
theorem dX7_readPart_268 : decode cX7_readPart 268 = .ok (.aload_n 0, 1) := by decide +kernel
theorem dX7_readPart_269 : decode cX7_readPart 269 = .ok (.getfield 37, 3) := by decide +kernel
theorem dX7_readPart_272 : decode cX7_readPart 272 = .ok (.iconst 4, 1) := by decide +kernel
theorem dX7_readPart_273 : decode cX7_readPart 273 = .ok (.aload_n 0, 1) := by decide +kernel
theorem dX7_readPart_274 : decode cX7_readPart 274 = .ok (.getfield 106, 3) := by decide +kernel
theorem dX7_readPart_277 : decode cX7_readPart 277 = .ok (.imul, 1) := by decide +kernel
theorem dX7_readPart_278 : decode cX7_readPart 278 = .ok (.iconst 1, 1) := by decide +kernel
theorem dX7_readPart_279 : decode cX7_readPart 279 = .ok (.iadd, 1) := by decide +kernel
theorem dX7_readPart_280 : decode cX7_readPart 280 = .ok (.aload_n 0, 1) := by decide +kernel
theorem dX7_readPart_281 : decode cX7_readPart 281 = .ok (.sipush 1022, 3) := by decide +kernel
theorem dX7_readPart_284 : decode cX7_readPart 284 = .ok (.invokevirtual 109, 3) := by decide +kernel
theorem dX7_readPart_287 : decode cX7_readPart 287 = .ok (.iastore, 1) := by decide +kernel
theorem dX7_readPart_288 : decode cX7_readPart 288 = .ok (.aload_n 0, 1) := by decide +kernel
theorem dX7_readPart_289 : decode cX7_readPart 289 = .ok (.getfield 37, 3) := by decide +kernel
theorem dX7_readPart_292 : decode cX7_readPart 292 = .ok (.iconst 4, 1) := by decide +kernel
theorem dX7_readPart_293 : decode cX7_readPart 293 = .ok (.aload_n 0, 1) := by decide +kernel
theorem dX7_readPart_294 : decode cX7_readPart 294 = .ok (.getfield 106, 3) := by decide +kernel
theorem dX7_readPart_297 : decode cX7_readPart 297 = .ok (.imul, 1) := by decide +kernel
theorem dX7_readPart_298 : decode cX7_readPart 298 = .ok (.iconst 2, 1) := by decide +kernel
theorem dX7_readPart_299 : decode cX7_readPart 299 = .ok (.iadd, 1) := by decide +kernel
theorem dX7_readPart_300 : decode cX7_readPart 300 = .ok (.aload_n 0, 1) := by decide +kernel
theorem dX7_readPart_301 : decode cX7_readPart 301 = .ok (.bipush 15, 2) := by decide +kernel
theorem dX7_readPart_303 : decode cX7_readPart 303 = .ok (.invokevirtual 109, 3) := by decide +kernel
theorem dX7_readPart_306 : decode cX7_readPart 306 = .ok (.iastore, 1) := by decide +kernel
theorem dX7_readPart_307 : decode cX7_readPart 307 = .ok (.aload_n 0, 1) := by decide +kernel
theorem dX7_readPart_308 : decode cX7_readPart 308 = .ok (.getfield 37, 3) := by decide +kernel
theorem dX7_readPart_311 : decode cX7_readPart 311 = .ok (.iconst 4, 1) := by decide +kernel
theorem dX7_readPart_312 : decode cX7_readPart 312 = .ok (.aload_n 0, 1) := by decide +kernel
theorem dX7_readPart_313 : decode cX7_readPart 313 = .ok (.getfield 106, 3) := by decide +kernel
theorem dX7_readPart_316 : decode cX7_readPart 316 = .ok (.imul, 1) := by decide +kernel
theorem dX7_readPart_317 : decode cX7_readPart 317 = .ok (.iconst 3, 1) := by decide +kernel
theorem dX7_readPart_318 : decode cX7_readPart 318 = .ok (.iadd, 1) := by decide +kernel
theorem dX7_readPart_319 : decode cX7_readPart 319 = .ok (.aload_n 0, 1) := by decide +kernel
theorem dX7_readPart_320 : decode cX7_readPart 320 = .ok (.iconst 1, 1) := by decide +kernel
theorem dX7_readPart_321 : decode cX7_readPart 321 = .ok (.aload_n 0, 1) := by decide +kernel
theorem dX7_readPart_322 : decode cX7_readPart 322 = .ok (.getfield 96, 3) := by decide +kernel
theorem dX7_readPart_325 : decode cX7_readPart 325 = .ok (.ishl, 1) := by decide +kernel
theorem dX7_readPart_326 : decode cX7_readPart 326 = .ok (.iconst 1, 1) := by decide +kernel
theorem dX7_readPart_327 : decode cX7_readPart 327 = .ok (.isub, 1) := by decide +kernel
theorem dX7_readPart_328 : decode cX7_readPart 328 = .ok (.invokevirtual 109, 3) := by decide +kernel
theorem dX7_readPart_331 : decode cX7_readPart 331 = .ok (.iastore, 1) := by decide +kernel
theorem dX7_readPart_332 : decode cX7_readPart 332 = .ok (.aload_n 0, 1) := by decide +kernel
theorem dX7_readPart_333 : decode cX7_readPart 333 = .ok (.dup, 1) := by decide +kernel
theorem dX7_readPart_334 : decode cX7_readPart 334 = .ok (.getfield 106, 3) := by decide +kernel
theorem dX7_readPart_337 : decode cX7_readPart 337 = .ok (.iconst 1, 1) := by decide +kernel
theorem dX7_readPart_338 : decode cX7_readPart 338 = .ok (.iadd, 1) := by decide +kernel
theorem dX7_readPart_339 : decode cX7_readPart 339 = .ok (.putfield 106, 3) := by decide +kernel
theorem dX7_readPart_342 : decode cX7_readPart 342 = .ok (.goto 11, 3) := by decide +kernel
theorem dX7_readPart_345 : decode cX7_readPart 345 = .ok (.aload_n 0, 1) := by decide +kernel
theorem dX7_readPart_346 : decode cX7_readPart 346 = .ok (.aload_n 0, 1) := by decide +kernel
theorem dX7_readPart_347 : decode cX7_readPart 347 = .ok (.getfield 87, 3) := by decide +kernel
theorem dX7_readPart_350 : decode cX7_readPart 350 = .ok (.putfield 84, 3) := by decide +kernel
theorem dX7_readPart_353 : decode cX7_readPart 353 = .ok (.return_, 1) := by decide +kernel
set_option maxRecDepth 20000 in
theorem ggX7_fault_X7_readText : GoodIn wsX7_fault wsX7_readText := goodIn_r _ [5, 6, 7, 8, 9, 10, 11, 12, 13, 14, 15, 16, 4, 17, 18, 19, 20, 21, 22, 23, 24, 25, 26, 27, 28, 29, 30, 31, 32, 33, 34, 35, 36, 37, 38, 39, 40, 41, 42, 43, 44, 45, 46, 47, 48, 49, 50, 51, 52, 53, 54, 55, 56, 57, 58, 59, 60, 61, 62, 63, 64, 65, 66, 67, 68, 69, 70, 71, 72, 73, 74, 75, 76] (by decide +kernel) (by decide +kernel)
set_option maxRecDepth 20000 in
theorem gX7_fault_X7_readText : GoodIn wsX7_fault (wsV RX7 120 RX7 yX7_readText wsX7_readText) := goodIn_app (goodIn_of _ (by decide +kernel)) ggX7_fault_X7_readText
theorem dX7_fault_0 : decode cX7_fault 0 = .ok (.aload_n 0, 1) := by decide +kernel
theorem dX7_fault_1 : decode cX7_fault 1 = .ok (.invokevirtual 120, 3) := by decide +kernel
theorem dX7_fault_4 : decode cX7_fault 4 = .ok (.ireturn, 1) := by decide +kernel
set_option maxRecDepth 20000 in
theorem ggX7_net_X7_readText : GoodIn wsX7_net wsX7_readText := goodIn_r _ [28, 29, 30, 1, 3, 5, 31, 32, 7, 33, 34, 35, 27, 36, 37, 38, 39, 40, 41, 42, 43, 44, 45, 46, 47, 14, 17, 18, 48, 49, 50, 51, 52, 53, 54, 55, 56, 57, 58, 59, 60, 61, 62, 63, 64, 65, 66, 67, 68, 69, 70, 71, 72, 73, 74, 75, 76, 77, 78, 79, 80, 81, 82, 83, 84, 85, 86, 87, 88, 89, 90, 91, 92] (by decide +kernel) (by decide +kernel)
set_option maxRecDepth 20000 in
theorem gX7_net_X7_readText : GoodIn wsX7_net (wsV RX7 120 RX7 yX7_readText wsX7_readText) := goodIn_app (goodIn_of _ (by decide +kernel)) ggX7_net_X7_readText
set_option maxRecDepth 20000 in
theorem ggX7_net_X7_in : GoodIn wsX7_net wsX7_in := goodIn_r _ [40] (by decide +kernel) (by decide +kernel)
set_option maxRecDepth 20000 in
theorem gX7_net_X7_in : GoodIn wsX7_net (va_wsS RX7 77 yX7_in wsX7_in) := goodIn_app (goodIn_of _ (by decide +kernel)) ggX7_net_X7_in
theorem dX7_net_0 : decode cX7_net 0 = .ok (.aload_n 0, 1) := by decide +kernel
theorem dX7_net_1 : decode cX7_net 1 = .ok (.invokevirtual 120, 3) := by decide +kernel
theorem dX7_net_4 : decode cX7_net 4 = .ok (.bipush (-9), 2) := by decide +kernel
theorem dX7_net_6 : decode cX7_net 6 = .ok (.if_icmp .eq 6, 3) := by decide +kernel
theorem dX7_net_9 : decode cX7_net 9 = .ok (.bipush (-3), 2) := by decide +kernel
theorem dX7_net_11 : decode cX7_net 11 = .ok (.ireturn, 1) := by decide +kernel
theorem dX7_net_12 : decode cX7_net 12 = .ok (.aload_n 0, 1) := by decide +kernel
theorem dX7_net_13 : decode cX7_net 13 = .ok (.aload_n 0, 1) := by decide +kernel
theorem dX7_net_14 : decode cX7_net 14 = .ok (.getfield 96, 3) := by decide +kernel
theorem dX7_net_17 : decode cX7_net 17 = .ok (.putfield 123, 3) := by decide +kernel
theorem dX7_net_20 : decode cX7_net 20 = .ok (.aload_n 0, 1) := by decide +kernel
theorem dX7_net_21 : decode cX7_net 21 = .ok (.aload_n 0, 1) := by decide +kernel
theorem dX7_net_22 : decode cX7_net 22 = .ok (.getfield 103, 3) := by decide +kernel
theorem dX7_net_25 : decode cX7_net 25 = .ok (.putfield 126, 3) := by decide +kernel
theorem dX7_net_28 : decode cX7_net 28 = .ok (.aload_n 0, 1) := by decide +kernel
theorem dX7_net_29 : decode cX7_net 29 = .ok (.aload_n 0, 1) := by decide +kernel
theorem dX7_net_30 : decode cX7_net 30 = .ok (.getfield 106, 3) := by decide +kernel
theorem dX7_net_33 : decode cX7_net 33 = .ok (.putfield 129, 3) := by decide +kernel
theorem dX7_net_36 : decode cX7_net 36 = .ok (.aload_n 0, 1) := by decide +kernel
theorem dX7_net_37 : decode cX7_net 37 = .ok (.aload_n 0, 1) := by decide +kernel
theorem dX7_net_38 : decode cX7_net 38 = .ok (.getfield 43, 3) := by decide +kernel
theorem dX7_net_41 : decode cX7_net 41 = .ok (.iconst 1, 1) := by decide +kernel
theorem dX7_net_42 : decode cX7_net 42 = .ok (.iaload, 1) := by decide +kernel
theorem dX7_net_43 : decode cX7_net 43 = .ok (.bipush 48, 2) := by decide +kernel
theorem dX7_net_45 : decode cX7_net 45 = .ok (.isub, 1) := by decide +kernel
theorem dX7_net_46 : decode cX7_net 46 = .ok (.putfield 132, 3) := by decide +kernel
theorem dX7_net_49 : decode cX7_net 49 = .ok (.aload_n 0, 1) := by decide +kernel
theorem dX7_net_50 : decode cX7_net 50 = .ok (.aload_n 0, 1) := by decide +kernel
theorem dX7_net_51 : decode cX7_net 51 = .ok (.getfield 43, 3) := by decide +kernel
theorem dX7_net_54 : decode cX7_net 54 = .ok (.iconst 2, 1) := by decide +kernel
theorem dX7_net_55 : decode cX7_net 55 = .ok (.iaload, 1) := by decide +kernel
theorem dX7_net_56 : decode cX7_net 56 = .ok (.bipush 48, 2) := by decide +kernel
theorem dX7_net_58 : decode cX7_net 58 = .ok (.isub, 1) := by decide +kernel
theorem dX7_net_59 : decode cX7_net 59 = .ok (.putfield 135, 3) := by decide +kernel
theorem dX7_net_62 : decode cX7_net 62 = .ok (.iconst 0, 1) := by decide +kernel
theorem dX7_net_63 : decode cX7_net 63 = .ok (.istore_n 1, 1) := by decide +kernel
theorem dX7_net_64 : decode cX7_net 64 = .ok (.iload_n 1, 1) := by decide +kernel
theorem dX7_net_65 : decode cX7_net 65 = .ok (.bipush 19, 2) := by decide +kernel
theorem dX7_net_67 : decode cX7_net 67 = .ok (.if_icmp .ge 35, 3) := by decide +kernel
theorem dX7_net_70 : decode cX7_net 70 = .ok (.aload_n 0, 1) := by decide +kernel
theorem dX7_net_71 : decode cX7_net 71 = .ok (.getfield 28, 3) := by decide +kernel
theorem dX7_net_74 : decode cX7_net 74 = .ok (.iload_n 1, 1) := by decide +kernel
theorem dX7_net_75 : decode cX7_net 75 = .ok (.iload_n 1, 1) := by decide +kernel
theorem dX7_net_76 : decode cX7_net 76 = .ok (.i2l, 1) := by decide +kernel
theorem dX7_net_77 : decode cX7_net 77 = .ok (.ldc2_w 138, 3) := by decide +kernel
theorem dX7_net_80 : decode cX7_net 80 = .ok (.ldc2_w 140, 3) := by decide +kernel
theorem dX7_net_83 : decode cX7_net 83 = .ok (.invokestatic 77, 3) := by decide +kernel
theorem dX7_net_86 : decode cX7_net 86 = .ok (.ifCond .eq 8, 3) := by decide +kernel
theorem dX7_net_89 : decode cX7_net 89 = .ok (.bipush (-9), 2) := by decide +kernel
theorem dX7_net_91 : decode cX7_net 91 = .ok (.goto 4, 3) := by decide +kernel
theorem dX7_net_94 : decode cX7_net 94 = .ok (.iconst 0, 1) := by decide +kernel
theorem dX7_net_95 : decode cX7_net 95 = .ok (.iastore, 1) := by decide +kernel
theorem dX7_net_96 : decode cX7_net 96 = .ok (.iinc 1 1, 3) := by decide +kernel
theorem dX7_net_99 : decode cX7_net 99 = .ok (.goto (-35), 3) := by decide +kernel
theorem dX7_net_102 : decode cX7_net 102 = .ok (.iconst 0, 1) := by decide +kernel
theorem dX7_net_103 : decode cX7_net 103 = .ok (.istore_n 1, 1) := by decide +kernel
theorem dX7_net_104 : decode cX7_net 104 = .ok (.iload_n 1, 1) := by decide +kernel
theorem dX7_net_105 : decode cX7_net 105 = .ok (.aload_n 0, 1) := by decide +kernel
theorem dX7_net_106 : decode cX7_net 106 = .ok (.getfield 123, 3) := by decide +kernel
theorem dX7_net_109 : decode cX7_net 109 = .ok (.if_icmp .ge 39, 3) := by decide +kernel
theorem dX7_net_112 : decode cX7_net 112 = .ok (.aload_n 0, 1) := by decide +kernel
theorem dX7_net_113 : decode cX7_net 113 = .ok (.getfield 7, 3) := by decide +kernel
theorem dX7_net_116 : decode cX7_net 116 = .ok (.iload_n 1, 1) := by decide +kernel
theorem dX7_net_117 : decode cX7_net 117 = .ok (.aload_n 0, 1) := by decide +kernel
theorem dX7_net_118 : decode cX7_net 118 = .ok (.getfield 31, 3) := by decide +kernel
theorem dX7_net_121 : decode cX7_net 121 = .ok (.iconst 2, 1) := by decide +kernel
theorem dX7_net_122 : decode cX7_net 122 = .ok (.iload_n 1, 1) := by decide +kernel
theorem dX7_net_123 : decode cX7_net 123 = .ok (.imul, 1) := by decide +kernel
theorem dX7_net_124 : decode cX7_net 124 = .ok (.iaload, 1) := by decide +kernel
theorem dX7_net_125 : decode cX7_net 125 = .ok (.iastore, 1) := by decide +kernel
theorem dX7_net_126 : decode cX7_net 126 = .ok (.aload_n 0, 1) := by decide +kernel
theorem dX7_net_127 : decode cX7_net 127 = .ok (.getfield 13, 3) := by decide +kernel
theorem dX7_net_130 : decode cX7_net 130 = .ok (.iload_n 1, 1) := by decide +kernel
theorem dX7_net_131 : decode cX7_net 131 = .ok (.aload_n 0, 1) := by decide +kernel
theorem dX7_net_132 : decode cX7_net 132 = .ok (.getfield 31, 3) := by decide +kernel
theorem dX7_net_135 : decode cX7_net 135 = .ok (.iconst 2, 1) := by decide +kernel
theorem dX7_net_136 : decode cX7_net 136 = .ok (.iload_n 1, 1) := by decide +kernel
theorem dX7_net_137 : decode cX7_net 137 = .ok (.imul, 1) := by decide +kernel
theorem dX7_net_138 : decode cX7_net 138 = .ok (.iconst 1, 1) := by decide +kernel
theorem dX7_net_139 : decode cX7_net 139 = .ok (.iadd, 1) := by decide +kernel

theorem dX7_tryThing_1 : decode cX7_tryThing 1 = .ok (.tableswitch 200 0 4 #[35, 51, 51, 112, 162], 35) := by decide +kernel
theorem dX7_tryThing_36 : decode cX7_tryThing 36 = .ok (.aload_n 0, 1) := by decide +kernel
theorem dX7_tryThing_37 : decode cX7_tryThing 37 = .ok (.iconst 1, 1) := by decide +kernel
theorem dX7_tryThing_38 : decode cX7_tryThing 38 = .ok (.invokevirtual 184, 3) := by decide +kernel
theorem dX7_tryThing_41 : decode cX7_tryThing 41 = .ok (.pop, 1) := by decide +kernel
theorem dX7_tryThing_42 : decode cX7_tryThing 42 = .ok (.iload_n 2, 1) := by decide +kernel
theorem dX7_tryThing_43 : decode cX7_tryThing 43 = .ok (.ifCond .ne 7, 3) := by decide +kernel
theorem dX7_tryThing_46 : decode cX7_tryThing 46 = .ok (.iconst 1, 1) := by decide +kernel
theorem dX7_tryThing_47 : decode cX7_tryThing 47 = .ok (.goto 4, 3) := by decide +kernel
theorem dX7_tryThing_50 : decode cX7_tryThing 50 = .ok (.iconst 0, 1) := by decide +kernel
theorem dX7_tryThing_51 : decode cX7_tryThing 51 = .ok (.ireturn, 1) := by decide +kernel
theorem dX7_tryThing_52 : decode cX7_tryThing 52 = .ok (.aload_n 0, 1) := by decide +kernel
theorem dX7_tryThing_53 : decode cX7_tryThing 53 = .ok (.iload_n 2, 1) := by decide +kernel
theorem dX7_tryThing_54 : decode cX7_tryThing 54 = .ok (.invokevirtual 172, 3) := by decide +kernel
theorem dX7_tryThing_57 : decode cX7_tryThing 57 = .ok (.ifCond .eq 31, 3) := by decide +kernel
theorem dX7_tryThing_60 : decode cX7_tryThing 60 = .ok (.aload_n 0, 1) := by decide +kernel
theorem dX7_tryThing_61 : decode cX7_tryThing 61 = .ok (.getfield 28, 3) := by decide +kernel
theorem dX7_tryThing_64 : decode cX7_tryThing 64 = .ok (.bipush 35, 2) := by decide +kernel
theorem dX7_tryThing_66 : decode cX7_tryThing 66 = .ok (.iaload, 1) := by decide +kernel
theorem dX7_tryThing_67 : decode cX7_tryThing 67 = .ok (.iload_n 2, 1) := by decide +kernel
theorem dX7_tryThing_68 : decode cX7_tryThing 68 = .ok (.invokestatic 92, 3) := by decide +kernel
theorem dX7_tryThing_71 : decode cX7_tryThing 71 = .ok (.iload_n 1, 1) := by decide +kernel
theorem dX7_tryThing_72 : decode cX7_tryThing 72 = .ok (.iconst 1, 1) := by decide +kernel
theorem dX7_tryThing_73 : decode cX7_tryThing 73 = .ok (.if_icmp .ne 7, 3) := by decide +kernel
theorem dX7_tryThing_76 : decode cX7_tryThing 76 = .ok (.iconst 1, 1) := by decide +kernel
theorem dX7_tryThing_77 : decode cX7_tryThing 77 = .ok (.goto 4, 3) := by decide +kernel
theorem dX7_tryThing_80 : decode cX7_tryThing 80 = .ok (.iconst 0, 1) := by decide +kernel
theorem dX7_tryThing_81 : decode cX7_tryThing 81 = .ok (.if_icmp .ne 7, 3) := by decide +kernel
theorem dX7_tryThing_84 : decode cX7_tryThing 84 = .ok (.iconst 1, 1) := by decide +kernel
theorem dX7_tryThing_85 : decode cX7_tryThing 85 = .ok (.goto 4, 3) := by decide +kernel
theorem dX7_tryThing_88 : decode cX7_tryThing 88 = .ok (.iconst 0, 1) := by decide +kernel
theorem dX7_tryThing_89 : decode cX7_tryThing 89 = .ok (.istore_n 3, 1) := by decide +kernel
theorem dX7_tryThing_90 : decode cX7_tryThing 90 = .ok (.aload_n 0, 1) := by decide +kernel
theorem dX7_tryThing_91 : decode cX7_tryThing 91 = .ok (.getfield 28, 3) := by decide +kernel
theorem dX7_tryThing_94 : decode cX7_tryThing 94 = .ok (.bipush 35, 2) := by decide +kernel
theorem dX7_tryThing_96 : decode cX7_tryThing 96 = .ok (.dup2, 1) := by decide +kernel
theorem dX7_tryThing_97 : decode cX7_tryThing 97 = .ok (.iaload, 1) := by decide +kernel
theorem dX7_tryThing_98 : decode cX7_tryThing 98 = .ok (.iload_n 3, 1) := by decide +kernel
theorem dX7_tryThing_99 : decode cX7_tryThing 99 = .ok (.ifCond .eq 9, 3) := by decide +kernel
theorem dX7_tryThing_102 : decode cX7_tryThing 102 = .ok (.iconst 1, 1) := by decide +kernel
theorem dX7_tryThing_103 : decode cX7_tryThing 103 = .ok (.iload_n 2, 1) := by decide +kernel
theorem dX7_tryThing_104 : decode cX7_tryThing 104 = .ok (.ishl, 1) := by decide +kernel
theorem dX7_tryThing_105 : decode cX7_tryThing 105 = .ok (.goto 4, 3) := by decide +kernel
theorem dX7_tryThing_108 : decode cX7_tryThing 108 = .ok (.iconst 0, 1) := by decide +kernel
theorem dX7_tryThing_109 : decode cX7_tryThing 109 = .ok (.ixor, 1) := by decide +kernel
theorem dX7_tryThing_110 : decode cX7_tryThing 110 = .ok (.iastore, 1) := by decide +kernel
theorem dX7_tryThing_111 : decode cX7_tryThing 111 = .ok (.iload_n 3, 1) := by decide +kernel
theorem dX7_tryThing_112 : decode cX7_tryThing 112 = .ok (.ireturn, 1) := by decide +kernel
theorem dX7_tryThing_113 : decode cX7_tryThing 113 = .ok (.aload_n 0, 1) := by decide +kernel
theorem dX7_tryThing_114 : decode cX7_tryThing 114 = .ok (.iload_n 2, 1) := by decide +kernel
theorem dX7_tryThing_115 : decode cX7_tryThing 115 = .ok (.invokevirtual 168, 3) := by decide +kernel
theorem dX7_tryThing_118 : decode cX7_tryThing 118 = .ok (.ifCond .eq 17, 3) := by decide +kernel
theorem dX7_tryThing_121 : decode cX7_tryThing 121 = .ok (.aload_n 0, 1) := by decide +kernel
theorem dX7_tryThing_122 : decode cX7_tryThing 122 = .ok (.getfield 13, 3) := by decide +kernel
theorem dX7_tryThing_125 : decode cX7_tryThing 125 = .ok (.iload_n 2, 1) := by decide +kernel
theorem dX7_tryThing_126 : decode cX7_tryThing 126 = .ok (.iaload, 1) := by decide +kernel
theorem dX7_tryThing_127 : decode cX7_tryThing 127 = .ok (.iconst 1, 1) := by decide +kernel
theorem dX7_tryThing_128 : decode cX7_tryThing 128 = .ok (.if_icmp .ne 7, 3) := by decide +kernel
theorem dX7_tryThing_131 : decode cX7_tryThing 131 = .ok (.iconst 1, 1) := by decide +kernel
theorem dX7_tryThing_132 : decode cX7_tryThing 132 = .ok (.goto 4, 3) := by decide +kernel
theorem dX7_tryThing_135 : decode cX7_tryThing 135 = .ok (.iconst 0, 1) := by decide +kernel
theorem dX7_tryThing_136 : decode cX7_tryThing 136 = .ok (.istore 4, 2) := by decide +kernel
theorem dX7_tryThing_138 : decode cX7_tryThing 138 = .ok (.aload_n 0, 1) := by decide +kernel
theorem dX7_tryThing_139 : decode cX7_tryThing 139 = .ok (.getfield 28, 3) := by decide +kernel
theorem dX7_tryThing_142 : decode cX7_tryThing 142 = .ok (.bipush 36, 2) := by decide +kernel
theorem dX7_tryThing_144 : decode cX7_tryThing 144 = .ok (.dup2, 1) := by decide +kernel
theorem dX7_tryThing_145 : decode cX7_tryThing 145 = .ok (.iaload, 1) := by decide +kernel
theorem dX7_tryThing_146 : decode cX7_tryThing 146 = .ok (.iload 4, 2) := by decide +kernel
theorem dX7_tryThing_148 : decode cX7_tryThing 148 = .ok (.ifCond .eq 9, 3) := by decide +kernel
theorem dX7_tryThing_151 : decode cX7_tryThing 151 = .ok (.iconst 1, 1) := by decide +kernel
theorem dX7_tryThing_152 : decode cX7_tryThing 152 = .ok (.iload_n 2, 1) := by decide +kernel
theorem dX7_tryThing_153 : decode cX7_tryThing 153 = .ok (.ishl, 1) := by decide +kernel
theorem dX7_tryThing_154 : decode cX7_tryThing 154 = .ok (.goto 4, 3) := by decide +kernel
theorem dX7_tryThing_157 : decode cX7_tryThing 157 = .ok (.iconst 0, 1) := by decide +kernel
theorem dX7_tryThing_158 : decode cX7_tryThing 158 = .ok (.ixor, 1) := by decide +kernel
theorem dX7_tryThing_159 : decode cX7_tryThing 159 = .ok (.iastore, 1) := by decide +kernel
theorem dX7_tryThing_160 : decode cX7_tryThing 160 = .ok (.iload 4, 2) := by decide +kernel
theorem dX7_tryThing_162 : decode cX7_tryThing 162 = .ok (.ireturn, 1) := by decide +kernel
theorem dX7_tryThing_163 : decode cX7_tryThing 163 = .ok (.aload_n 0, 1) := by decide +kernel
theorem dX7_tryThing_164 : decode cX7_tryThing 164 = .ok (.iload_n 2, 1) := by decide +kernel
theorem dX7_tryThing_165 : decode cX7_tryThing 165 = .ok (.invokevirtual 175, 3) := by decide +kernel
theorem dX7_tryThing_168 : decode cX7_tryThing 168 = .ok (.ifCond .eq 16, 3) := by decide +kernel
theorem dX7_tryThing_171 : decode cX7_tryThing 171 = .ok (.aload_n 0, 1) := by decide +kernel
theorem dX7_tryThing_172 : decode cX7_tryThing 172 = .ok (.iconst 1, 1) := by decide +kernel
theorem dX7_tryThing_173 : decode cX7_tryThing 173 = .ok (.iload_n 2, 1) := by decide +kernel
theorem dX7_tryThing_174 : decode cX7_tryThing 174 = .ok (.invokevirtual 156, 3) := by decide +kernel
theorem dX7_tryThing_177 : decode cX7_tryThing 177 = .ok (.ifCond .ne 7, 3) := by decide +kernel
theorem dX7_tryThing_180 : decode cX7_tryThing 180 = .ok (.iconst 1, 1) := by decide +kernel
theorem dX7_tryThing_181 : decode cX7_tryThing 181 = .ok (.goto 4, 3) := by decide +kernel
theorem dX7_tryThing_184 : decode cX7_tryThing 184 = .ok (.iconst 0, 1) := by decide +kernel
theorem dX7_tryThing_185 : decode cX7_tryThing 185 = .ok (.istore 5, 2) := by decide +kernel
theorem dX7_tryThing_187 : decode cX7_tryThing 187 = .ok (.iload 5, 2) := by decide +kernel
theorem dX7_tryThing_189 : decode cX7_tryThing 189 = .ok (.ifCond .eq 9, 3) := by decide +kernel
theorem dX7_tryThing_192 : decode cX7_tryThing 192 = .ok (.aload_n 0, 1) := by decide +kernel
theorem dX7_tryThing_193 : decode cX7_tryThing 193 = .ok (.iconst 1, 1) := by decide +kernel
theorem dX7_tryThing_194 : decode cX7_tryThing 194 = .ok (.iload_n 2, 1) := by decide +kernel
theorem dX7_tryThing_195 : decode cX7_tryThing 195 = .ok (.invokevirtual 187, 3) := by decide +kernel
theorem dX7_tryThing_198 : decode cX7_tryThing 198 = .ok (.iload 5, 2) := by decide +kernel
theorem dX7_tryThing_200 : decode cX7_tryThing 200 = .ok (.ireturn, 1) := by decide +kernel
theorem dX7_tryThing_201 : decode cX7_tryThing 201 = .ok (.iconst 0, 1) := by decide +kernel
theorem dX7_tryThing_202 : decode cX7_tryThing 202 = .ok (.ireturn, 1) := by decide +kernel
set_option maxRecDepth 20000 in
theorem ggX7_judge_X7_in : GoodIn wsX7_judge wsX7_in := goodIn_r _ [5] (by decide +kernel) (by decide +kernel)
set_option maxRecDepth 20000 in
theorem gX7_judge_X7_in : GoodIn wsX7_judge (va_wsS RX7 77 yX7_in wsX7_in) := goodIn_app (goodIn_of _ (by decide +kernel)) ggX7_judge_X7_in
set_option maxRecDepth 20000 in
theorem ggX7_judge_X7_power : GoodIn wsX7_judge wsX7_power := goodIn_r _ [8] (by decide +kernel) (by decide +kernel)
set_option maxRecDepth 20000 in
theorem gX7_judge_X7_power : GoodIn wsX7_judge (va_wsS RX7 206 yX7_power wsX7_power) := goodIn_app (goodIn_of _ (by decide +kernel)) ggX7_judge_X7_power
set_option maxRecDepth 20000 in
theorem ggX7_judge_X7_layTrial : GoodIn wsX7_judge wsX7_layTrial := goodIn_r _ [12, 13, 78, 79, 80, 81, 82, 83, 84, 85, 86, 87, 88, 89, 90, 91, 92, 93, 94, 95, 96, 97, 98, 99, 100, 101, 102, 103, 104, 105, 106, 107, 108, 109, 110, 111, 112, 113, 114] (by decide +kernel) (by decide +kernel)
set_option maxRecDepth 20000 in
theorem gX7_judge_X7_layTrial : GoodIn wsX7_judge (wsV RX7 193 RX7 yX7_layTrial wsX7_layTrial) := goodIn_app (goodIn_of _ (by decide +kernel)) ggX7_judge_X7_layTrial
set_option maxRecDepth 20000 in
theorem ggX7_judge_X7_tryThing : GoodIn wsX7_judge wsX7_tryThing := goodIn_r _ [17, 13, 18, 19, 20, 21, 4, 22, 23, 24, 25, 26, 27, 28, 29, 30, 31, 32, 33, 34, 35, 36, 37, 38, 39, 40, 41, 42, 43, 44, 45, 46, 47, 48, 49, 50, 51, 52, 53, 54, 55, 56, 57, 58, 59, 60, 61, 62, 63, 64, 65, 2, 3, 5, 66, 67, 68, 69, 70, 71, 72, 73, 74, 75, 76, 77, 78, 79, 80, 81, 82, 83, 84, 85, 86, 87, 88, 89, 90, 91, 92, 93, 94, 95, 96, 97, 98, 99, 100, 101, 102, 103, 104, 105, 106, 107, 108, 109, 110, 111, 112, 113, 114] (by decide +kernel) (by decide +kernel)
set_option maxRecDepth 20000 in
theorem gX7_judge_X7_tryThing : GoodIn wsX7_judge (wsV RX7 209 RX7 yX7_tryThing wsX7_tryThing) := goodIn_app (goodIn_of _ (by decide +kernel)) ggX7_judge_X7_tryThing
theorem dX7_judge_0 : decode cX7_judge 0 = .ok (.iload_n 1, 1) := by decide +kernel
theorem dX7_judge_1 : decode cX7_judge 1 = .ok (.i2l, 1) := by decide +kernel
theorem dX7_judge_2 : decode cX7_judge 2 = .ok (.lconst 1, 1) := by decide +kernel
theorem dX7_judge_3 : decode cX7_judge 3 = .ok (.ldc2_w 138, 3) := by decide +kernel
theorem dX7_judge_6 : decode cX7_judge 6 = .ok (.invokestatic 77, 3) := by decide +kernel
theorem dX7_judge_9 : decode cX7_judge 9 = .ok (.ifCond .eq 21, 3) := by decide +kernel
theorem dX7_judge_12 : decode cX7_judge 12 = .ok (.iload_n 2, 1) := by decide +kernel
theorem dX7_judge_13 : decode cX7_judge 13 = .ok (.i2l, 1) := by decide +kernel
theorem dX7_judge_14 : decode cX7_judge 14 = .ok (.lconst 0, 1) := by decide +kernel
theorem dX7_judge_15 : decode cX7_judge 15 = .ok (.bipush 100, 2) := by decide +kernel
theorem dX7_judge_17 : decode cX7_judge 17 = .ok (.iload_n 1, 1) := by decide +kernel
theorem dX7_judge_18 : decode cX7_judge 18 = .ok (.invokestatic 206, 3) := by decide +kernel
theorem dX7_judge_21 : decode cX7_judge 21 = .ok (.iconst 1, 1) := by decide +kernel
theorem dX7_judge_22 : decode cX7_judge 22 = .ok (.isub, 1) := by decide +kernel
theorem dX7_judge_23 : decode cX7_judge 23 = .ok (.i2l, 1) := by decide +kernel
theorem dX7_judge_24 : decode cX7_judge 24 = .ok (.invokestatic 77, 3) := by decide +kernel
theorem dX7_judge_27 : decode cX7_judge 27 = .ok (.ifCond .ne 6, 3) := by decide +kernel
theorem dX7_judge_30 : decode cX7_judge 30 = .ok (.bipush (-2), 2) := by decide +kernel
theorem dX7_judge_32 : decode cX7_judge 32 = .ok (.ireturn, 1) := by decide +kernel
theorem dX7_judge_33 : decode cX7_judge 33 = .ok (.aload_n 0, 1) := by decide +kernel
theorem dX7_judge_34 : decode cX7_judge 34 = .ok (.invokevirtual 193, 3) := by decide +kernel
theorem dX7_judge_37 : decode cX7_judge 37 = .ok (.iconst 0, 1) := by decide +kernel
theorem dX7_judge_38 : decode cX7_judge 38 = .ok (.istore_n 3, 1) := by decide +kernel
theorem dX7_judge_39 : decode cX7_judge 39 = .ok (.iload_n 3, 1) := by decide +kernel
theorem dX7_judge_40 : decode cX7_judge 40 = .ok (.iload_n 1, 1) := by decide +kernel
theorem dX7_judge_41 : decode cX7_judge 41 = .ok (.if_icmp .ge 45, 3) := by decide +kernel
theorem dX7_judge_44 : decode cX7_judge 44 = .ok (.iload_n 2, 1) := by decide +kernel
theorem dX7_judge_45 : decode cX7_judge 45 = .ok (.bipush 100, 2) := by decide +kernel
theorem dX7_judge_47 : decode cX7_judge 47 = .ok (.iload_n 1, 1) := by decide +kernel
theorem dX7_judge_48 : decode cX7_judge 48 = .ok (.iconst 1, 1) := by decide +kernel
theorem dX7_judge_49 : decode cX7_judge 49 = .ok (.isub, 1) := by decide +kernel
theorem dX7_judge_50 : decode cX7_judge 50 = .ok (.iload_n 3, 1) := by decide +kernel
theorem dX7_judge_51 : decode cX7_judge 51 = .ok (.isub, 1) := by decide +kernel
theorem dX7_judge_52 : decode cX7_judge 52 = .ok (.invokestatic 206, 3) := by decide +kernel
theorem dX7_judge_55 : decode cX7_judge 55 = .ok (.idiv, 1) := by decide +kernel
theorem dX7_judge_56 : decode cX7_judge 56 = .ok (.bipush 100, 2) := by decide +kernel
theorem dX7_judge_58 : decode cX7_judge 58 = .ok (.irem, 1) := by decide +kernel
theorem dX7_judge_59 : decode cX7_judge 59 = .ok (.istore 4, 2) := by decide +kernel
theorem dX7_judge_61 : decode cX7_judge 61 = .ok (.aload_n 0, 1) := by decide +kernel
theorem dX7_judge_62 : decode cX7_judge 62 = .ok (.iload 4, 2) := by decide +kernel
theorem dX7_judge_64 : decode cX7_judge 64 = .ok (.bipush 10, 2) := by decide +kernel
theorem dX7_judge_66 : decode cX7_judge 66 = .ok (.idiv, 1) := by decide +kernel
theorem dX7_judge_67 : decode cX7_judge 67 = .ok (.iload 4, 2) := by decide +kernel
theorem dX7_judge_69 : decode cX7_judge 69 = .ok (.bipush 10, 2) := by decide +kernel
theorem dX7_judge_71 : decode cX7_judge 71 = .ok (.irem, 1) := by decide +kernel
theorem dX7_judge_72 : decode cX7_judge 72 = .ok (.invokevirtual 209, 3) := by decide +kernel
theorem dX7_judge_75 : decode cX7_judge 75 = .ok (.ifCond .ne 5, 3) := by decide +kernel
theorem dX7_judge_78 : decode cX7_judge 78 = .ok (.iload_n 3, 1) := by decide +kernel
theorem dX7_judge_79 : decode cX7_judge 79 = .ok (.ireturn, 1) := by decide +kernel
theorem dX7_judge_80 : decode cX7_judge 80 = .ok (.iinc 3 1, 3) := by decide +kernel
theorem dX7_judge_83 : decode cX7_judge 83 = .ok (.goto (-44), 3) := by decide +kernel
theorem dX7_judge_86 : decode cX7_judge 86 = .ok (.bipush (-9), 2) := by decide +kernel
theorem dX7_judge_88 : decode cX7_judge 88 = .ok (.ireturn, 1) := by decide +kernel
set_option maxRecDepth 20000 in
theorem ggX7_hear_X7_isWalker : GoodIn wsX7_hear wsX7_isWalker := goodIn_r _ [10, 11, 12, 13, 9, 14, 20, 21, 22, 23, 24, 25, 26, 27, 28, 29, 30, 31, 32, 33, 34, 35, 36, 37, 38, 39, 40, 41, 42, 43, 44, 45, 46, 47, 48, 49, 50, 51, 52, 53, 54, 55, 56] (by decide +kernel) (by decide +kernel)
set_option maxRecDepth 20000 in
theorem gX7_hear_X7_isWalker : GoodIn wsX7_hear (wsV RX7 175 RX7 yX7_isWalker wsX7_isWalker) := goodIn_app (goodIn_of _ (by decide +kernel)) ggX7_hear_X7_isWalker
set_option maxRecDepth 20000 in
theorem ggX7_hear_X7_isJoint : GoodIn wsX7_hear wsX7_isJoint := goodIn_r _ [18, 19, 12, 13, 9, 14, 20, 21, 22, 23, 24, 25, 26, 27, 28, 29, 30, 31, 32, 33, 34, 35, 36, 37, 38, 39, 40, 41, 42, 43, 44, 45, 46, 47, 48, 49, 50, 51, 52, 53, 54, 55, 56] (by decide +kernel) (by decide +kernel)
set_option maxRecDepth 20000 in
theorem gX7_hear_X7_isJoint : GoodIn wsX7_hear (wsV RX7 168 RX7 yX7_isJoint wsX7_isJoint) := goodIn_app (goodIn_of _ (by decide +kernel)) ggX7_hear_X7_isJoint
set_option maxRecDepth 20000 in
theorem ggX7_hear_X7_in : GoodIn wsX7_hear wsX7_in := goodIn_r _ [14] (by decide +kernel) (by decide +kernel)
set_option maxRecDepth 20000 in
theorem gX7_hear_X7_in : GoodIn wsX7_hear (va_wsS RX7 77 yX7_in wsX7_in) := goodIn_app (goodIn_of _ (by decide +kernel)) ggX7_hear_X7_in
theorem dX7_hear_0 : decode cX7_hear 0 = .ok (.aload_n 0, 1) := by decide +kernel
theorem dX7_hear_1 : decode cX7_hear 1 = .ok (.iload_n 1, 1) := by decide +kernel
theorem dX7_hear_2 : decode cX7_hear 2 = .ok (.invokevirtual 175, 3) := by decide +kernel
theorem dX7_hear_5 : decode cX7_hear 5 = .ok (.ifCond .eq 11, 3) := by decide +kernel
theorem dX7_hear_8 : decode cX7_hear 8 = .ok (.aload_n 0, 1) := by decide +kernel
theorem dX7_hear_9 : decode cX7_hear 9 = .ok (.iload_n 2, 1) := by decide +kernel
theorem dX7_hear_10 : decode cX7_hear 10 = .ok (.invokevirtual 168, 3) := by decide +kernel
theorem dX7_hear_13 : decode cX7_hear 13 = .ok (.ifCond .ne 5, 3) := by decide +kernel
theorem dX7_hear_16 : decode cX7_hear 16 = .ok (.iconst (-1), 1) := by decide +kernel
theorem dX7_hear_17 : decode cX7_hear 17 = .ok (.ireturn, 1) := by decide +kernel
theorem dX7_hear_18 : decode cX7_hear 18 = .ok (.iload_n 3, 1) := by decide +kernel
theorem dX7_hear_19 : decode cX7_hear 19 = .ok (.i2l, 1) := by decide +kernel
theorem dX7_hear_20 : decode cX7_hear 20 = .ok (.lconst 1, 1) := by decide +kernel
theorem dX7_hear_21 : decode cX7_hear 21 = .ok (.ldc2_w 90, 3) := by decide +kernel
theorem dX7_hear_24 : decode cX7_hear 24 = .ok (.invokestatic 77, 3) := by decide +kernel
theorem dX7_hear_27 : decode cX7_hear 27 = .ok (.ifCond .ne 6, 3) := by decide +kernel
theorem dX7_hear_30 : decode cX7_hear 30 = .ok (.bipush (-2), 2) := by decide +kernel
theorem dX7_hear_32 : decode cX7_hear 32 = .ok (.ireturn, 1) := by decide +kernel
theorem dX7_hear_33 : decode cX7_hear 33 = .ok (.aload_n 0, 1) := by decide +kernel
theorem dX7_hear_34 : decode cX7_hear 34 = .ok (.getfield 212, 3) := by decide +kernel
theorem dX7_hear_37 : decode cX7_hear 37 = .ok (.bipush 6, 2) := by decide +kernel
theorem dX7_hear_39 : decode cX7_hear 39 = .ok (.if_icmp .ne 6, 3) := by decide +kernel
theorem dX7_hear_42 : decode cX7_hear 42 = .ok (.bipush (-4), 2) := by decide +kernel
theorem dX7_hear_44 : decode cX7_hear 44 = .ok (.ireturn, 1) := by decide +kernel
theorem dX7_hear_45 : decode cX7_hear 45 = .ok (.aload_n 0, 1) := by decide +kernel
theorem dX7_hear_46 : decode cX7_hear 46 = .ok (.getfield 52, 3) := by decide +kernel
theorem dX7_hear_49 : decode cX7_hear 49 = .ok (.aload_n 0, 1) := by decide +kernel
theorem dX7_hear_50 : decode cX7_hear 50 = .ok (.getfield 212, 3) := by decide +kernel
theorem dX7_hear_53 : decode cX7_hear 53 = .ok (.iload_n 1, 1) := by decide +kernel
theorem dX7_hear_54 : decode cX7_hear 54 = .ok (.iastore, 1) := by decide +kernel
theorem dX7_hear_55 : decode cX7_hear 55 = .ok (.aload_n 0, 1) := by decide +kernel
theorem dX7_hear_56 : decode cX7_hear 56 = .ok (.getfield 55, 3) := by decide +kernel
theorem dX7_hear_59 : decode cX7_hear 59 = .ok (.aload_n 0, 1) := by decide +kernel
theorem dX7_hear_60 : decode cX7_hear 60 = .ok (.getfield 212, 3) := by decide +kernel
theorem dX7_hear_63 : decode cX7_hear 63 = .ok (.iload_n 2, 1) := by decide +kernel
theorem dX7_hear_64 : decode cX7_hear 64 = .ok (.iastore, 1) := by decide +kernel
theorem dX7_hear_65 : decode cX7_hear 65 = .ok (.aload_n 0, 1) := by decide +kernel
theorem dX7_hear_66 : decode cX7_hear 66 = .ok (.getfield 58, 3) := by decide +kernel
theorem dX7_hear_69 : decode cX7_hear 69 = .ok (.aload_n 0, 1) := by decide +kernel
theorem dX7_hear_70 : decode cX7_hear 70 = .ok (.getfield 212, 3) := by decide +kernel
theorem dX7_hear_73 : decode cX7_hear 73 = .ok (.iload_n 3, 1) := by decide +kernel
theorem dX7_hear_74 : decode cX7_hear 74 = .ok (.iastore, 1) := by decide +kernel
theorem dX7_hear_75 : decode cX7_hear 75 = .ok (.aload_n 0, 1) := by decide +kernel
theorem dX7_hear_76 : decode cX7_hear 76 = .ok (.dup, 1) := by decide +kernel
theorem dX7_hear_77 : decode cX7_hear 77 = .ok (.getfield 212, 3) := by decide +kernel
theorem dX7_hear_80 : decode cX7_hear 80 = .ok (.iconst 1, 1) := by decide +kernel
theorem dX7_hear_81 : decode cX7_hear 81 = .ok (.iadd, 1) := by decide +kernel
theorem dX7_hear_82 : decode cX7_hear 82 = .ok (.putfield 212, 3) := by decide +kernel
theorem dX7_hear_85 : decode cX7_hear 85 = .ok (.aload_n 0, 1) := by decide +kernel
theorem dX7_hear_86 : decode cX7_hear 86 = .ok (.getfield 212, 3) := by decide +kernel
theorem dX7_hear_89 : decode cX7_hear 89 = .ok (.ireturn, 1) := by decide +kernel
theorem dX7_unhear_0 : decode cX7_unhear 0 = .ok (.aload_n 0, 1) := by decide +kernel
theorem dX7_unhear_1 : decode cX7_unhear 1 = .ok (.getfield 212, 3) := by decide +kernel
theorem dX7_unhear_4 : decode cX7_unhear 4 = .ok (.istore_n 1, 1) := by decide +kernel
theorem dX7_unhear_5 : decode cX7_unhear 5 = .ok (.aload_n 0, 1) := by decide +kernel
theorem dX7_unhear_6 : decode cX7_unhear 6 = .ok (.iconst 0, 1) := by decide +kernel
theorem dX7_unhear_7 : decode cX7_unhear 7 = .ok (.putfield 212, 3) := by decide +kernel
theorem dX7_unhear_10 : decode cX7_unhear 10 = .ok (.iload_n 1, 1) := by decide +kernel
theorem dX7_unhear_11 : decode cX7_unhear 11 = .ok (.ireturn, 1) := by decide +kernel
set_option maxRecDepth 20000 in
theorem ggX7_mayTurn_X7_layTrial : GoodIn wsX7_mayTurn wsX7_layTrial := goodIn_r _ [12, 7, 62, 63, 64, 65, 66, 67, 68, 69, 70, 71, 72, 73, 74, 75, 76, 77, 78, 79, 80, 81, 82, 83, 84, 85, 86, 87, 88, 89, 90, 91, 92, 93, 94, 95, 96, 97, 98] (by decide +kernel) (by decide +kernel)
set_option maxRecDepth 20000 in
theorem gX7_mayTurn_X7_layTrial : GoodIn wsX7_mayTurn (wsV RX7 193 RX7 yX7_layTrial wsX7_layTrial) := goodIn_app (goodIn_of _ (by decide +kernel)) ggX7_mayTurn_X7_layTrial
set_option maxRecDepth 20000 in
theorem ggX7_mayTurn_X7_stepOn : GoodIn wsX7_mayTurn wsX7_stepOn := goodIn_r _ [16, 17, 18, 19, 11, 20, 7, 21, 22, 23, 24, 25, 26, 27, 28, 29, 30, 31, 32, 33, 34, 35, 36, 37, 38, 39, 40, 41, 1, 2, 42, 43, 44, 45, 46, 47, 48, 49, 50, 51, 52, 53, 54, 62, 63, 64, 65, 66, 67, 68, 69, 70, 71, 72, 73, 74, 75, 76, 77, 78, 79, 80, 81, 82, 83, 84, 85, 86, 87, 88, 89, 90, 91, 92, 93, 94, 95, 96, 97, 98] (by decide +kernel) (by decide +kernel)
set_option maxRecDepth 20000 in
theorem gX7_mayTurn_X7_stepOn : GoodIn wsX7_mayTurn (wsV RX7 184 RX7 yX7_stepOn wsX7_stepOn) := goodIn_app (goodIn_of _ (by decide +kernel)) ggX7_mayTurn_X7_stepOn
set_option maxRecDepth 20000 in
theorem ggX7_mayTurn_X7_isJoint : GoodIn wsX7_mayTurn wsX7_isJoint := goodIn_r _ [58, 43, 59, 60, 11, 61, 62, 63, 64, 65, 66, 67, 68, 69, 70, 71, 72, 73, 74, 75, 76, 77, 78, 79, 80, 81, 82, 83, 84, 85, 86, 87, 88, 89, 90, 91, 92, 93, 94, 95, 96, 97, 98] (by decide +kernel) (by decide +kernel)
set_option maxRecDepth 20000 in
theorem gX7_mayTurn_X7_isJoint : GoodIn wsX7_mayTurn (wsV RX7 168 RX7 yX7_isJoint wsX7_isJoint) := goodIn_app (goodIn_of _ (by decide +kernel)) ggX7_mayTurn_X7_isJoint
theorem dX7_mayTurn_0 : decode cX7_mayTurn 0 = .ok (.aload_n 0, 1) := by decide +kernel
theorem dX7_mayTurn_1 : decode cX7_mayTurn 1 = .ok (.invokevirtual 193, 3) := by decide +kernel
theorem dX7_mayTurn_4 : decode cX7_mayTurn 4 = .ok (.aload_n 0, 1) := by decide +kernel
theorem dX7_mayTurn_5 : decode cX7_mayTurn 5 = .ok (.iload_n 1, 1) := by decide +kernel
theorem dX7_mayTurn_6 : decode cX7_mayTurn 6 = .ok (.putfield 72, 3) := by decide +kernel
theorem dX7_mayTurn_9 : decode cX7_mayTurn 9 = .ok (.aload_n 0, 1) := by decide +kernel
theorem dX7_mayTurn_10 : decode cX7_mayTurn 10 = .ok (.iload_n 2, 1) := by decide +kernel
theorem dX7_mayTurn_11 : decode cX7_mayTurn 11 = .ok (.putfield 145, 3) := by decide +kernel
theorem dX7_mayTurn_14 : decode cX7_mayTurn 14 = .ok (.iconst 1, 1) := by decide +kernel
theorem dX7_mayTurn_15 : decode cX7_mayTurn 15 = .ok (.istore_n 3, 1) := by decide +kernel
theorem dX7_mayTurn_16 : decode cX7_mayTurn 16 = .ok (.iconst 1, 1) := by decide +kernel
theorem dX7_mayTurn_17 : decode cX7_mayTurn 17 = .ok (.istore 4, 2) := by decide +kernel
theorem dX7_mayTurn_19 : decode cX7_mayTurn 19 = .ok (.iload 4, 2) := by decide +kernel
theorem dX7_mayTurn_21 : decode cX7_mayTurn 21 = .ok (.bipush 10, 2) := by decide +kernel
theorem dX7_mayTurn_23 : decode cX7_mayTurn 23 = .ok (.if_icmp .ge 111, 3) := by decide +kernel
theorem dX7_mayTurn_26 : decode cX7_mayTurn 26 = .ok (.aload_n 0, 1) := by decide +kernel
theorem dX7_mayTurn_27 : decode cX7_mayTurn 27 = .ok (.iconst 1, 1) := by decide +kernel
theorem dX7_mayTurn_28 : decode cX7_mayTurn 28 = .ok (.invokevirtual 184, 3) := by decide +kernel
theorem dX7_mayTurn_31 : decode cX7_mayTurn 31 = .ok (.pop, 1) := by decide +kernel
theorem dX7_mayTurn_32 : decode cX7_mayTurn 32 = .ok (.iconst 0, 1) := by decide +kernel
theorem dX7_mayTurn_33 : decode cX7_mayTurn 33 = .ok (.istore 5, 2) := by decide +kernel
theorem dX7_mayTurn_35 : decode cX7_mayTurn 35 = .ok (.iload 5, 2) := by decide +kernel
theorem dX7_mayTurn_37 : decode cX7_mayTurn 37 = .ok (.aload_n 0, 1) := by decide +kernel
theorem dX7_mayTurn_38 : decode cX7_mayTurn 38 = .ok (.getfield 212, 3) := by decide +kernel
theorem dX7_mayTurn_41 : decode cX7_mayTurn 41 = .ok (.if_icmp .ge 87, 3) := by decide +kernel
theorem dX7_mayTurn_44 : decode cX7_mayTurn 44 = .ok (.aload_n 0, 1) := by decide +kernel
theorem dX7_mayTurn_45 : decode cX7_mayTurn 45 = .ok (.getfield 52, 3) := by decide +kernel
theorem dX7_mayTurn_48 : decode cX7_mayTurn 48 = .ok (.iload 5, 2) := by decide +kernel
theorem dX7_mayTurn_50 : decode cX7_mayTurn 50 = .ok (.iaload, 1) := by decide +kernel
theorem dX7_mayTurn_51 : decode cX7_mayTurn 51 = .ok (.iload_n 1, 1) := by decide +kernel
theorem dX7_mayTurn_52 : decode cX7_mayTurn 52 = .ok (.if_icmp .ne 33, 3) := by decide +kernel
theorem dX7_mayTurn_55 : decode cX7_mayTurn 55 = .ok (.aload_n 0, 1) := by decide +kernel
theorem dX7_mayTurn_56 : decode cX7_mayTurn 56 = .ok (.getfield 58, 3) := by decide +kernel
theorem dX7_mayTurn_59 : decode cX7_mayTurn 59 = .ok (.iload 5, 2) := by decide +kernel
theorem dX7_mayTurn_61 : decode cX7_mayTurn 61 = .ok (.iaload, 1) := by decide +kernel
theorem dX7_mayTurn_62 : decode cX7_mayTurn 62 = .ok (.iload 4, 2) := by decide +kernel
theorem dX7_mayTurn_64 : decode cX7_mayTurn 64 = .ok (.if_icmp .ne 21, 3) := by decide +kernel
theorem dX7_mayTurn_67 : decode cX7_mayTurn 67 = .ok (.aload_n 0, 1) := by decide +kernel
theorem dX7_mayTurn_68 : decode cX7_mayTurn 68 = .ok (.aload_n 0, 1) := by decide +kernel
theorem dX7_mayTurn_69 : decode cX7_mayTurn 69 = .ok (.getfield 55, 3) := by decide +kernel
theorem dX7_mayTurn_72 : decode cX7_mayTurn 72 = .ok (.iload 5, 2) := by decide +kernel
theorem dX7_mayTurn_74 : decode cX7_mayTurn 74 = .ok (.iaload, 1) := by decide +kernel
theorem dX7_mayTurn_75 : decode cX7_mayTurn 75 = .ok (.invokevirtual 168, 3) := by decide +kernel
theorem dX7_mayTurn_78 : decode cX7_mayTurn 78 = .ok (.ifCond .eq 7, 3) := by decide +kernel
theorem dX7_mayTurn_81 : decode cX7_mayTurn 81 = .ok (.iconst 1, 1) := by decide +kernel
theorem dX7_mayTurn_82 : decode cX7_mayTurn 82 = .ok (.goto 4, 3) := by decide +kernel
theorem dX7_mayTurn_85 : decode cX7_mayTurn 85 = .ok (.iconst 0, 1) := by decide +kernel
theorem dX7_mayTurn_86 : decode cX7_mayTurn 86 = .ok (.istore 6, 2) := by decide +kernel
theorem dX7_mayTurn_88 : decode cX7_mayTurn 88 = .ok (.iload_n 3, 1) := by decide +kernel
theorem dX7_mayTurn_89 : decode cX7_mayTurn 89 = .ok (.ifCond .eq 31, 3) := by decide +kernel
theorem dX7_mayTurn_92 : decode cX7_mayTurn 92 = .ok (.iload 6, 2) := by decide +kernel
theorem dX7_mayTurn_94 : decode cX7_mayTurn 94 = .ok (.ifCond .eq 22, 3) := by decide +kernel
theorem dX7_mayTurn_97 : decode cX7_mayTurn 97 = .ok (.aload_n 0, 1) := by decide +kernel
theorem dX7_mayTurn_98 : decode cX7_mayTurn 98 = .ok (.getfield 28, 3) := by decide +kernel
theorem dX7_mayTurn_101 : decode cX7_mayTurn 101 = .ok (.bipush 19, 2) := by decide +kernel
theorem dX7_mayTurn_103 : decode cX7_mayTurn 103 = .ok (.iload_n 1, 1) := by decide +kernel
theorem dX7_mayTurn_104 : decode cX7_mayTurn 104 = .ok (.iadd, 1) := by decide +kernel
theorem dX7_mayTurn_105 : decode cX7_mayTurn 105 = .ok (.iaload, 1) := by decide +kernel
theorem dX7_mayTurn_106 : decode cX7_mayTurn 106 = .ok (.aload_n 0, 1) := by decide +kernel
theorem dX7_mayTurn_107 : decode cX7_mayTurn 107 = .ok (.getfield 55, 3) := by decide +kernel
theorem dX7_mayTurn_110 : decode cX7_mayTurn 110 = .ok (.iload 5, 2) := by decide +kernel
theorem dX7_mayTurn_112 : decode cX7_mayTurn 112 = .ok (.iaload, 1) := by decide +kernel
theorem dX7_mayTurn_113 : decode cX7_mayTurn 113 = .ok (.if_icmp .ne 7, 3) := by decide +kernel
theorem dX7_mayTurn_116 : decode cX7_mayTurn 116 = .ok (.iconst 1, 1) := by decide +kernel
theorem dX7_mayTurn_117 : decode cX7_mayTurn 117 = .ok (.goto 4, 3) := by decide +kernel
theorem dX7_mayTurn_120 : decode cX7_mayTurn 120 = .ok (.iconst 0, 1) := by decide +kernel
theorem dX7_mayTurn_121 : decode cX7_mayTurn 121 = .ok (.istore_n 3, 1) := by decide +kernel
theorem dX7_mayTurn_122 : decode cX7_mayTurn 122 = .ok (.iinc 5 1, 3) := by decide +kernel
theorem dX7_mayTurn_125 : decode cX7_mayTurn 125 = .ok (.goto (-90), 3) := by decide +kernel
theorem dX7_mayTurn_128 : decode cX7_mayTurn 128 = .ok (.iinc 4 1, 3) := by decide +kernel
theorem dX7_mayTurn_131 : decode cX7_mayTurn 131 = .ok (.goto (-112), 3) := by decide +kernel
theorem dX7_mayTurn_134 : decode cX7_mayTurn 134 = .ok (.aload_n 0, 1) := by decide +kernel
theorem dX7_mayTurn_135 : decode cX7_mayTurn 135 = .ok (.bipush (-9), 2) := by decide +kernel
theorem dX7_mayTurn_137 : decode cX7_mayTurn 137 = .ok (.putfield 72, 3) := by decide +kernel
theorem dX7_mayTurn_140 : decode cX7_mayTurn 140 = .ok (.iload_n 3, 1) := by decide +kernel
theorem dX7_mayTurn_141 : decode cX7_mayTurn 141 = .ok (.ireturn, 1) := by decide +kernel
set_option maxRecDepth 20000 in
theorem ggX7_turning_X7_isWalker : GoodIn wsX7_turning wsX7_isWalker := goodIn_r _ [5, 6, 7, 8, 4, 9, 70, 71, 72, 73, 74, 75, 76, 77, 78, 79, 80, 81, 82, 83, 84, 85, 86, 87, 88, 89, 90, 91, 92, 93, 94, 95, 96, 97, 98, 99, 100, 101, 102, 103, 104, 105, 106] (by decide +kernel) (by decide +kernel)
set_option maxRecDepth 20000 in
theorem gX7_turning_X7_isWalker : GoodIn wsX7_turning (wsV RX7 175 RX7 yX7_isWalker wsX7_isWalker) := goodIn_app (goodIn_of _ (by decide +kernel)) ggX7_turning_X7_isWalker
set_option maxRecDepth 20000 in
theorem ggX7_turning_X7_isOut : GoodIn wsX7_turning wsX7_isOut := goodIn_r _ [13, 14, 70, 71, 72, 73, 74, 75, 76, 77, 78, 79, 80, 81, 82, 83, 84, 85, 86, 87, 88, 89, 90, 91, 92, 93, 94, 95, 96, 97, 98, 99, 100, 101, 102, 103, 104, 105, 106] (by decide +kernel) (by decide +kernel)
set_option maxRecDepth 20000 in
theorem gX7_turning_X7_isOut : GoodIn wsX7_turning (wsV RX7 156 RX7 yX7_isOut wsX7_isOut) := goodIn_app (goodIn_of _ (by decide +kernel)) ggX7_turning_X7_isOut
set_option maxRecDepth 20000 in
theorem ggX7_turning_X7_mayTurn : GoodIn wsX7_turning wsX7_mayTurn := goodIn_r _ [18, 19, 20, 21, 22, 23, 24, 14, 25, 26, 27, 4, 28, 29, 30, 31, 32, 33, 34, 35, 36, 37, 38, 39, 40, 41, 42, 6, 43, 44, 45, 10, 11, 12, 13, 46, 47, 48, 49, 50, 51, 52, 53, 54, 55, 56, 57, 58, 59, 60, 61, 62, 63, 64, 65, 66, 67, 68, 69, 7, 8, 9, 70, 71, 72, 73, 74, 75, 76, 77, 78, 79, 80, 81, 82, 83, 84, 85, 86, 87, 88, 89, 90, 91, 92, 93, 94, 95, 96, 97, 98, 99, 100, 101, 102, 103, 104, 105, 106] (by decide +kernel) (by decide +kernel)
set_option maxRecDepth 20000 in
theorem gX7_turning_X7_mayTurn : GoodIn wsX7_turning (wsV RX7 215 RX7 yX7_mayTurn wsX7_mayTurn) := goodIn_app (goodIn_of _ (by decide +kernel)) ggX7_turning_X7_mayTurn
theorem dX7_turning_0 : decode cX7_turning 0 = .ok (.aload_n 0, 1) := by decide +kernel
theorem dX7_turning_1 : decode cX7_turning 1 = .ok (.iload_n 1, 1) := by decide +kernel
theorem dX7_turning_2 : decode cX7_turning 2 = .ok (.invokevirtual 175, 3) := by decide +kernel
theorem dX7_turning_5 : decode cX7_turning 5 = .ok (.ifCond .ne 5, 3) := by decide +kernel
theorem dX7_turning_8 : decode cX7_turning 8 = .ok (.iconst (-1), 1) := by decide +kernel
theorem dX7_turning_9 : decode cX7_turning 9 = .ok (.ireturn, 1) := by decide +kernel
theorem dX7_turning_10 : decode cX7_turning 10 = .ok (.aload_n 0, 1) := by decide +kernel
theorem dX7_turning_11 : decode cX7_turning 11 = .ok (.iconst 0, 1) := by decide +kernel
theorem dX7_turning_12 : decode cX7_turning 12 = .ok (.iload_n 1, 1) := by decide +kernel
theorem dX7_turning_13 : decode cX7_turning 13 = .ok (.invokevirtual 156, 3) := by decide +kernel
theorem dX7_turning_16 : decode cX7_turning 16 = .ok (.ifCond .eq 6, 3) := by decide +kernel
theorem dX7_turning_19 : decode cX7_turning 19 = .ok (.bipush (-3), 2) := by decide +kernel
theorem dX7_turning_21 : decode cX7_turning 21 = .ok (.ireturn, 1) := by decide +kernel
theorem dX7_turning_22 : decode cX7_turning 22 = .ok (.iconst 0, 1) := by decide +kernel
theorem dX7_turning_23 : decode cX7_turning 23 = .ok (.istore_n 2, 1) := by decide +kernel
theorem dX7_turning_24 : decode cX7_turning 24 = .ok (.iconst 0, 1) := by decide +kernel
theorem dX7_turning_25 : decode cX7_turning 25 = .ok (.istore_n 3, 1) := by decide +kernel
theorem dX7_turning_26 : decode cX7_turning 26 = .ok (.iload_n 3, 1) := by decide +kernel
theorem dX7_turning_27 : decode cX7_turning 27 = .ok (.iconst 4, 1) := by decide +kernel
theorem dX7_turning_28 : decode cX7_turning 28 = .ok (.if_icmp .ge 28, 3) := by decide +kernel
theorem dX7_turning_31 : decode cX7_turning 31 = .ok (.iload_n 2, 1) := by decide +kernel
theorem dX7_turning_32 : decode cX7_turning 32 = .ok (.aload_n 0, 1) := by decide +kernel
theorem dX7_turning_33 : decode cX7_turning 33 = .ok (.iload_n 1, 1) := by decide +kernel
theorem dX7_turning_34 : decode cX7_turning 34 = .ok (.iload_n 3, 1) := by decide +kernel
theorem dX7_turning_35 : decode cX7_turning 35 = .ok (.invokevirtual 215, 3) := by decide +kernel
theorem dX7_turning_38 : decode cX7_turning 38 = .ok (.ifCond .eq 9, 3) := by decide +kernel
theorem dX7_turning_41 : decode cX7_turning 41 = .ok (.iconst 1, 1) := by decide +kernel
theorem dX7_turning_42 : decode cX7_turning 42 = .ok (.iload_n 3, 1) := by decide +kernel
theorem dX7_turning_43 : decode cX7_turning 43 = .ok (.ishl, 1) := by decide +kernel
theorem dX7_turning_44 : decode cX7_turning 44 = .ok (.goto 4, 3) := by decide +kernel
theorem dX7_turning_47 : decode cX7_turning 47 = .ok (.iconst 0, 1) := by decide +kernel
theorem dX7_turning_48 : decode cX7_turning 48 = .ok (.ior, 1) := by decide +kernel
theorem dX7_turning_49 : decode cX7_turning 49 = .ok (.istore_n 2, 1) := by decide +kernel
theorem dX7_turning_50 : decode cX7_turning 50 = .ok (.iinc 3 1, 3) := by decide +kernel
theorem dX7_turning_53 : decode cX7_turning 53 = .ok (.goto (-27), 3) := by decide +kernel
theorem dX7_turning_56 : decode cX7_turning 56 = .ok (.iload_n 2, 1) := by decide +kernel
theorem dX7_turning_57 : decode cX7_turning 57 = .ok (.ireturn, 1) := by decide +kernel
theorem dX7_factorial_0 : decode cX7_factorial 0 = .ok (.iconst 1, 1) := by decide +kernel
theorem dX7_factorial_1 : decode cX7_factorial 1 = .ok (.istore_n 1, 1) := by decide +kernel
theorem dX7_factorial_2 : decode cX7_factorial 2 = .ok (.iconst 2, 1) := by decide +kernel
theorem dX7_factorial_3 : decode cX7_factorial 3 = .ok (.istore_n 2, 1) := by decide +kernel
theorem dX7_factorial_4 : decode cX7_factorial 4 = .ok (.iload_n 2, 1) := by decide +kernel
theorem dX7_factorial_5 : decode cX7_factorial 5 = .ok (.iload_n 0, 1) := by decide +kernel
theorem dX7_factorial_6 : decode cX7_factorial 6 = .ok (.if_icmp .gt 13, 3) := by decide +kernel
theorem dX7_factorial_9 : decode cX7_factorial 9 = .ok (.iload_n 1, 1) := by decide +kernel
theorem dX7_factorial_10 : decode cX7_factorial 10 = .ok (.iload_n 2, 1) := by decide +kernel
theorem dX7_factorial_11 : decode cX7_factorial 11 = .ok (.imul, 1) := by decide +kernel
theorem dX7_factorial_12 : decode cX7_factorial 12 = .ok (.istore_n 1, 1) := by decide +kernel
theorem dX7_factorial_13 : decode cX7_factorial 13 = .ok (.iinc 2 1, 3) := by decide +kernel
theorem dX7_factorial_16 : decode cX7_factorial 16 = .ok (.goto (-12), 3) := by decide +kernel
theorem dX7_factorial_19 : decode cX7_factorial 19 = .ok (.iload_n 1, 1) := by decide +kernel
theorem dX7_factorial_20 : decode cX7_factorial 20 = .ok (.ireturn, 1) := by decide +kernel
theorem dX7_common_0 : decode cX7_common 0 = .ok (.iload_n 0, 1) := by decide +kernel
theorem dX7_common_1 : decode cX7_common 1 = .ok (.ifCond .ge 8, 3) := by decide +kernel
theorem dX7_common_4 : decode cX7_common 4 = .ok (.iload_n 0, 1) := by decide +kernel
theorem dX7_common_5 : decode cX7_common 5 = .ok (.ineg, 1) := by decide +kernel
theorem dX7_common_6 : decode cX7_common 6 = .ok (.goto 4, 3) := by decide +kernel
theorem dX7_common_9 : decode cX7_common 9 = .ok (.iload_n 0, 1) := by decide +kernel
theorem dX7_common_10 : decode cX7_common 10 = .ok (.istore_n 2, 1) := by decide +kernel
theorem dX7_common_11 : decode cX7_common 11 = .ok (.iload_n 1, 1) := by decide +kernel
theorem dX7_common_12 : decode cX7_common 12 = .ok (.istore_n 3, 1) := by decide +kernel
theorem dX7_common_13 : decode cX7_common 13 = .ok (.iload_n 3, 1) := by decide +kernel
theorem dX7_common_14 : decode cX7_common 14 = .ok (.ifCond .eq 16, 3) := by decide +kernel
theorem dX7_common_17 : decode cX7_common 17 = .ok (.iload_n 2, 1) := by decide +kernel
theorem dX7_common_18 : decode cX7_common 18 = .ok (.iload_n 3, 1) := by decide +kernel
theorem dX7_common_19 : decode cX7_common 19 = .ok (.irem, 1) := by decide +kernel
theorem dX7_common_20 : decode cX7_common 20 = .ok (.istore 4, 2) := by decide +kernel
theorem dX7_common_22 : decode cX7_common 22 = .ok (.iload_n 3, 1) := by decide +kernel
theorem dX7_common_23 : decode cX7_common 23 = .ok (.istore_n 2, 1) := by decide +kernel
theorem dX7_common_24 : decode cX7_common 24 = .ok (.iload 4, 2) := by decide +kernel
theorem dX7_common_26 : decode cX7_common 26 = .ok (.istore_n 3, 1) := by decide +kernel
theorem dX7_common_27 : decode cX7_common 27 = .ok (.goto (-14), 3) := by decide +kernel
theorem dX7_common_30 : decode cX7_common 30 = .ok (.iload_n 2, 1) := by decide +kernel
theorem dX7_common_31 : decode cX7_common 31 = .ok (.ireturn, 1) := by decide +kernel
set_option maxRecDepth 20000 in
theorem ggX7_rightBy_X7_layTrial : GoodIn wsX7_rightBy wsX7_layTrial := goodIn_r _ [6, 7, 63, 64, 65, 66, 67, 68, 69, 70, 71, 72, 73, 74, 75, 76, 77, 78, 79, 80, 81, 82, 83, 84, 85, 86, 87, 88, 89, 90, 91, 92, 93, 94, 95, 96, 97, 98, 99] (by decide +kernel) (by decide +kernel)
set_option maxRecDepth 20000 in
theorem gX7_rightBy_X7_layTrial : GoodIn wsX7_rightBy (wsV RX7 193 RX7 yX7_layTrial wsX7_layTrial) := goodIn_app (goodIn_of _ (by decide +kernel)) ggX7_rightBy_X7_layTrial
set_option maxRecDepth 20000 in
theorem ggX7_rightBy_X7_goTrial : GoodIn wsX7_rightBy wsX7_goTrial := goodIn_r _ [11, 12, 13, 14, 5, 15, 16, 17, 18, 19, 7, 20, 21, 22, 23, 24, 25, 26, 1, 27, 28, 29, 30, 31, 32, 33, 34, 35, 36, 37, 38, 39, 40, 41, 42, 43, 44, 45, 46, 47, 48, 49, 50, 51, 52, 53, 54, 63, 64, 65, 66, 67, 68, 69, 70, 71, 72, 73, 74, 75, 76, 77, 78, 79, 80, 81, 82, 83, 84, 85, 86, 87, 88, 89, 90, 91, 92, 93, 94, 95, 96, 97, 98, 99] (by decide +kernel) (by decide +kernel)
set_option maxRecDepth 20000 in
theorem gX7_rightBy_X7_goTrial : GoodIn wsX7_rightBy (wsV RX7 196 RX7 yX7_goTrial wsX7_goTrial) := goodIn_app (goodIn_of _ (by decide +kernel)) ggX7_rightBy_X7_goTrial
set_option maxRecDepth 20000 in
theorem ggX7_rightBy_X7_outOn : GoodIn wsX7_rightBy wsX7_outOn := goodIn_r _ [58, 26, 7, 59, 29, 30, 31, 5, 32, 63, 64, 65, 66, 67, 68, 69, 70, 71, 72, 73, 74, 75, 76, 77, 78, 79, 80, 81, 82, 83, 84, 85, 86, 87, 88, 89, 90, 91, 92, 93, 94, 95, 96, 97, 98, 99] (by decide +kernel) (by decide +kernel)
set_option maxRecDepth 20000 in
theorem gX7_rightBy_X7_outOn : GoodIn wsX7_rightBy (wsV RX7 199 RX7 yX7_outOn wsX7_outOn) := goodIn_app (goodIn_of _ (by decide +kernel)) ggX7_rightBy_X7_outOn
set_option maxRecDepth 20000 in
theorem ggX7_rightBy_X7_ones : GoodIn wsX7_rightBy wsX7_ones := goodIn_r _ [62] (by decide +kernel) (by decide +kernel)
set_option maxRecDepth 20000 in
theorem gX7_rightBy_X7_ones : GoodIn wsX7_rightBy (va_wsS RX7 203 yX7_ones wsX7_ones) := goodIn_app (goodIn_of _ (by decide +kernel)) ggX7_rightBy_X7_ones
theorem dX7_rightBy_0 : decode cX7_rightBy 0 = .ok (.aload_n 0, 1) := by decide +kernel
theorem dX7_rightBy_1 : decode cX7_rightBy 1 = .ok (.invokevirtual 193, 3) := by decide +kernel
theorem dX7_rightBy_4 : decode cX7_rightBy 4 = .ok (.aload_n 0, 1) := by decide +kernel
theorem dX7_rightBy_5 : decode cX7_rightBy 5 = .ok (.iload_n 1, 1) := by decide +kernel
theorem dX7_rightBy_6 : decode cX7_rightBy 6 = .ok (.putfield 68, 3) := by decide +kernel
theorem dX7_rightBy_9 : decode cX7_rightBy 9 = .ok (.aload_n 0, 1) := by decide +kernel
theorem dX7_rightBy_10 : decode cX7_rightBy 10 = .ok (.bipush 20, 2) := by decide +kernel
theorem dX7_rightBy_12 : decode cX7_rightBy 12 = .ok (.invokevirtual 196, 3) := by decide +kernel
theorem dX7_rightBy_15 : decode cX7_rightBy 15 = .ok (.aload_n 0, 1) := by decide +kernel
theorem dX7_rightBy_16 : decode cX7_rightBy 16 = .ok (.bipush 15, 2) := by decide +kernel
theorem dX7_rightBy_18 : decode cX7_rightBy 18 = .ok (.putfield 68, 3) := by decide +kernel
theorem dX7_rightBy_21 : decode cX7_rightBy 21 = .ok (.aload_n 0, 1) := by decide +kernel
theorem dX7_rightBy_22 : decode cX7_rightBy 22 = .ok (.iconst 1, 1) := by decide +kernel
theorem dX7_rightBy_23 : decode cX7_rightBy 23 = .ok (.iconst 1, 1) := by decide +kernel
theorem dX7_rightBy_24 : decode cX7_rightBy 24 = .ok (.invokevirtual 199, 3) := by decide +kernel
theorem dX7_rightBy_27 : decode cX7_rightBy 27 = .ok (.iload_n 1, 1) := by decide +kernel
theorem dX7_rightBy_28 : decode cX7_rightBy 28 = .ok (.iand, 1) := by decide +kernel
theorem dX7_rightBy_29 : decode cX7_rightBy 29 = .ok (.invokestatic 203, 3) := by decide +kernel
theorem dX7_rightBy_32 : decode cX7_rightBy 32 = .ok (.ireturn, 1) := by decide +kernel
set_option maxRecDepth 20000 in
theorem ggX7_share_X7_isWalker : GoodIn wsX7_share wsX7_isWalker := goodIn_r _ [6, 1, 7, 8, 5, 9, 80, 81, 82, 83, 84, 85, 86, 87, 88, 89, 90, 91, 92, 93, 94, 95, 96, 97, 98, 99, 100, 101, 102, 103, 104, 105, 106, 107, 108, 109, 110, 111, 112, 113, 114, 115, 116] (by decide +kernel) (by decide +kernel)
set_option maxRecDepth 20000 in
theorem gX7_share_X7_isWalker : GoodIn wsX7_share (wsV RX7 175 RX7 yX7_isWalker wsX7_isWalker) := goodIn_app (goodIn_of _ (by decide +kernel)) ggX7_share_X7_isWalker
set_option maxRecDepth 20000 in
theorem ggX7_share_X7_has : GoodIn wsX7_share wsX7_has := goodIn_r _ [12] (by decide +kernel) (by decide +kernel)
set_option maxRecDepth 20000 in
theorem gX7_share_X7_has : GoodIn wsX7_share (va_wsS RX7 92 yX7_has wsX7_has) := goodIn_app (goodIn_of _ (by decide +kernel)) ggX7_share_X7_has
set_option maxRecDepth 20000 in
theorem ggX7_share_X7_ones : GoodIn wsX7_share wsX7_ones := goodIn_r _ [15] (by decide +kernel) (by decide +kernel)
set_option maxRecDepth 20000 in
theorem gX7_share_X7_ones : GoodIn wsX7_share (va_wsS RX7 203 yX7_ones wsX7_ones) := goodIn_app (goodIn_of _ (by decide +kernel)) ggX7_share_X7_ones
set_option maxRecDepth 20000 in
theorem ggX7_share_X7_factorial : GoodIn wsX7_share wsX7_factorial := goodIn_r _ [18] (by decide +kernel) (by decide +kernel)
set_option maxRecDepth 20000 in
theorem gX7_share_X7_factorial : GoodIn wsX7_share (va_wsS RX7 218 yX7_factorial wsX7_factorial) := goodIn_app (goodIn_of _ (by decide +kernel)) ggX7_share_X7_factorial
set_option maxRecDepth 20000 in
theorem ggX7_share_X7_rightBy : GoodIn wsX7_share wsX7_rightBy := goodIn_r _ [22, 23, 24, 25, 26, 5, 27, 28, 29, 30, 31, 32, 33, 34, 35, 36, 37, 38, 39, 40, 41, 42, 43, 44, 45, 46, 1, 47, 48, 49, 50, 51, 52, 10, 11, 12, 53, 54, 55, 56, 57, 58, 59, 60, 61, 62, 63, 64, 65, 66, 67, 68, 69, 70, 71, 72, 73, 74, 75, 76, 13, 14, 15, 80, 81, 82, 83, 84, 85, 86, 87, 88, 89, 90, 91, 92, 93, 94, 95, 96, 97, 98, 99, 100, 101, 102, 103, 104, 105, 106, 107, 108, 109, 110, 111, 112, 113, 114, 115, 116] (by decide +kernel) (by decide +kernel)
set_option maxRecDepth 20000 in
theorem gX7_share_X7_rightBy : GoodIn wsX7_share (wsV RX7 221 RX7 yX7_rightBy wsX7_rightBy) := goodIn_app (goodIn_of _ (by decide +kernel)) ggX7_share_X7_rightBy
set_option maxRecDepth 20000 in
theorem ggX7_share_X7_common : GoodIn wsX7_share wsX7_common := goodIn_r _ [79] (by decide +kernel) (by decide +kernel)
set_option maxRecDepth 20000 in
theorem gX7_share_X7_common : GoodIn wsX7_share (va_wsS RX7 224 yX7_common wsX7_common) := goodIn_app (goodIn_of _ (by decide +kernel)) ggX7_share_X7_common
theorem dX7_share_0 : decode cX7_share 0 = .ok (.aload_n 0, 1) := by decide +kernel
theorem dX7_share_1 : decode cX7_share 1 = .ok (.iload_n 1, 1) := by decide +kernel
theorem dX7_share_2 : decode cX7_share 2 = .ok (.invokevirtual 175, 3) := by decide +kernel
theorem dX7_share_5 : decode cX7_share 5 = .ok (.ifCond .ne 5, 3) := by decide +kernel
theorem dX7_share_8 : decode cX7_share 8 = .ok (.iconst (-1), 1) := by decide +kernel
theorem dX7_share_9 : decode cX7_share 9 = .ok (.ireturn, 1) := by decide +kernel
theorem dX7_share_10 : decode cX7_share 10 = .ok (.iconst 0, 1) := by decide +kernel
theorem dX7_share_11 : decode cX7_share 11 = .ok (.istore_n 3, 1) := by decide +kernel
theorem dX7_share_12 : decode cX7_share 12 = .ok (.iconst 0, 1) := by decide +kernel
theorem dX7_share_13 : decode cX7_share 13 = .ok (.istore 4, 2) := by decide +kernel
theorem dX7_share_15 : decode cX7_share 15 = .ok (.iload 4, 2) := by decide +kernel
theorem dX7_share_17 : decode cX7_share 17 = .ok (.iconst 1, 1) := by decide +kernel
theorem dX7_share_18 : decode cX7_share 18 = .ok (.aload_n 0, 1) := by decide +kernel
theorem dX7_share_19 : decode cX7_share 19 = .ok (.getfield 129, 3) := by decide +kernel
theorem dX7_share_22 : decode cX7_share 22 = .ok (.ishl, 1) := by decide +kernel
theorem dX7_share_23 : decode cX7_share 23 = .ok (.if_icmp .ge 67, 3) := by decide +kernel
theorem dX7_share_26 : decode cX7_share 26 = .ok (.iload 4, 2) := by decide +kernel
theorem dX7_share_28 : decode cX7_share 28 = .ok (.iload_n 1, 1) := by decide +kernel
theorem dX7_share_29 : decode cX7_share 29 = .ok (.invokestatic 92, 3) := by decide +kernel
theorem dX7_share_32 : decode cX7_share 32 = .ok (.ifCond .ne 52, 3) := by decide +kernel
theorem dX7_share_35 : decode cX7_share 35 = .ok (.iload 4, 2) := by decide +kernel
theorem dX7_share_37 : decode cX7_share 37 = .ok (.invokestatic 203, 3) := by decide +kernel
theorem dX7_share_40 : decode cX7_share 40 = .ok (.invokestatic 218, 3) := by decide +kernel
theorem dX7_share_43 : decode cX7_share 43 = .ok (.aload_n 0, 1) := by decide +kernel
theorem dX7_share_44 : decode cX7_share 44 = .ok (.getfield 129, 3) := by decide +kernel
theorem dX7_share_47 : decode cX7_share 47 = .ok (.iconst 1, 1) := by decide +kernel
theorem dX7_share_48 : decode cX7_share 48 = .ok (.isub, 1) := by decide +kernel
theorem dX7_share_49 : decode cX7_share 49 = .ok (.iload 4, 2) := by decide +kernel
theorem dX7_share_51 : decode cX7_share 51 = .ok (.invokestatic 203, 3) := by decide +kernel
theorem dX7_share_54 : decode cX7_share 54 = .ok (.isub, 1) := by decide +kernel
theorem dX7_share_55 : decode cX7_share 55 = .ok (.invokestatic 218, 3) := by decide +kernel
theorem dX7_share_58 : decode cX7_share 58 = .ok (.imul, 1) := by decide +kernel
theorem dX7_share_59 : decode cX7_share 59 = .ok (.istore 5, 2) := by decide +kernel
theorem dX7_share_61 : decode cX7_share 61 = .ok (.iload_n 3, 1) := by decide +kernel
theorem dX7_share_62 : decode cX7_share 62 = .ok (.iload 5, 2) := by decide +kernel
theorem dX7_share_64 : decode cX7_share 64 = .ok (.aload_n 0, 1) := by decide +kernel
theorem dX7_share_65 : decode cX7_share 65 = .ok (.iload 4, 2) := by decide +kernel
theorem dX7_share_67 : decode cX7_share 67 = .ok (.iconst 1, 1) := by decide +kernel
theorem dX7_share_68 : decode cX7_share 68 = .ok (.iload_n 1, 1) := by decide +kernel
theorem dX7_share_69 : decode cX7_share 69 = .ok (.ishl, 1) := by decide +kernel
theorem dX7_share_70 : decode cX7_share 70 = .ok (.ior, 1) := by decide +kernel
theorem dX7_share_71 : decode cX7_share 71 = .ok (.invokevirtual 221, 3) := by decide +kernel
theorem dX7_share_74 : decode cX7_share 74 = .ok (.aload_n 0, 1) := by decide +kernel
theorem dX7_share_75 : decode cX7_share 75 = .ok (.iload 4, 2) := by decide +kernel
theorem dX7_share_77 : decode cX7_share 77 = .ok (.invokevirtual 221, 3) := by decide +kernel
theorem dX7_share_80 : decode cX7_share 80 = .ok (.isub, 1) := by decide +kernel
theorem dX7_share_81 : decode cX7_share 81 = .ok (.imul, 1) := by decide +kernel
theorem dX7_share_82 : decode cX7_share 82 = .ok (.iadd, 1) := by decide +kernel
theorem dX7_share_83 : decode cX7_share 83 = .ok (.istore_n 3, 1) := by decide +kernel
theorem dX7_share_84 : decode cX7_share 84 = .ok (.iinc 4 1, 3) := by decide +kernel
theorem dX7_share_87 : decode cX7_share 87 = .ok (.goto (-72), 3) := by decide +kernel
theorem dX7_share_90 : decode cX7_share 90 = .ok (.iload_n 3, 1) := by decide +kernel
theorem dX7_share_91 : decode cX7_share 91 = .ok (.aload_n 0, 1) := by decide +kernel
theorem dX7_share_92 : decode cX7_share 92 = .ok (.getfield 129, 3) := by decide +kernel
theorem dX7_share_95 : decode cX7_share 95 = .ok (.invokestatic 218, 3) := by decide +kernel
theorem dX7_share_98 : decode cX7_share 98 = .ok (.invokestatic 224, 3) := by decide +kernel
theorem dX7_share_101 : decode cX7_share 101 = .ok (.istore 4, 2) := by decide +kernel
theorem dX7_share_103 : decode cX7_share 103 = .ok (.iload_n 2, 1) := by decide +kernel
theorem dX7_share_104 : decode cX7_share 104 = .ok (.ifCond .eq 10, 3) := by decide +kernel
theorem dX7_share_107 : decode cX7_share 107 = .ok (.iload_n 3, 1) := by decide +kernel
theorem dX7_share_108 : decode cX7_share 108 = .ok (.iload 4, 2) := by decide +kernel
theorem dX7_share_110 : decode cX7_share 110 = .ok (.idiv, 1) := by decide +kernel
theorem dX7_share_111 : decode cX7_share 111 = .ok (.goto 13, 3) := by decide +kernel
theorem dX7_share_114 : decode cX7_share 114 = .ok (.aload_n 0, 1) := by decide +kernel
theorem dX7_share_115 : decode cX7_share 115 = .ok (.getfield 129, 3) := by decide +kernel
theorem dX7_share_118 : decode cX7_share 118 = .ok (.invokestatic 218, 3) := by decide +kernel
theorem dX7_share_121 : decode cX7_share 121 = .ok (.iload 4, 2) := by decide +kernel
theorem dX7_share_123 : decode cX7_share 123 = .ok (.idiv, 1) := by decide +kernel
theorem dX7_share_124 : decode cX7_share 124 = .ok (.ireturn, 1) := by decide +kernel
set_option maxRecDepth 20000 in
theorem ggX7_gain_X7_isOut : GoodIn wsX7_gain wsX7_isOut := goodIn_r _ [6, 1, 7, 8, 9, 10, 11, 12, 13, 14, 15, 16, 17, 18, 19, 20, 21, 22, 23, 24, 25, 26, 27, 28, 29, 30, 31, 32, 33, 34, 35, 36, 37, 38, 39, 40, 41, 42, 43] (by decide +kernel) (by decide +kernel)
set_option maxRecDepth 20000 in
theorem gX7_gain_X7_isOut : GoodIn wsX7_gain (wsV RX7 156 RX7 yX7_isOut wsX7_isOut) := goodIn_app (goodIn_of _ (by decide +kernel)) ggX7_gain_X7_isOut
theorem dX7_gain_0 : decode cX7_gain 0 = .ok (.iload_n 3, 1) := by decide +kernel
theorem dX7_gain_1 : decode cX7_gain 1 = .ok (.iload 4, 2) := by decide +kernel
theorem dX7_gain_3 : decode cX7_gain 3 = .ok (.if_icmp .ne 7, 3) := by decide +kernel
theorem dX7_gain_6 : decode cX7_gain 6 = .ok (.iconst (-1), 1) := by decide +kernel
theorem dX7_gain_7 : decode cX7_gain 7 = .ok (.goto 4, 3) := by decide +kernel
theorem dX7_gain_10 : decode cX7_gain 10 = .ok (.iconst 0, 1) := by decide +kernel
theorem dX7_gain_11 : decode cX7_gain 11 = .ok (.istore 5, 2) := by decide +kernel
theorem dX7_gain_13 : decode cX7_gain 13 = .ok (.iload 5, 2) := by decide +kernel
theorem dX7_gain_15 : decode cX7_gain 15 = .ok (.aload_n 0, 1) := by decide +kernel
theorem dX7_gain_16 : decode cX7_gain 16 = .ok (.iconst 1, 1) := by decide +kernel
theorem dX7_gain_17 : decode cX7_gain 17 = .ok (.iload_n 1, 1) := by decide +kernel
theorem dX7_gain_18 : decode cX7_gain 18 = .ok (.invokevirtual 156, 3) := by decide +kernel
theorem dX7_gain_21 : decode cX7_gain 21 = .ok (.ifCond .eq 20, 3) := by decide +kernel
theorem dX7_gain_24 : decode cX7_gain 24 = .ok (.aload_n 0, 1) := by decide +kernel
theorem dX7_gain_25 : decode cX7_gain 25 = .ok (.getfield 28, 3) := by decide +kernel
theorem dX7_gain_28 : decode cX7_gain 28 = .ok (.bipush 19, 2) := by decide +kernel
theorem dX7_gain_30 : decode cX7_gain 30 = .ok (.iload_n 1, 1) := by decide +kernel
theorem dX7_gain_31 : decode cX7_gain 31 = .ok (.iadd, 1) := by decide +kernel
theorem dX7_gain_32 : decode cX7_gain 32 = .ok (.iaload, 1) := by decide +kernel
theorem dX7_gain_33 : decode cX7_gain 33 = .ok (.iload_n 3, 1) := by decide +kernel
theorem dX7_gain_34 : decode cX7_gain 34 = .ok (.if_icmp .ne 7, 3) := by decide +kernel
theorem dX7_gain_37 : decode cX7_gain 37 = .ok (.iconst 3, 1) := by decide +kernel
theorem dX7_gain_38 : decode cX7_gain 38 = .ok (.goto 4, 3) := by decide +kernel
theorem dX7_gain_41 : decode cX7_gain 41 = .ok (.iconst 0, 1) := by decide +kernel
theorem dX7_gain_42 : decode cX7_gain 42 = .ok (.iadd, 1) := by decide +kernel
theorem dX7_gain_43 : decode cX7_gain 43 = .ok (.istore 5, 2) := by decide +kernel
theorem dX7_gain_45 : decode cX7_gain 45 = .ok (.iload 5, 2) := by decide +kernel
theorem dX7_gain_47 : decode cX7_gain 47 = .ok (.aload_n 0, 1) := by decide +kernel
theorem dX7_gain_48 : decode cX7_gain 48 = .ok (.iconst 1, 1) := by decide +kernel
theorem dX7_gain_49 : decode cX7_gain 49 = .ok (.iload_n 2, 1) := by decide +kernel
theorem dX7_gain_50 : decode cX7_gain 50 = .ok (.invokevirtual 156, 3) := by decide +kernel
theorem dX7_gain_53 : decode cX7_gain 53 = .ok (.ifCond .eq 20, 3) := by decide +kernel
theorem dX7_gain_56 : decode cX7_gain 56 = .ok (.aload_n 0, 1) := by decide +kernel
theorem dX7_gain_57 : decode cX7_gain 57 = .ok (.getfield 28, 3) := by decide +kernel
theorem dX7_gain_60 : decode cX7_gain 60 = .ok (.bipush 19, 2) := by decide +kernel
theorem dX7_gain_62 : decode cX7_gain 62 = .ok (.iload_n 2, 1) := by decide +kernel
theorem dX7_gain_63 : decode cX7_gain 63 = .ok (.iadd, 1) := by decide +kernel
theorem dX7_gain_64 : decode cX7_gain 64 = .ok (.iaload, 1) := by decide +kernel
theorem dX7_gain_65 : decode cX7_gain 65 = .ok (.iload_n 3, 1) := by decide +kernel
theorem dX7_gain_66 : decode cX7_gain 66 = .ok (.if_icmp .ne 7, 3) := by decide +kernel
theorem dX7_gain_69 : decode cX7_gain 69 = .ok (.iconst 2, 1) := by decide +kernel
theorem dX7_gain_70 : decode cX7_gain 70 = .ok (.goto 4, 3) := by decide +kernel
theorem dX7_gain_73 : decode cX7_gain 73 = .ok (.iconst 0, 1) := by decide +kernel
theorem dX7_gain_74 : decode cX7_gain 74 = .ok (.iadd, 1) := by decide +kernel
theorem dX7_gain_75 : decode cX7_gain 75 = .ok (.ireturn, 1) := by decide +kernel
set_option maxRecDepth 20000 in
theorem ggX7_isRest_X7_gain : GoodIn wsX7_isRest wsX7_gain := goodIn_r _ [7, 8, 9, 10, 11, 6, 12, 13, 14, 15, 16, 17, 18, 19, 20, 21, 22, 23, 24, 25, 26, 27, 28, 29, 30, 31, 32, 33, 34, 35, 36, 37, 38, 39, 40, 41, 42, 43, 44, 45, 46, 47, 48, 49] (by decide +kernel) (by decide +kernel)
set_option maxRecDepth 20000 in
theorem gX7_isRest_X7_gain : GoodIn wsX7_isRest (wsV RX7 227 RX7 yX7_gain wsX7_gain) := goodIn_app (goodIn_of _ (by decide +kernel)) ggX7_isRest_X7_gain
theorem dX7_isRest_0 : decode cX7_isRest 0 = .ok (.iconst 1, 1) := by decide +kernel
theorem dX7_isRest_1 : decode cX7_isRest 1 = .ok (.istore 5, 2) := by decide +kernel
theorem dX7_isRest_3 : decode cX7_isRest 3 = .ok (.iconst 0, 1) := by decide +kernel
theorem dX7_isRest_4 : decode cX7_isRest 4 = .ok (.istore 6, 2) := by decide +kernel
theorem dX7_isRest_6 : decode cX7_isRest 6 = .ok (.iload 6, 2) := by decide +kernel
theorem dX7_isRest_8 : decode cX7_isRest 8 = .ok (.aload_n 0, 1) := by decide +kernel
theorem dX7_isRest_9 : decode cX7_isRest 9 = .ok (.getfield 123, 3) := by decide +kernel
theorem dX7_isRest_12 : decode cX7_isRest 12 = .ok (.if_icmp .ge 75, 3) := by decide +kernel
theorem dX7_isRest_15 : decode cX7_isRest 15 = .ok (.aload_n 0, 1) := by decide +kernel
theorem dX7_isRest_16 : decode cX7_isRest 16 = .ok (.getfield 13, 3) := by decide +kernel
theorem dX7_isRest_19 : decode cX7_isRest 19 = .ok (.iload 6, 2) := by decide +kernel
theorem dX7_isRest_21 : decode cX7_isRest 21 = .ok (.iaload, 1) := by decide +kernel
theorem dX7_isRest_22 : decode cX7_isRest 22 = .ok (.iconst 1, 1) := by decide +kernel
theorem dX7_isRest_23 : decode cX7_isRest 23 = .ok (.if_icmp .ne 58, 3) := by decide +kernel
theorem dX7_isRest_26 : decode cX7_isRest 26 = .ok (.iload 5, 2) := by decide +kernel
theorem dX7_isRest_28 : decode cX7_isRest 28 = .ok (.ifCond .eq 50, 3) := by decide +kernel
theorem dX7_isRest_31 : decode cX7_isRest 31 = .ok (.aload_n 0, 1) := by decide +kernel
theorem dX7_isRest_32 : decode cX7_isRest 32 = .ok (.iload_n 1, 1) := by decide +kernel
theorem dX7_isRest_33 : decode cX7_isRest 33 = .ok (.iload_n 2, 1) := by decide +kernel
theorem dX7_isRest_34 : decode cX7_isRest 34 = .ok (.iload 6, 2) := by decide +kernel
theorem dX7_isRest_36 : decode cX7_isRest 36 = .ok (.iload 4, 2) := by decide +kernel
theorem dX7_isRest_38 : decode cX7_isRest 38 = .ok (.invokevirtual 227, 3) := by decide +kernel
theorem dX7_isRest_41 : decode cX7_isRest 41 = .ok (.aload_n 0, 1) := by decide +kernel
theorem dX7_isRest_42 : decode cX7_isRest 42 = .ok (.iload_n 1, 1) := by decide +kernel
theorem dX7_isRest_43 : decode cX7_isRest 43 = .ok (.iload_n 2, 1) := by decide +kernel
theorem dX7_isRest_44 : decode cX7_isRest 44 = .ok (.iload_n 3, 1) := by decide +kernel
theorem dX7_isRest_45 : decode cX7_isRest 45 = .ok (.iload 4, 2) := by decide +kernel
theorem dX7_isRest_47 : decode cX7_isRest 47 = .ok (.invokevirtual 227, 3) := by decide +kernel
theorem dX7_isRest_50 : decode cX7_isRest 50 = .ok (.if_icmp .gt 28, 3) := by decide +kernel
theorem dX7_isRest_53 : decode cX7_isRest 53 = .ok (.aload_n 0, 1) := by decide +kernel
theorem dX7_isRest_54 : decode cX7_isRest 54 = .ok (.iload_n 2, 1) := by decide +kernel
theorem dX7_isRest_55 : decode cX7_isRest 55 = .ok (.iload_n 1, 1) := by decide +kernel
theorem dX7_isRest_56 : decode cX7_isRest 56 = .ok (.iload 6, 2) := by decide +kernel
theorem dX7_isRest_58 : decode cX7_isRest 58 = .ok (.iload_n 3, 1) := by decide +kernel
theorem dX7_isRest_59 : decode cX7_isRest 59 = .ok (.invokevirtual 227, 3) := by decide +kernel
theorem dX7_isRest_62 : decode cX7_isRest 62 = .ok (.aload_n 0, 1) := by decide +kernel
theorem dX7_isRest_63 : decode cX7_isRest 63 = .ok (.iload_n 2, 1) := by decide +kernel
theorem dX7_isRest_64 : decode cX7_isRest 64 = .ok (.iload_n 1, 1) := by decide +kernel
theorem dX7_isRest_65 : decode cX7_isRest 65 = .ok (.iload 4, 2) := by decide +kernel
theorem dX7_isRest_67 : decode cX7_isRest 67 = .ok (.iload_n 3, 1) := by decide +kernel
theorem dX7_isRest_68 : decode cX7_isRest 68 = .ok (.invokevirtual 227, 3) := by decide +kernel
theorem dX7_isRest_71 : decode cX7_isRest 71 = .ok (.if_icmp .gt 7, 3) := by decide +kernel
theorem dX7_isRest_74 : decode cX7_isRest 74 = .ok (.iconst 1, 1) := by decide +kernel
theorem dX7_isRest_75 : decode cX7_isRest 75 = .ok (.goto 4, 3) := by decide +kernel
theorem dX7_isRest_78 : decode cX7_isRest 78 = .ok (.iconst 0, 1) := by decide +kernel
theorem dX7_isRest_79 : decode cX7_isRest 79 = .ok (.istore 5, 2) := by decide +kernel
theorem dX7_isRest_81 : decode cX7_isRest 81 = .ok (.iinc 6 1, 3) := by decide +kernel
theorem dX7_isRest_84 : decode cX7_isRest 84 = .ok (.goto (-78), 3) := by decide +kernel
theorem dX7_isRest_87 : decode cX7_isRest 87 = .ok (.iload 5, 2) := by decide +kernel
theorem dX7_isRest_89 : decode cX7_isRest 89 = .ok (.ireturn, 1) := by decide +kernel
set_option maxRecDepth 20000 in
theorem ggX7_rests_X7_isWalker : GoodIn wsX7_rests wsX7_isWalker := goodIn_r _ [7, 8, 9, 10, 6, 11, 70, 71, 72, 73, 74, 75, 76, 77, 78, 79, 80, 81, 82, 83, 84, 85, 86, 87, 88, 89, 90, 91, 92, 93, 94, 95, 96, 97, 98, 99, 100, 101, 102, 103, 104, 105, 106] (by decide +kernel) (by decide +kernel)
set_option maxRecDepth 20000 in
theorem gX7_rests_X7_isWalker : GoodIn wsX7_rests (wsV RX7 175 RX7 yX7_isWalker wsX7_isWalker) := goodIn_app (goodIn_of _ (by decide +kernel)) ggX7_rests_X7_isWalker
set_option maxRecDepth 20000 in
theorem ggX7_rests_X7_in : GoodIn wsX7_rests wsX7_in := goodIn_r _ [11] (by decide +kernel) (by decide +kernel)
set_option maxRecDepth 20000 in
theorem gX7_rests_X7_in : GoodIn wsX7_rests (va_wsS RX7 77 yX7_in wsX7_in) := goodIn_app (goodIn_of _ (by decide +kernel)) ggX7_rests_X7_in
set_option maxRecDepth 20000 in
theorem ggX7_rests_X7_layTrial : GoodIn wsX7_rests wsX7_layTrial := goodIn_r _ [15, 16, 70, 71, 72, 73, 74, 75, 76, 77, 78, 79, 80, 81, 82, 83, 84, 85, 86, 87, 88, 89, 90, 91, 92, 93, 94, 95, 96, 97, 98, 99, 100, 101, 102, 103, 104, 105, 106] (by decide +kernel) (by decide +kernel)
set_option maxRecDepth 20000 in
theorem gX7_rests_X7_layTrial : GoodIn wsX7_rests (wsV RX7 193 RX7 yX7_layTrial wsX7_layTrial) := goodIn_app (goodIn_of _ (by decide +kernel)) ggX7_rests_X7_layTrial
set_option maxRecDepth 20000 in
theorem ggX7_rests_X7_goTrial : GoodIn wsX7_rests wsX7_goTrial := goodIn_r _ [20, 21, 22, 23, 6, 24, 25, 26, 27, 28, 16, 29, 30, 31, 32, 33, 34, 8, 35, 36, 2, 37, 38, 39, 40, 41, 42, 43, 44, 45, 46, 47, 48, 49, 50, 1, 51, 52, 53, 54, 55, 56, 57, 58, 59, 60, 61, 70, 71, 72, 73, 74, 75, 76, 77, 78, 79, 80, 81, 82, 83, 84, 85, 86, 87, 88, 89, 90, 91, 92, 93, 94, 95, 96, 97, 98, 99, 100, 101, 102, 103, 104, 105, 106] (by decide +kernel) (by decide +kernel)
set_option maxRecDepth 20000 in
theorem gX7_rests_X7_goTrial : GoodIn wsX7_rests (wsV RX7 196 RX7 yX7_goTrial wsX7_goTrial) := goodIn_app (goodIn_of _ (by decide +kernel)) ggX7_rests_X7_goTrial
set_option maxRecDepth 20000 in
theorem ggX7_rests_X7_isRest : GoodIn wsX7_rests wsX7_isRest := goodIn_r _ [65, 1, 2, 66, 67, 68, 6, 69, 16, 37, 38, 39, 40, 70, 71, 72, 73, 74, 75, 76, 77, 78, 79, 80, 81, 82, 83, 84, 85, 86, 87, 88, 89, 90, 91, 92, 93, 94, 95, 96, 97, 98, 99, 100, 101, 102, 103, 104, 105, 106] (by decide +kernel) (by decide +kernel)
set_option maxRecDepth 20000 in
theorem gX7_rests_X7_isRest : GoodIn wsX7_rests (wsV RX7 231 RX7 yX7_isRest wsX7_isRest) := goodIn_app (goodIn_of _ (by decide +kernel)) ggX7_rests_X7_isRest
theorem dX7_rests_0 : decode cX7_rests 0 = .ok (.aload_n 0, 1) := by decide +kernel
theorem dX7_rests_1 : decode cX7_rests 1 = .ok (.iload_n 1, 1) := by decide +kernel
theorem dX7_rests_2 : decode cX7_rests 2 = .ok (.invokevirtual 175, 3) := by decide +kernel
theorem dX7_rests_5 : decode cX7_rests 5 = .ok (.ifCond .eq 11, 3) := by decide +kernel
theorem dX7_rests_8 : decode cX7_rests 8 = .ok (.aload_n 0, 1) := by decide +kernel
theorem dX7_rests_9 : decode cX7_rests 9 = .ok (.iload_n 2, 1) := by decide +kernel
theorem dX7_rests_10 : decode cX7_rests 10 = .ok (.invokevirtual 175, 3) := by decide +kernel
theorem dX7_rests_13 : decode cX7_rests 13 = .ok (.ifCond .ne 5, 3) := by decide +kernel
theorem dX7_rests_16 : decode cX7_rests 16 = .ok (.iconst (-1), 1) := by decide +kernel
theorem dX7_rests_17 : decode cX7_rests 17 = .ok (.ireturn, 1) := by decide +kernel
theorem dX7_rests_18 : decode cX7_rests 18 = .ok (.iload_n 1, 1) := by decide +kernel
theorem dX7_rests_19 : decode cX7_rests 19 = .ok (.iload_n 2, 1) := by decide +kernel
theorem dX7_rests_20 : decode cX7_rests 20 = .ok (.if_icmp .eq 13, 3) := by decide +kernel
theorem dX7_rests_23 : decode cX7_rests 23 = .ok (.iload_n 3, 1) := by decide +kernel
theorem dX7_rests_24 : decode cX7_rests 24 = .ok (.i2l, 1) := by decide +kernel
theorem dX7_rests_25 : decode cX7_rests 25 = .ok (.lconst 0, 1) := by decide +kernel
theorem dX7_rests_26 : decode cX7_rests 26 = .ok (.lconst 1, 1) := by decide +kernel
theorem dX7_rests_27 : decode cX7_rests 27 = .ok (.invokestatic 77, 3) := by decide +kernel
theorem dX7_rests_30 : decode cX7_rests 30 = .ok (.ifCond .ne 6, 3) := by decide +kernel
theorem dX7_rests_33 : decode cX7_rests 33 = .ok (.bipush (-2), 2) := by decide +kernel
theorem dX7_rests_35 : decode cX7_rests 35 = .ok (.ireturn, 1) := by decide +kernel
theorem dX7_rests_36 : decode cX7_rests 36 = .ok (.aload_n 0, 1) := by decide +kernel
theorem dX7_rests_37 : decode cX7_rests 37 = .ok (.invokevirtual 193, 3) := by decide +kernel
theorem dX7_rests_40 : decode cX7_rests 40 = .ok (.aload_n 0, 1) := by decide +kernel
theorem dX7_rests_41 : decode cX7_rests 41 = .ok (.bipush 40, 2) := by decide +kernel
theorem dX7_rests_43 : decode cX7_rests 43 = .ok (.invokevirtual 196, 3) := by decide +kernel
theorem dX7_rests_46 : decode cX7_rests 46 = .ok (.iconst 0, 1) := by decide +kernel
theorem dX7_rests_47 : decode cX7_rests 47 = .ok (.istore 4, 2) := by decide +kernel
theorem dX7_rests_49 : decode cX7_rests 49 = .ok (.bipush (-9), 2) := by decide +kernel
theorem dX7_rests_51 : decode cX7_rests 51 = .ok (.istore 5, 2) := by decide +kernel
theorem dX7_rests_53 : decode cX7_rests 53 = .ok (.iconst 0, 1) := by decide +kernel
theorem dX7_rests_54 : decode cX7_rests 54 = .ok (.istore 6, 2) := by decide +kernel
theorem dX7_rests_56 : decode cX7_rests 56 = .ok (.iload 6, 2) := by decide +kernel
theorem dX7_rests_58 : decode cX7_rests 58 = .ok (.aload_n 0, 1) := by decide +kernel
theorem dX7_rests_59 : decode cX7_rests 59 = .ok (.getfield 123, 3) := by decide +kernel
theorem dX7_rests_62 : decode cX7_rests 62 = .ok (.aload_n 0, 1) := by decide +kernel
theorem dX7_rests_63 : decode cX7_rests 63 = .ok (.getfield 123, 3) := by decide +kernel
theorem dX7_rests_66 : decode cX7_rests 66 = .ok (.imul, 1) := by decide +kernel
theorem dX7_rests_67 : decode cX7_rests 67 = .ok (.if_icmp .ge 85, 3) := by decide +kernel
theorem dX7_rests_70 : decode cX7_rests 70 = .ok (.iload 6, 2) := by decide +kernel
theorem dX7_rests_72 : decode cX7_rests 72 = .ok (.aload_n 0, 1) := by decide +kernel
theorem dX7_rests_73 : decode cX7_rests 73 = .ok (.getfield 123, 3) := by decide +kernel
theorem dX7_rests_76 : decode cX7_rests 76 = .ok (.idiv, 1) := by decide +kernel
theorem dX7_rests_77 : decode cX7_rests 77 = .ok (.istore 7, 2) := by decide +kernel
theorem dX7_rests_79 : decode cX7_rests 79 = .ok (.iload 6, 2) := by decide +kernel
theorem dX7_rests_81 : decode cX7_rests 81 = .ok (.aload_n 0, 1) := by decide +kernel
theorem dX7_rests_82 : decode cX7_rests 82 = .ok (.getfield 123, 3) := by decide +kernel
theorem dX7_rests_85 : decode cX7_rests 85 = .ok (.irem, 1) := by decide +kernel
theorem dX7_rests_86 : decode cX7_rests 86 = .ok (.istore 8, 2) := by decide +kernel
theorem dX7_rests_88 : decode cX7_rests 88 = .ok (.aload_n 0, 1) := by decide +kernel
theorem dX7_rests_89 : decode cX7_rests 89 = .ok (.getfield 13, 3) := by decide +kernel
theorem dX7_rests_92 : decode cX7_rests 92 = .ok (.iload 7, 2) := by decide +kernel
theorem dX7_rests_94 : decode cX7_rests 94 = .ok (.iaload, 1) := by decide +kernel
theorem dX7_rests_95 : decode cX7_rests 95 = .ok (.iconst 1, 1) := by decide +kernel
theorem dX7_rests_96 : decode cX7_rests 96 = .ok (.if_icmp .ne 50, 3) := by decide +kernel
theorem dX7_rests_99 : decode cX7_rests 99 = .ok (.aload_n 0, 1) := by decide +kernel
theorem dX7_rests_100 : decode cX7_rests 100 = .ok (.getfield 13, 3) := by decide +kernel
theorem dX7_rests_103 : decode cX7_rests 103 = .ok (.iload 8, 2) := by decide +kernel
theorem dX7_rests_105 : decode cX7_rests 105 = .ok (.iaload, 1) := by decide +kernel
theorem dX7_rests_106 : decode cX7_rests 106 = .ok (.iconst 1, 1) := by decide +kernel
theorem dX7_rests_107 : decode cX7_rests 107 = .ok (.if_icmp .ne 39, 3) := by decide +kernel
theorem dX7_rests_110 : decode cX7_rests 110 = .ok (.aload_n 0, 1) := by decide +kernel
theorem dX7_rests_111 : decode cX7_rests 111 = .ok (.iload_n 1, 1) := by decide +kernel
theorem dX7_rests_112 : decode cX7_rests 112 = .ok (.iload_n 2, 1) := by decide +kernel
theorem dX7_rests_113 : decode cX7_rests 113 = .ok (.iload 7, 2) := by decide +kernel
theorem dX7_rests_115 : decode cX7_rests 115 = .ok (.iload 8, 2) := by decide +kernel
theorem dX7_rests_117 : decode cX7_rests 117 = .ok (.invokevirtual 231, 3) := by decide +kernel
theorem dX7_rests_120 : decode cX7_rests 120 = .ok (.ifCond .eq 26, 3) := by decide +kernel
theorem dX7_rests_123 : decode cX7_rests 123 = .ok (.iload 4, 2) := by decide +kernel
theorem dX7_rests_125 : decode cX7_rests 125 = .ok (.ifCond .ne 14, 3) := by decide +kernel
theorem dX7_rests_128 : decode cX7_rests 128 = .ok (.bipush 10, 2) := by decide +kernel
theorem dX7_rests_130 : decode cX7_rests 130 = .ok (.iload 7, 2) := by decide +kernel
theorem dX7_rests_132 : decode cX7_rests 132 = .ok (.imul, 1) := by decide +kernel
theorem dX7_rests_133 : decode cX7_rests 133 = .ok (.iload 8, 2) := by decide +kernel
theorem dX7_rests_135 : decode cX7_rests 135 = .ok (.iadd, 1) := by decide +kernel
theorem dX7_rests_136 : decode cX7_rests 136 = .ok (.goto 5, 3) := by decide +kernel
theorem dX7_rests_139 : decode cX7_rests 139 = .ok (.iload 5, 2) := by decide +kernel
theorem dX7_rests_141 : decode cX7_rests 141 = .ok (.istore 5, 2) := by decide +kernel
theorem dX7_rests_143 : decode cX7_rests 143 = .ok (.iinc 4 1, 3) := by decide +kernel
theorem dX7_rests_146 : decode cX7_rests 146 = .ok (.iinc 6 1, 3) := by decide +kernel
theorem dX7_rests_149 : decode cX7_rests 149 = .ok (.goto (-93), 3) := by decide +kernel
theorem dX7_rests_152 : decode cX7_rests 152 = .ok (.iload_n 3, 1) := by decide +kernel
theorem dX7_rests_153 : decode cX7_rests 153 = .ok (.ifCond .ne 8, 3) := by decide +kernel
theorem dX7_rests_156 : decode cX7_rests 156 = .ok (.iload 4, 2) := by decide +kernel
theorem dX7_rests_158 : decode cX7_rests 158 = .ok (.goto 5, 3) := by decide +kernel
theorem dX7_rests_161 : decode cX7_rests 161 = .ok (.iload 5, 2) := by decide +kernel
theorem dX7_rests_163 : decode cX7_rests 163 = .ok (.ireturn, 1) := by decide +kernel
set_option maxRecDepth 20000 in
theorem ggX7_flood_X7_isWalker : GoodIn wsX7_flood wsX7_isWalker := goodIn_r _ [9, 10, 11, 12, 8, 13, 61, 62, 63, 64, 65, 66, 67, 68, 69, 70, 71, 72, 73, 74, 75, 76, 77, 78, 79, 80, 81, 82, 83, 84, 85, 86, 87, 88, 89, 90, 91, 92, 93, 94, 95, 96, 97] (by decide +kernel) (by decide +kernel)
set_option maxRecDepth 20000 in
theorem gX7_flood_X7_isWalker : GoodIn wsX7_flood (wsV RX7 175 RX7 yX7_isWalker wsX7_isWalker) := goodIn_app (goodIn_of _ (by decide +kernel)) ggX7_flood_X7_isWalker
set_option maxRecDepth 20000 in
theorem ggX7_flood_X7_in : GoodIn wsX7_flood wsX7_in := goodIn_r _ [13] (by decide +kernel) (by decide +kernel)
set_option maxRecDepth 20000 in
theorem gX7_flood_X7_in : GoodIn wsX7_flood (va_wsS RX7 77 yX7_in wsX7_in) := goodIn_app (goodIn_of _ (by decide +kernel)) ggX7_flood_X7_in
set_option maxRecDepth 20000 in
theorem ggX7_flood_X7_layTrial : GoodIn wsX7_flood wsX7_layTrial := goodIn_r _ [17, 18, 61, 62, 63, 64, 65, 66, 67, 68, 69, 70, 71, 72, 73, 74, 75, 76, 77, 78, 79, 80, 81, 82, 83, 84, 85, 86, 87, 88, 89, 90, 91, 92, 93, 94, 95, 96, 97] (by decide +kernel) (by decide +kernel)
set_option maxRecDepth 20000 in
theorem gX7_flood_X7_layTrial : GoodIn wsX7_flood (wsV RX7 193 RX7 yX7_layTrial wsX7_layTrial) := goodIn_app (goodIn_of _ (by decide +kernel)) ggX7_flood_X7_layTrial
set_option maxRecDepth 20000 in
theorem ggX7_flood_X7_has : GoodIn wsX7_flood wsX7_has := goodIn_r _ [21] (by decide +kernel) (by decide +kernel)
set_option maxRecDepth 20000 in
theorem gX7_flood_X7_has : GoodIn wsX7_flood (va_wsS RX7 92 yX7_has wsX7_has) := goodIn_app (goodIn_of _ (by decide +kernel)) ggX7_flood_X7_has
set_option maxRecDepth 20000 in
theorem ggX7_flood_X7_stepBy : GoodIn wsX7_flood wsX7_stepBy := goodIn_r _ [25, 10, 26, 18, 27, 28, 29, 30, 31, 8, 32, 19, 20, 21, 33, 34, 35, 36, 37, 38, 39, 40, 41, 42, 43, 44, 45, 46, 47, 48, 49, 50, 51, 61, 62, 63, 64, 65, 66, 67, 68, 69, 70, 71, 72, 73, 74, 75, 76, 77, 78, 79, 80, 81, 82, 83, 84, 85, 86, 87, 88, 89, 90, 91, 92, 93, 94, 95, 96, 97] (by decide +kernel) (by decide +kernel)
set_option maxRecDepth 20000 in
theorem gX7_flood_X7_stepBy : GoodIn wsX7_flood (wsV RX7 165 RX7 yX7_stepBy wsX7_stepBy) := goodIn_app (goodIn_of _ (by decide +kernel)) ggX7_flood_X7_stepBy
set_option maxRecDepth 20000 in
theorem ggX7_flood_X7_ones : GoodIn wsX7_flood wsX7_ones := goodIn_r _ [54] (by decide +kernel) (by decide +kernel)
set_option maxRecDepth 20000 in
theorem gX7_flood_X7_ones : GoodIn wsX7_flood (va_wsS RX7 203 yX7_ones wsX7_ones) := goodIn_app (goodIn_of _ (by decide +kernel)) ggX7_flood_X7_ones
set_option maxRecDepth 20000 in
theorem ggX7_flood_X7_power : GoodIn wsX7_flood wsX7_power := goodIn_r _ [57] (by decide +kernel) (by decide +kernel)
set_option maxRecDepth 20000 in
theorem gX7_flood_X7_power : GoodIn wsX7_flood (va_wsS RX7 206 yX7_power wsX7_power) := goodIn_app (goodIn_of _ (by decide +kernel)) ggX7_flood_X7_power
set_option maxRecDepth 20000 in
theorem ggX7_flood_X7_isOut : GoodIn wsX7_flood wsX7_isOut := goodIn_r _ [32, 18, 61, 62, 63, 64, 65, 66, 67, 68, 69, 70, 71, 72, 73, 74, 75, 76, 77, 78, 79, 80, 81, 82, 83, 84, 85, 86, 87, 88, 89, 90, 91, 92, 93, 94, 95, 96, 97] (by decide +kernel) (by decide +kernel)
set_option maxRecDepth 20000 in
theorem gX7_flood_X7_isOut : GoodIn wsX7_flood (wsV RX7 156 RX7 yX7_isOut wsX7_isOut) := goodIn_app (goodIn_of _ (by decide +kernel)) ggX7_flood_X7_isOut
set_option maxRecDepth 20000 in
theorem ggX7_flood_X7_common : GoodIn wsX7_flood wsX7_common := goodIn_r _ [60] (by decide +kernel) (by decide +kernel)
set_option maxRecDepth 20000 in
theorem gX7_flood_X7_common : GoodIn wsX7_flood (va_wsS RX7 224 yX7_common wsX7_common) := goodIn_app (goodIn_of _ (by decide +kernel)) ggX7_flood_X7_common
theorem dX7_flood_0 : decode cX7_flood 0 = .ok (.aload_n 0, 1) := by decide +kernel
theorem dX7_flood_1 : decode cX7_flood 1 = .ok (.iload_n 1, 1) := by decide +kernel
theorem dX7_flood_2 : decode cX7_flood 2 = .ok (.invokevirtual 175, 3) := by decide +kernel
theorem dX7_flood_5 : decode cX7_flood 5 = .ok (.ifCond .ne 5, 3) := by decide +kernel
theorem dX7_flood_8 : decode cX7_flood 8 = .ok (.iconst (-1), 1) := by decide +kernel
theorem dX7_flood_9 : decode cX7_flood 9 = .ok (.ireturn, 1) := by decide +kernel
theorem dX7_flood_10 : decode cX7_flood 10 = .ok (.iload_n 2, 1) := by decide +kernel
theorem dX7_flood_11 : decode cX7_flood 11 = .ok (.i2l, 1) := by decide +kernel
theorem dX7_flood_12 : decode cX7_flood 12 = .ok (.lconst 1, 1) := by decide +kernel
theorem dX7_flood_13 : decode cX7_flood 13 = .ok (.ldc2_w 235, 3) := by decide +kernel
theorem dX7_flood_16 : decode cX7_flood 16 = .ok (.invokestatic 77, 3) := by decide +kernel
theorem dX7_flood_19 : decode cX7_flood 19 = .ok (.ifCond .eq 15, 3) := by decide +kernel
theorem dX7_flood_22 : decode cX7_flood 22 = .ok (.iload_n 3, 1) := by decide +kernel
theorem dX7_flood_23 : decode cX7_flood 23 = .ok (.i2l, 1) := by decide +kernel
theorem dX7_flood_24 : decode cX7_flood 24 = .ok (.lconst 0, 1) := by decide +kernel
theorem dX7_flood_25 : decode cX7_flood 25 = .ok (.ldc2_w 237, 3) := by decide +kernel
theorem dX7_flood_28 : decode cX7_flood 28 = .ok (.invokestatic 77, 3) := by decide +kernel
theorem dX7_flood_31 : decode cX7_flood 31 = .ok (.ifCond .ne 6, 3) := by decide +kernel
theorem dX7_flood_34 : decode cX7_flood 34 = .ok (.bipush (-2), 2) := by decide +kernel
theorem dX7_flood_36 : decode cX7_flood 36 = .ok (.ireturn, 1) := by decide +kernel
theorem dX7_flood_37 : decode cX7_flood 37 = .ok (.iconst 0, 1) := by decide +kernel
theorem dX7_flood_38 : decode cX7_flood 38 = .ok (.istore 5, 2) := by decide +kernel
theorem dX7_flood_40 : decode cX7_flood 40 = .ok (.iconst 0, 1) := by decide +kernel
theorem dX7_flood_41 : decode cX7_flood 41 = .ok (.istore 6, 2) := by decide +kernel
theorem dX7_flood_43 : decode cX7_flood 43 = .ok (.iconst 0, 1) := by decide +kernel
theorem dX7_flood_44 : decode cX7_flood 44 = .ok (.istore 7, 2) := by decide +kernel
theorem dX7_flood_46 : decode cX7_flood 46 = .ok (.iload 7, 2) := by decide +kernel
theorem dX7_flood_48 : decode cX7_flood 48 = .ok (.iconst 1, 1) := by decide +kernel
theorem dX7_flood_49 : decode cX7_flood 49 = .ok (.iload_n 2, 1) := by decide +kernel
theorem dX7_flood_50 : decode cX7_flood 50 = .ok (.ishl, 1) := by decide +kernel
theorem dX7_flood_51 : decode cX7_flood 51 = .ok (.if_icmp .ge 108, 3) := by decide +kernel
theorem dX7_flood_54 : decode cX7_flood 54 = .ok (.aload_n 0, 1) := by decide +kernel
theorem dX7_flood_55 : decode cX7_flood 55 = .ok (.invokevirtual 193, 3) := by decide +kernel
theorem dX7_flood_58 : decode cX7_flood 58 = .ok (.iconst 0, 1) := by decide +kernel
theorem dX7_flood_59 : decode cX7_flood 59 = .ok (.istore 8, 2) := by decide +kernel
theorem dX7_flood_61 : decode cX7_flood 61 = .ok (.iload 8, 2) := by decide +kernel
theorem dX7_flood_63 : decode cX7_flood 63 = .ok (.iload_n 2, 1) := by decide +kernel
theorem dX7_flood_64 : decode cX7_flood 64 = .ok (.if_icmp .ge 36, 3) := by decide +kernel
theorem dX7_flood_67 : decode cX7_flood 67 = .ok (.aload_n 0, 1) := by decide +kernel
theorem dX7_flood_68 : decode cX7_flood 68 = .ok (.iconst 1, 1) := by decide +kernel
theorem dX7_flood_69 : decode cX7_flood 69 = .ok (.iload 7, 2) := by decide +kernel
theorem dX7_flood_71 : decode cX7_flood 71 = .ok (.iload 8, 2) := by decide +kernel
theorem dX7_flood_73 : decode cX7_flood 73 = .ok (.invokestatic 92, 3) := by decide +kernel
theorem dX7_flood_76 : decode cX7_flood 76 = .ok (.ifCond .eq 10, 3) := by decide +kernel
theorem dX7_flood_79 : decode cX7_flood 79 = .ok (.aload_n 0, 1) := by decide +kernel
theorem dX7_flood_80 : decode cX7_flood 80 = .ok (.getfield 132, 3) := by decide +kernel
theorem dX7_flood_83 : decode cX7_flood 83 = .ok (.goto 7, 3) := by decide +kernel
theorem dX7_flood_86 : decode cX7_flood 86 = .ok (.aload_n 0, 1) := by decide +kernel
theorem dX7_flood_87 : decode cX7_flood 87 = .ok (.getfield 135, 3) := by decide +kernel
theorem dX7_flood_90 : decode cX7_flood 90 = .ok (.invokevirtual 165, 3) := by decide +kernel
theorem dX7_flood_93 : decode cX7_flood 93 = .ok (.pop, 1) := by decide +kernel
theorem dX7_flood_94 : decode cX7_flood 94 = .ok (.iinc 8 1, 3) := by decide +kernel
theorem dX7_flood_97 : decode cX7_flood 97 = .ok (.goto (-36), 3) := by decide +kernel
theorem dX7_flood_100 : decode cX7_flood 100 = .ok (.iload_n 3, 1) := by decide +kernel
theorem dX7_flood_101 : decode cX7_flood 101 = .ok (.iload 7, 2) := by decide +kernel
theorem dX7_flood_103 : decode cX7_flood 103 = .ok (.invokestatic 203, 3) := by decide +kernel
theorem dX7_flood_106 : decode cX7_flood 106 = .ok (.invokestatic 206, 3) := by decide +kernel
theorem dX7_flood_109 : decode cX7_flood 109 = .ok (.bipush 10, 2) := by decide +kernel
theorem dX7_flood_111 : decode cX7_flood 111 = .ok (.iload_n 3, 1) := by decide +kernel
theorem dX7_flood_112 : decode cX7_flood 112 = .ok (.isub, 1) := by decide +kernel
theorem dX7_flood_113 : decode cX7_flood 113 = .ok (.iload_n 2, 1) := by decide +kernel
theorem dX7_flood_114 : decode cX7_flood 114 = .ok (.iload 7, 2) := by decide +kernel
theorem dX7_flood_116 : decode cX7_flood 116 = .ok (.invokestatic 203, 3) := by decide +kernel
theorem dX7_flood_119 : decode cX7_flood 119 = .ok (.isub, 1) := by decide +kernel
theorem dX7_flood_120 : decode cX7_flood 120 = .ok (.invokestatic 206, 3) := by decide +kernel
theorem dX7_flood_123 : decode cX7_flood 123 = .ok (.imul, 1) := by decide +kernel
theorem dX7_flood_124 : decode cX7_flood 124 = .ok (.istore 8, 2) := by decide +kernel
theorem dX7_flood_126 : decode cX7_flood 126 = .ok (.iload 6, 2) := by decide +kernel
theorem dX7_flood_128 : decode cX7_flood 128 = .ok (.iload 8, 2) := by decide +kernel
theorem dX7_flood_130 : decode cX7_flood 130 = .ok (.iadd, 1) := by decide +kernel
theorem dX7_flood_131 : decode cX7_flood 131 = .ok (.istore 6, 2) := by decide +kernel
theorem dX7_flood_133 : decode cX7_flood 133 = .ok (.iload 5, 2) := by decide +kernel
theorem dX7_flood_135 : decode cX7_flood 135 = .ok (.aload_n 0, 1) := by decide +kernel
theorem dX7_flood_136 : decode cX7_flood 136 = .ok (.iconst 1, 1) := by decide +kernel
theorem dX7_flood_137 : decode cX7_flood 137 = .ok (.iload_n 1, 1) := by decide +kernel
theorem dX7_flood_138 : decode cX7_flood 138 = .ok (.invokevirtual 156, 3) := by decide +kernel
theorem dX7_flood_141 : decode cX7_flood 141 = .ok (.ifCond .eq 8, 3) := by decide +kernel
theorem dX7_flood_144 : decode cX7_flood 144 = .ok (.iload 8, 2) := by decide +kernel
theorem dX7_flood_146 : decode cX7_flood 146 = .ok (.goto 4, 3) := by decide +kernel
theorem dX7_flood_149 : decode cX7_flood 149 = .ok (.iconst 0, 1) := by decide +kernel
theorem dX7_flood_150 : decode cX7_flood 150 = .ok (.iadd, 1) := by decide +kernel
theorem dX7_flood_151 : decode cX7_flood 151 = .ok (.istore 5, 2) := by decide +kernel
theorem dX7_flood_153 : decode cX7_flood 153 = .ok (.iinc 7 1, 3) := by decide +kernel
theorem dX7_flood_156 : decode cX7_flood 156 = .ok (.goto (-110), 3) := by decide +kernel
theorem dX7_flood_159 : decode cX7_flood 159 = .ok (.iload 5, 2) := by decide +kernel
theorem dX7_flood_161 : decode cX7_flood 161 = .ok (.iload 6, 2) := by decide +kernel
theorem dX7_flood_163 : decode cX7_flood 163 = .ok (.invokestatic 224, 3) := by decide +kernel
theorem dX7_flood_166 : decode cX7_flood 166 = .ok (.istore 7, 2) := by decide +kernel
theorem dX7_flood_168 : decode cX7_flood 168 = .ok (.iload 4, 2) := by decide +kernel
theorem dX7_flood_170 : decode cX7_flood 170 = .ok (.ifCond .eq 11, 3) := by decide +kernel
theorem dX7_flood_173 : decode cX7_flood 173 = .ok (.iload 5, 2) := by decide +kernel
theorem dX7_flood_175 : decode cX7_flood 175 = .ok (.iload 7, 2) := by decide +kernel
theorem dX7_flood_177 : decode cX7_flood 177 = .ok (.idiv, 1) := by decide +kernel
theorem dX7_flood_178 : decode cX7_flood 178 = .ok (.goto 8, 3) := by decide +kernel
theorem dX7_flood_181 : decode cX7_flood 181 = .ok (.iload 6, 2) := by decide +kernel
theorem dX7_flood_183 : decode cX7_flood 183 = .ok (.iload 7, 2) := by decide +kernel
theorem dX7_flood_185 : decode cX7_flood 185 = .ok (.idiv, 1) := by decide +kernel
theorem dX7_flood_186 : decode cX7_flood 186 = .ok (.ireturn, 1) := by decide +kernel
theorem dX7_seed_0 : decode cX7_seed 0 = .ok (.aload_n 0, 1) := by decide +kernel
theorem dX7_seed_1 : decode cX7_seed 1 = .ok (.getfield 239, 3) := by decide +kernel
theorem dX7_seed_4 : decode cX7_seed 4 = .ok (.lstore_n 3, 1) := by decide +kernel
theorem dX7_seed_5 : decode cX7_seed 5 = .ok (.aload_n 0, 1) := by decide +kernel
theorem dX7_seed_6 : decode cX7_seed 6 = .ok (.lload_n 1, 1) := by decide +kernel
theorem dX7_seed_7 : decode cX7_seed 7 = .ok (.putfield 239, 3) := by decide +kernel
theorem dX7_seed_10 : decode cX7_seed 10 = .ok (.lload_n 3, 1) := by decide +kernel
theorem dX7_seed_11 : decode cX7_seed 11 = .ok (.lreturn, 1) := by decide +kernel
set_option maxRecDepth 20000 in
theorem ggX7_years_X7_in : GoodIn wsX7_years wsX7_in := goodIn_r _ [10] (by decide +kernel) (by decide +kernel)
set_option maxRecDepth 20000 in
theorem gX7_years_X7_in : GoodIn wsX7_years (va_wsS RX7 77 yX7_in wsX7_in) := goodIn_app (goodIn_of _ (by decide +kernel)) ggX7_years_X7_in
set_option maxRecDepth 20000 in
theorem ggX7_years_X7_layTrial : GoodIn wsX7_years wsX7_layTrial := goodIn_r _ [14, 6, 71, 72, 73, 74, 75, 76, 77, 78, 79, 80, 81, 82, 83, 84, 85, 86, 87, 88, 89, 90, 91, 92, 93, 94, 95, 96, 97, 98, 99, 100, 101, 102, 103, 104, 105, 106, 107] (by decide +kernel) (by decide +kernel)
set_option maxRecDepth 20000 in
theorem gX7_years_X7_layTrial : GoodIn wsX7_years (wsV RX7 193 RX7 yX7_layTrial wsX7_layTrial) := goodIn_app (goodIn_of _ (by decide +kernel)) ggX7_years_X7_layTrial
set_option maxRecDepth 20000 in
theorem ggX7_years_X7_stepOn : GoodIn wsX7_years wsX7_stepOn := goodIn_r _ [18, 19, 20, 21, 9, 22, 6, 23, 24, 25, 26, 27, 28, 29, 30, 31, 32, 33, 34, 35, 36, 37, 38, 39, 40, 41, 42, 43, 44, 45, 46, 47, 48, 49, 50, 51, 52, 53, 54, 55, 56, 57, 58, 71, 72, 73, 74, 75, 76, 77, 78, 79, 80, 81, 82, 83, 84, 85, 86, 87, 88, 89, 90, 91, 92, 93, 94, 95, 96, 97, 98, 99, 100, 101, 102, 103, 104, 105, 106, 107] (by decide +kernel) (by decide +kernel)
set_option maxRecDepth 20000 in
theorem gX7_years_X7_stepOn : GoodIn wsX7_years (wsV RX7 184 RX7 yX7_stepOn wsX7_stepOn) := goodIn_app (goodIn_of _ (by decide +kernel)) ggX7_years_X7_stepOn
set_option maxRecDepth 20000 in
theorem ggX7_years_X7_isPipe : GoodIn wsX7_years wsX7_isPipe := goodIn_r _ [62, 53, 7, 8, 9, 10, 71, 72, 73, 74, 75, 76, 77, 78, 79, 80, 81, 82, 83, 84, 85, 86, 87, 88, 89, 90, 91, 92, 93, 94, 95, 96, 97, 98, 99, 100, 101, 102, 103, 104, 105, 106, 107] (by decide +kernel) (by decide +kernel)
set_option maxRecDepth 20000 in
theorem gX7_years_X7_isPipe : GoodIn wsX7_years (wsV RX7 172 RX7 yX7_isPipe wsX7_isPipe) := goodIn_app (goodIn_of _ (by decide +kernel)) ggX7_years_X7_isPipe
set_option maxRecDepth 20000 in
theorem ggX7_years_X7_outOn : GoodIn wsX7_years wsX7_outOn := goodIn_r _ [66, 29, 6, 67, 33, 34, 35, 9, 36, 71, 72, 73, 74, 75, 76, 77, 78, 79, 80, 81, 82, 83, 84, 85, 86, 87, 88, 89, 90, 91, 92, 93, 94, 95, 96, 97, 98, 99, 100, 101, 102, 103, 104, 105, 106, 107] (by decide +kernel) (by decide +kernel)
set_option maxRecDepth 20000 in
theorem gX7_years_X7_outOn : GoodIn wsX7_years (wsV RX7 199 RX7 yX7_outOn wsX7_outOn) := goodIn_app (goodIn_of _ (by decide +kernel)) ggX7_years_X7_outOn
set_option maxRecDepth 20000 in
theorem ggX7_years_X7_ones : GoodIn wsX7_years wsX7_ones := goodIn_r _ [70] (by decide +kernel) (by decide +kernel)
set_option maxRecDepth 20000 in
theorem gX7_years_X7_ones : GoodIn wsX7_years (va_wsS RX7 203 yX7_ones wsX7_ones) := goodIn_app (goodIn_of _ (by decide +kernel)) ggX7_years_X7_ones
theorem dX7_years_0 : decode cX7_years 0 = .ok (.iload_n 1, 1) := by decide +kernel
theorem dX7_years_1 : decode cX7_years 1 = .ok (.i2l, 1) := by decide +kernel
theorem dX7_years_2 : decode cX7_years 2 = .ok (.lconst 1, 1) := by decide +kernel
theorem dX7_years_3 : decode cX7_years 3 = .ok (.ldc2_w 191, 3) := by decide +kernel
theorem dX7_years_6 : decode cX7_years 6 = .ok (.invokestatic 77, 3) := by decide +kernel
theorem dX7_years_9 : decode cX7_years 9 = .ok (.ifCond .ne 6, 3) := by decide +kernel
theorem dX7_years_12 : decode cX7_years 12 = .ok (.bipush (-2), 2) := by decide +kernel
theorem dX7_years_14 : decode cX7_years 14 = .ok (.ireturn, 1) := by decide +kernel
theorem dX7_years_15 : decode cX7_years 15 = .ok (.aload_n 0, 1) := by decide +kernel
theorem dX7_years_16 : decode cX7_years 16 = .ok (.invokevirtual 193, 3) := by decide +kernel
theorem dX7_years_19 : decode cX7_years 19 = .ok (.iconst 0, 1) := by decide +kernel
theorem dX7_years_20 : decode cX7_years 20 = .ok (.istore_n 2, 1) := by decide +kernel
theorem dX7_years_21 : decode cX7_years 21 = .ok (.iload_n 2, 1) := by decide +kernel
theorem dX7_years_22 : decode cX7_years 22 = .ok (.iload_n 1, 1) := by decide +kernel
theorem dX7_years_23 : decode cX7_years 23 = .ok (.if_icmp .ge 74, 3) := by decide +kernel
theorem dX7_years_26 : decode cX7_years 26 = .ok (.aload_n 0, 1) := by decide +kernel
theorem dX7_years_27 : decode cX7_years 27 = .ok (.aload_n 0, 1) := by decide +kernel
theorem dX7_years_28 : decode cX7_years 28 = .ok (.getfield 239, 3) := by decide +kernel
theorem dX7_years_31 : decode cX7_years 31 = .ok (.ldc2_w 243, 3) := by decide +kernel
theorem dX7_years_34 : decode cX7_years 34 = .ok (.lmul, 1) := by decide +kernel
theorem dX7_years_35 : decode cX7_years 35 = .ok (.ldc2_w 245, 3) := by decide +kernel
theorem dX7_years_38 : decode cX7_years 38 = .ok (.ladd, 1) := by decide +kernel
theorem dX7_years_39 : decode cX7_years 39 = .ok (.putfield 239, 3) := by decide +kernel
theorem dX7_years_42 : decode cX7_years 42 = .ok (.aload_n 0, 1) := by decide +kernel
theorem dX7_years_43 : decode cX7_years 43 = .ok (.getfield 239, 3) := by decide +kernel
theorem dX7_years_46 : decode cX7_years 46 = .ok (.bipush 33, 2) := by decide +kernel
theorem dX7_years_48 : decode cX7_years 48 = .ok (.lushr, 1) := by decide +kernel
theorem dX7_years_49 : decode cX7_years 49 = .ok (.ldc2_w 247, 3) := by decide +kernel
theorem dX7_years_52 : decode cX7_years 52 = .ok (.lrem, 1) := by decide +kernel
theorem dX7_years_53 : decode cX7_years 53 = .ok (.l2i, 1) := by decide +kernel
theorem dX7_years_54 : decode cX7_years 54 = .ok (.istore_n 3, 1) := by decide +kernel
theorem dX7_years_55 : decode cX7_years 55 = .ok (.iload_n 3, 1) := by decide +kernel
theorem dX7_years_56 : decode cX7_years 56 = .ok (.bipush 7, 2) := by decide +kernel
theorem dX7_years_58 : decode cX7_years 58 = .ok (.if_icmp .le 12, 3) := by decide +kernel
theorem dX7_years_61 : decode cX7_years 61 = .ok (.aload_n 0, 1) := by decide +kernel
theorem dX7_years_62 : decode cX7_years 62 = .ok (.iconst 1, 1) := by decide +kernel
theorem dX7_years_63 : decode cX7_years 63 = .ok (.invokevirtual 184, 3) := by decide +kernel
theorem dX7_years_66 : decode cX7_years 66 = .ok (.pop, 1) := by decide +kernel
theorem dX7_years_67 : decode cX7_years 67 = .ok (.goto 24, 3) := by decide +kernel
theorem dX7_years_70 : decode cX7_years 70 = .ok (.aload_n 0, 1) := by decide +kernel
theorem dX7_years_71 : decode cX7_years 71 = .ok (.iload_n 3, 1) := by decide +kernel
theorem dX7_years_72 : decode cX7_years 72 = .ok (.invokevirtual 172, 3) := by decide +kernel
theorem dX7_years_75 : decode cX7_years 75 = .ok (.ifCond .eq 16, 3) := by decide +kernel
theorem dX7_years_78 : decode cX7_years 78 = .ok (.aload_n 0, 1) := by decide +kernel
theorem dX7_years_79 : decode cX7_years 79 = .ok (.getfield 28, 3) := by decide +kernel
theorem dX7_years_82 : decode cX7_years 82 = .ok (.bipush 35, 2) := by decide +kernel
theorem dX7_years_84 : decode cX7_years 84 = .ok (.dup2, 1) := by decide +kernel
theorem dX7_years_85 : decode cX7_years 85 = .ok (.iaload, 1) := by decide +kernel
theorem dX7_years_86 : decode cX7_years 86 = .ok (.iconst 1, 1) := by decide +kernel
theorem dX7_years_87 : decode cX7_years 87 = .ok (.iload_n 3, 1) := by decide +kernel
theorem dX7_years_88 : decode cX7_years 88 = .ok (.ishl, 1) := by decide +kernel
theorem dX7_years_89 : decode cX7_years 89 = .ok (.ixor, 1) := by decide +kernel
theorem dX7_years_90 : decode cX7_years 90 = .ok (.iastore, 1) := by decide +kernel
theorem dX7_years_91 : decode cX7_years 91 = .ok (.iinc 2 1, 3) := by decide +kernel
theorem dX7_years_94 : decode cX7_years 94 = .ok (.goto (-73), 3) := by decide +kernel
theorem dX7_years_97 : decode cX7_years 97 = .ok (.aload_n 0, 1) := by decide +kernel
theorem dX7_years_98 : decode cX7_years 98 = .ok (.iconst 1, 1) := by decide +kernel
theorem dX7_years_99 : decode cX7_years 99 = .ok (.iconst 1, 1) := by decide +kernel
theorem dX7_years_100 : decode cX7_years 100 = .ok (.invokevirtual 199, 3) := by decide +kernel
theorem dX7_years_103 : decode cX7_years 103 = .ok (.invokestatic 203, 3) := by decide +kernel
theorem dX7_years_106 : decode cX7_years 106 = .ok (.ireturn, 1) := by decide +kernel
set_option maxRecDepth 20000 in
theorem ggX7_keep_X7_in : GoodIn wsX7_keep wsX7_in := goodIn_r _ [7] (by decide +kernel) (by decide +kernel)
set_option maxRecDepth 20000 in
theorem gX7_keep_X7_in : GoodIn wsX7_keep (va_wsS RX7 77 yX7_in wsX7_in) := goodIn_app (goodIn_of _ (by decide +kernel)) ggX7_keep_X7_in
theorem dX7_keep_0 : decode cX7_keep 0 = .ok (.iload_n 1, 1) := by decide +kernel
theorem dX7_keep_1 : decode cX7_keep 1 = .ok (.i2l, 1) := by decide +kernel
theorem dX7_keep_2 : decode cX7_keep 2 = .ok (.lconst 0, 1) := by decide +kernel
theorem dX7_keep_3 : decode cX7_keep 3 = .ok (.lconst 1, 1) := by decide +kernel
theorem dX7_keep_4 : decode cX7_keep 4 = .ok (.invokestatic 77, 3) := by decide +kernel
theorem dX7_keep_7 : decode cX7_keep 7 = .ok (.ifCond .ne 5, 3) := by decide +kernel
theorem dX7_keep_10 : decode cX7_keep 10 = .ok (.iconst (-1), 1) := by decide +kernel
theorem dX7_keep_11 : decode cX7_keep 11 = .ok (.ireturn, 1) := by decide +kernel
theorem dX7_keep_12 : decode cX7_keep 12 = .ok (.aload_n 0, 1) := by decide +kernel
theorem dX7_keep_13 : decode cX7_keep 13 = .ok (.getfield 61, 3) := by decide +kernel
theorem dX7_keep_16 : decode cX7_keep 16 = .ok (.iload_n 1, 1) := by decide +kernel
theorem dX7_keep_17 : decode cX7_keep 17 = .ok (.iconst 1, 1) := by decide +kernel
theorem dX7_keep_18 : decode cX7_keep 18 = .ok (.bastore, 1) := by decide +kernel
theorem dX7_keep_19 : decode cX7_keep 19 = .ok (.iconst 0, 1) := by decide +kernel
theorem dX7_keep_20 : decode cX7_keep 20 = .ok (.istore_n 2, 1) := by decide +kernel
theorem dX7_keep_21 : decode cX7_keep 21 = .ok (.iload_n 2, 1) := by decide +kernel
theorem dX7_keep_22 : decode cX7_keep 22 = .ok (.bipush 19, 2) := by decide +kernel
theorem dX7_keep_24 : decode cX7_keep 24 = .ok (.if_icmp .ge 26, 3) := by decide +kernel
theorem dX7_keep_27 : decode cX7_keep 27 = .ok (.aload_n 0, 1) := by decide +kernel
theorem dX7_keep_28 : decode cX7_keep 28 = .ok (.getfield 65, 3) := by decide +kernel
theorem dX7_keep_31 : decode cX7_keep 31 = .ok (.bipush 19, 2) := by decide +kernel
theorem dX7_keep_33 : decode cX7_keep 33 = .ok (.iload_n 1, 1) := by decide +kernel
theorem dX7_keep_34 : decode cX7_keep 34 = .ok (.imul, 1) := by decide +kernel
theorem dX7_keep_35 : decode cX7_keep 35 = .ok (.iload_n 2, 1) := by decide +kernel
theorem dX7_keep_36 : decode cX7_keep 36 = .ok (.iadd, 1) := by decide +kernel
theorem dX7_keep_37 : decode cX7_keep 37 = .ok (.aload_n 0, 1) := by decide +kernel
theorem dX7_keep_38 : decode cX7_keep 38 = .ok (.getfield 28, 3) := by decide +kernel
theorem dX7_keep_41 : decode cX7_keep 41 = .ok (.iload_n 2, 1) := by decide +kernel
theorem dX7_keep_42 : decode cX7_keep 42 = .ok (.iaload, 1) := by decide +kernel
theorem dX7_keep_43 : decode cX7_keep 43 = .ok (.iastore, 1) := by decide +kernel
theorem dX7_keep_44 : decode cX7_keep 44 = .ok (.iinc 2 1, 3) := by decide +kernel
theorem dX7_keep_47 : decode cX7_keep 47 = .ok (.goto (-26), 3) := by decide +kernel
theorem dX7_keep_50 : decode cX7_keep 50 = .ok (.aload_n 0, 1) := by decide +kernel
theorem dX7_keep_51 : decode cX7_keep 51 = .ok (.getfield 28, 3) := by decide +kernel
theorem dX7_keep_54 : decode cX7_keep 54 = .ok (.bipush 18, 2) := by decide +kernel
theorem dX7_keep_56 : decode cX7_keep 56 = .ok (.iaload, 1) := by decide +kernel
theorem dX7_keep_57 : decode cX7_keep 57 = .ok (.ireturn, 1) := by decide +kernel
set_option maxRecDepth 20000 in
theorem ggX7_again_X7_in : GoodIn wsX7_again wsX7_in := goodIn_r _ [8] (by decide +kernel) (by decide +kernel)
set_option maxRecDepth 20000 in
theorem gX7_again_X7_in : GoodIn wsX7_again (va_wsS RX7 77 yX7_in wsX7_in) := goodIn_app (goodIn_of _ (by decide +kernel)) ggX7_again_X7_in
theorem dX7_again_0 : decode cX7_again 0 = .ok (.iload_n 1, 1) := by decide +kernel
theorem dX7_again_1 : decode cX7_again 1 = .ok (.i2l, 1) := by decide +kernel
theorem dX7_again_2 : decode cX7_again 2 = .ok (.lconst 0, 1) := by decide +kernel
theorem dX7_again_3 : decode cX7_again 3 = .ok (.lconst 1, 1) := by decide +kernel
theorem dX7_again_4 : decode cX7_again 4 = .ok (.invokestatic 77, 3) := by decide +kernel
theorem dX7_again_7 : decode cX7_again 7 = .ok (.ifCond .ne 5, 3) := by decide +kernel
theorem dX7_again_10 : decode cX7_again 10 = .ok (.iconst (-1), 1) := by decide +kernel
theorem dX7_again_11 : decode cX7_again 11 = .ok (.ireturn, 1) := by decide +kernel
theorem dX7_again_12 : decode cX7_again 12 = .ok (.aload_n 0, 1) := by decide +kernel
theorem dX7_again_13 : decode cX7_again 13 = .ok (.getfield 61, 3) := by decide +kernel
theorem dX7_again_16 : decode cX7_again 16 = .ok (.iload_n 1, 1) := by decide +kernel
theorem dX7_again_17 : decode cX7_again 17 = .ok (.baload, 1) := by decide +kernel
theorem dX7_again_18 : decode cX7_again 18 = .ok (.ifCond .ne 6, 3) := by decide +kernel
theorem dX7_again_21 : decode cX7_again 21 = .ok (.bipush (-3), 2) := by decide +kernel
theorem dX7_again_23 : decode cX7_again 23 = .ok (.ireturn, 1) := by decide +kernel
theorem dX7_again_24 : decode cX7_again 24 = .ok (.iconst 0, 1) := by decide +kernel
theorem dX7_again_25 : decode cX7_again 25 = .ok (.istore_n 2, 1) := by decide +kernel
theorem dX7_again_26 : decode cX7_again 26 = .ok (.iload_n 2, 1) := by decide +kernel
theorem dX7_again_27 : decode cX7_again 27 = .ok (.bipush 19, 2) := by decide +kernel
theorem dX7_again_29 : decode cX7_again 29 = .ok (.if_icmp .ge 26, 3) := by decide +kernel
theorem dX7_again_32 : decode cX7_again 32 = .ok (.aload_n 0, 1) := by decide +kernel
theorem dX7_again_33 : decode cX7_again 33 = .ok (.getfield 28, 3) := by decide +kernel
theorem dX7_again_36 : decode cX7_again 36 = .ok (.iload_n 2, 1) := by decide +kernel
theorem dX7_again_37 : decode cX7_again 37 = .ok (.aload_n 0, 1) := by decide +kernel
theorem dX7_again_38 : decode cX7_again 38 = .ok (.getfield 65, 3) := by decide +kernel
theorem dX7_again_41 : decode cX7_again 41 = .ok (.bipush 19, 2) := by decide +kernel
theorem dX7_again_43 : decode cX7_again 43 = .ok (.iload_n 1, 1) := by decide +kernel
theorem dX7_again_44 : decode cX7_again 44 = .ok (.imul, 1) := by decide +kernel
theorem dX7_again_45 : decode cX7_again 45 = .ok (.iload_n 2, 1) := by decide +kernel
theorem dX7_again_46 : decode cX7_again 46 = .ok (.iadd, 1) := by decide +kernel
theorem dX7_again_47 : decode cX7_again 47 = .ok (.iaload, 1) := by decide +kernel
theorem dX7_again_48 : decode cX7_again 48 = .ok (.iastore, 1) := by decide +kernel
theorem dX7_again_49 : decode cX7_again 49 = .ok (.iinc 2 1, 3) := by decide +kernel
theorem dX7_again_52 : decode cX7_again 52 = .ok (.goto (-26), 3) := by decide +kernel
theorem dX7_again_55 : decode cX7_again 55 = .ok (.aload_n 0, 1) := by decide +kernel
theorem dX7_again_56 : decode cX7_again 56 = .ok (.iconst 0, 1) := by decide +kernel
theorem dX7_again_57 : decode cX7_again 57 = .ok (.putfield 142, 3) := by decide +kernel
theorem dX7_again_60 : decode cX7_again 60 = .ok (.aload_n 0, 1) := by decide +kernel
theorem dX7_again_61 : decode cX7_again 61 = .ok (.getfield 28, 3) := by decide +kernel
theorem dX7_again_64 : decode cX7_again 64 = .ok (.bipush 18, 2) := by decide +kernel
theorem dX7_again_66 : decode cX7_again 66 = .ok (.iaload, 1) := by decide +kernel
theorem dX7_again_67 : decode cX7_again 67 = .ok (.ireturn, 1) := by decide +kernel
set_option maxRecDepth 20000 in
theorem ggX7_count_X7_tideOn : GoodIn wsX7_count wsX7_tideOn := goodIn_r _ [12, 5, 13, 14, 24, 25, 26, 27, 28, 29, 30, 31, 32, 33, 34, 35, 36, 37, 38, 39, 40, 41, 42, 43, 44, 45, 46, 47, 48, 49, 50, 51, 52, 53, 54, 55, 56, 57, 58, 59, 60] (by decide +kernel) (by decide +kernel)
set_option maxRecDepth 20000 in
theorem gX7_count_X7_tideOn : GoodIn wsX7_count (wsV RX7 162 RX7 yX7_tideOn wsX7_tideOn) := goodIn_app (goodIn_of _ (by decide +kernel)) ggX7_count_X7_tideOn
set_option maxRecDepth 20000 in
theorem ggX7_count_X7_outOn : GoodIn wsX7_count wsX7_outOn := goodIn_r _ [18, 4, 5, 19, 20, 21, 22, 11, 23, 24, 25, 26, 27, 28, 29, 30, 31, 32, 33, 34, 35, 36, 37, 38, 39, 40, 41, 42, 43, 44, 45, 46, 47, 48, 49, 50, 51, 52, 53, 54, 55, 56, 57, 58, 59, 60] (by decide +kernel) (by decide +kernel)
set_option maxRecDepth 20000 in
theorem gX7_count_X7_outOn : GoodIn wsX7_count (wsV RX7 199 RX7 yX7_outOn wsX7_outOn) := goodIn_app (goodIn_of _ (by decide +kernel)) ggX7_count_X7_outOn
theorem dX7_count_0 : decode cX7_count 0 = .ok (.iload_n 1, 1) := by decide +kernel
theorem dX7_count_1 : decode cX7_count 1 = .ok (.tableswitch 113 0 9 #[55, 60, 65, 70, 75, 83, 89, 96, 103, 108], 55) := by decide +kernel
theorem dX7_count_56 : decode cX7_count 56 = .ok (.aload_n 0, 1) := by decide +kernel
theorem dX7_count_57 : decode cX7_count 57 = .ok (.getfield 81, 3) := by decide +kernel
theorem dX7_count_60 : decode cX7_count 60 = .ok (.ireturn, 1) := by decide +kernel
theorem dX7_count_61 : decode cX7_count 61 = .ok (.aload_n 0, 1) := by decide +kernel
theorem dX7_count_62 : decode cX7_count 62 = .ok (.getfield 123, 3) := by decide +kernel
theorem dX7_count_65 : decode cX7_count 65 = .ok (.ireturn, 1) := by decide +kernel
theorem dX7_count_66 : decode cX7_count 66 = .ok (.aload_n 0, 1) := by decide +kernel
theorem dX7_count_67 : decode cX7_count 67 = .ok (.getfield 126, 3) := by decide +kernel
theorem dX7_count_70 : decode cX7_count 70 = .ok (.ireturn, 1) := by decide +kernel
theorem dX7_count_71 : decode cX7_count 71 = .ok (.aload_n 0, 1) := by decide +kernel
theorem dX7_count_72 : decode cX7_count 72 = .ok (.getfield 129, 3) := by decide +kernel
theorem dX7_count_75 : decode cX7_count 75 = .ok (.ireturn, 1) := by decide +kernel
theorem dX7_count_76 : decode cX7_count 76 = .ok (.aload_n 0, 1) := by decide +kernel
theorem dX7_count_77 : decode cX7_count 77 = .ok (.getfield 28, 3) := by decide +kernel
theorem dX7_count_80 : decode cX7_count 80 = .ok (.bipush 18, 2) := by decide +kernel
theorem dX7_count_82 : decode cX7_count 82 = .ok (.iaload, 1) := by decide +kernel
theorem dX7_count_83 : decode cX7_count 83 = .ok (.ireturn, 1) := by decide +kernel
theorem dX7_count_84 : decode cX7_count 84 = .ok (.aload_n 0, 1) := by decide +kernel
theorem dX7_count_85 : decode cX7_count 85 = .ok (.iconst 0, 1) := by decide +kernel
theorem dX7_count_86 : decode cX7_count 86 = .ok (.invokevirtual 162, 3) := by decide +kernel
theorem dX7_count_89 : decode cX7_count 89 = .ok (.ireturn, 1) := by decide +kernel
theorem dX7_count_90 : decode cX7_count 90 = .ok (.aload_n 0, 1) := by decide +kernel
theorem dX7_count_91 : decode cX7_count 91 = .ok (.iconst 0, 1) := by decide +kernel
theorem dX7_count_92 : decode cX7_count 92 = .ok (.iconst 0, 1) := by decide +kernel
theorem dX7_count_93 : decode cX7_count 93 = .ok (.invokevirtual 199, 3) := by decide +kernel
theorem dX7_count_96 : decode cX7_count 96 = .ok (.ireturn, 1) := by decide +kernel
theorem dX7_count_97 : decode cX7_count 97 = .ok (.aload_n 0, 1) := by decide +kernel
theorem dX7_count_98 : decode cX7_count 98 = .ok (.iconst 0, 1) := by decide +kernel
theorem dX7_count_99 : decode cX7_count 99 = .ok (.iconst 1, 1) := by decide +kernel
theorem dX7_count_100 : decode cX7_count 100 = .ok (.invokevirtual 199, 3) := by decide +kernel
theorem dX7_count_103 : decode cX7_count 103 = .ok (.ireturn, 1) := by decide +kernel
theorem dX7_count_104 : decode cX7_count 104 = .ok (.aload_n 0, 1) := by decide +kernel
theorem dX7_count_105 : decode cX7_count 105 = .ok (.getfield 142, 3) := by decide +kernel
theorem dX7_count_108 : decode cX7_count 108 = .ok (.ireturn, 1) := by decide +kernel
theorem dX7_count_109 : decode cX7_count 109 = .ok (.aload_n 0, 1) := by decide +kernel
theorem dX7_count_110 : decode cX7_count 110 = .ok (.getfield 212, 3) := by decide +kernel
theorem dX7_count_113 : decode cX7_count 113 = .ok (.ireturn, 1) := by decide +kernel
theorem dX7_count_114 : decode cX7_count 114 = .ok (.bipush (-2), 2) := by decide +kernel
theorem dX7_count_116 : decode cX7_count 116 = .ok (.ireturn, 1) := by decide +kernel
theorem dJ6_bitCount_0f7a4_0 : decode cJ6_bitCount_0f7a4 0 = .ok (.iload_n 0, 1) := by decide +kernel
theorem dJ6_bitCount_0f7a4_1 : decode cJ6_bitCount_0f7a4 1 = .ok (.iload_n 0, 1) := by decide +kernel
theorem dJ6_bitCount_0f7a4_2 : decode cJ6_bitCount_0f7a4 2 = .ok (.iconst 1, 1) := by decide +kernel
theorem dJ6_bitCount_0f7a4_3 : decode cJ6_bitCount_0f7a4 3 = .ok (.iushr, 1) := by decide +kernel
theorem dJ6_bitCount_0f7a4_4 : decode cJ6_bitCount_0f7a4 4 = .ok (.ldc_w 265, 3) := by decide +kernel
theorem dJ6_bitCount_0f7a4_7 : decode cJ6_bitCount_0f7a4 7 = .ok (.iand, 1) := by decide +kernel
theorem dJ6_bitCount_0f7a4_8 : decode cJ6_bitCount_0f7a4 8 = .ok (.isub, 1) := by decide +kernel
theorem dJ6_bitCount_0f7a4_9 : decode cJ6_bitCount_0f7a4 9 = .ok (.istore_n 0, 1) := by decide +kernel
theorem dJ6_bitCount_0f7a4_10 : decode cJ6_bitCount_0f7a4 10 = .ok (.iload_n 0, 1) := by decide +kernel
theorem dJ6_bitCount_0f7a4_11 : decode cJ6_bitCount_0f7a4 11 = .ok (.ldc_w 266, 3) := by decide +kernel
theorem dJ6_bitCount_0f7a4_14 : decode cJ6_bitCount_0f7a4 14 = .ok (.iand, 1) := by decide +kernel
theorem dJ6_bitCount_0f7a4_15 : decode cJ6_bitCount_0f7a4 15 = .ok (.iload_n 0, 1) := by decide +kernel
theorem dJ6_bitCount_0f7a4_16 : decode cJ6_bitCount_0f7a4 16 = .ok (.iconst 2, 1) := by decide +kernel
theorem dJ6_bitCount_0f7a4_17 : decode cJ6_bitCount_0f7a4 17 = .ok (.iushr, 1) := by decide +kernel
theorem dJ6_bitCount_0f7a4_18 : decode cJ6_bitCount_0f7a4 18 = .ok (.ldc_w 266, 3) := by decide +kernel
theorem dJ6_bitCount_0f7a4_21 : decode cJ6_bitCount_0f7a4 21 = .ok (.iand, 1) := by decide +kernel
theorem dJ6_bitCount_0f7a4_22 : decode cJ6_bitCount_0f7a4 22 = .ok (.iadd, 1) := by decide +kernel
theorem dJ6_bitCount_0f7a4_23 : decode cJ6_bitCount_0f7a4 23 = .ok (.istore_n 0, 1) := by decide +kernel
theorem dJ6_bitCount_0f7a4_24 : decode cJ6_bitCount_0f7a4 24 = .ok (.iload_n 0, 1) := by decide +kernel
theorem dJ6_bitCount_0f7a4_25 : decode cJ6_bitCount_0f7a4 25 = .ok (.iload_n 0, 1) := by decide +kernel
theorem dJ6_bitCount_0f7a4_26 : decode cJ6_bitCount_0f7a4 26 = .ok (.iconst 4, 1) := by decide +kernel
theorem dJ6_bitCount_0f7a4_27 : decode cJ6_bitCount_0f7a4 27 = .ok (.iushr, 1) := by decide +kernel
theorem dJ6_bitCount_0f7a4_28 : decode cJ6_bitCount_0f7a4 28 = .ok (.iadd, 1) := by decide +kernel
theorem dJ6_bitCount_0f7a4_29 : decode cJ6_bitCount_0f7a4 29 = .ok (.ldc_w 267, 3) := by decide +kernel
theorem dJ6_bitCount_0f7a4_32 : decode cJ6_bitCount_0f7a4 32 = .ok (.iand, 1) := by decide +kernel
theorem dJ6_bitCount_0f7a4_33 : decode cJ6_bitCount_0f7a4 33 = .ok (.istore_n 0, 1) := by decide +kernel
theorem dJ6_bitCount_0f7a4_34 : decode cJ6_bitCount_0f7a4 34 = .ok (.iload_n 0, 1) := by decide +kernel
theorem dJ6_bitCount_0f7a4_35 : decode cJ6_bitCount_0f7a4 35 = .ok (.iload_n 0, 1) := by decide +kernel
theorem dJ6_bitCount_0f7a4_36 : decode cJ6_bitCount_0f7a4 36 = .ok (.bipush 8, 2) := by decide +kernel
theorem dJ6_bitCount_0f7a4_38 : decode cJ6_bitCount_0f7a4 38 = .ok (.iushr, 1) := by decide +kernel
theorem dJ6_bitCount_0f7a4_39 : decode cJ6_bitCount_0f7a4 39 = .ok (.iadd, 1) := by decide +kernel
theorem dJ6_bitCount_0f7a4_40 : decode cJ6_bitCount_0f7a4 40 = .ok (.istore_n 0, 1) := by decide +kernel
theorem dJ6_bitCount_0f7a4_41 : decode cJ6_bitCount_0f7a4 41 = .ok (.iload_n 0, 1) := by decide +kernel
theorem dJ6_bitCount_0f7a4_42 : decode cJ6_bitCount_0f7a4 42 = .ok (.iload_n 0, 1) := by decide +kernel
theorem dJ6_bitCount_0f7a4_43 : decode cJ6_bitCount_0f7a4 43 = .ok (.bipush 16, 2) := by decide +kernel
theorem dJ6_bitCount_0f7a4_45 : decode cJ6_bitCount_0f7a4 45 = .ok (.iushr, 1) := by decide +kernel
theorem dJ6_bitCount_0f7a4_46 : decode cJ6_bitCount_0f7a4 46 = .ok (.iadd, 1) := by decide +kernel
theorem dJ6_bitCount_0f7a4_47 : decode cJ6_bitCount_0f7a4 47 = .ok (.istore_n 0, 1) := by decide +kernel
theorem dJ6_bitCount_0f7a4_48 : decode cJ6_bitCount_0f7a4 48 = .ok (.iload_n 0, 1) := by decide +kernel
theorem dJ6_bitCount_0f7a4_49 : decode cJ6_bitCount_0f7a4 49 = .ok (.bipush 63, 2) := by decide +kernel
theorem dJ6_bitCount_0f7a4_51 : decode cJ6_bitCount_0f7a4 51 = .ok (.iand, 1) := by decide +kernel
theorem dJ6_bitCount_0f7a4_52 : decode cJ6_bitCount_0f7a4 52 = .ok (.ireturn, 1) := by decide +kernel
theorem dJ9_abs_0f7a4_0 : decode cJ9_abs_0f7a4 0 = .ok (.iload_n 0, 1) := by decide +kernel
theorem dJ9_abs_0f7a4_1 : decode cJ9_abs_0f7a4 1 = .ok (.ifCond .ge 8, 3) := by decide +kernel
theorem dJ9_abs_0f7a4_4 : decode cJ9_abs_0f7a4 4 = .ok (.iload_n 0, 1) := by decide +kernel
theorem dJ9_abs_0f7a4_5 : decode cJ9_abs_0f7a4 5 = .ok (.ineg, 1) := by decide +kernel
theorem dJ9_abs_0f7a4_6 : decode cJ9_abs_0f7a4 6 = .ok (.goto 4, 3) := by decide +kernel
theorem dJ9_abs_0f7a4_9 : decode cJ9_abs_0f7a4 9 = .ok (.iload_n 0, 1) := by decide +kernel
theorem dJ9_abs_0f7a4_10 : decode cJ9_abs_0f7a4 10 = .ok (.ireturn, 1) := by decide +kernel
theorem dJ9_min_7cf53_0 : decode cJ9_min_7cf53 0 = .ok (.iload_n 0, 1) := by decide +kernel
theorem dJ9_min_7cf53_1 : decode cJ9_min_7cf53 1 = .ok (.iload_n 1, 1) := by decide +kernel
theorem dJ9_min_7cf53_2 : decode cJ9_min_7cf53 2 = .ok (.if_icmp .gt 7, 3) := by decide +kernel
theorem dJ9_min_7cf53_5 : decode cJ9_min_7cf53 5 = .ok (.iload_n 0, 1) := by decide +kernel
theorem dJ9_min_7cf53_6 : decode cJ9_min_7cf53 6 = .ok (.goto 4, 3) := by decide +kernel
theorem dJ9_min_7cf53_9 : decode cJ9_min_7cf53 9 = .ok (.iload_n 1, 1) := by decide +kernel
theorem dJ9_min_7cf53_10 : decode cJ9_min_7cf53 10 = .ok (.ireturn, 1) := by decide +kernel
theorem dJ7_fill_53178_0 : decode cJ7_fill_53178 0 = .ok (.iconst 0, 1) := by decide +kernel
theorem dJ7_fill_53178_1 : decode cJ7_fill_53178 1 = .ok (.istore_n 2, 1) := by decide +kernel
theorem dJ7_fill_53178_2 : decode cJ7_fill_53178 2 = .ok (.aload_n 0, 1) := by decide +kernel
theorem dJ7_fill_53178_3 : decode cJ7_fill_53178 3 = .ok (.arraylength, 1) := by decide +kernel
theorem dJ7_fill_53178_4 : decode cJ7_fill_53178 4 = .ok (.istore_n 3, 1) := by decide +kernel
theorem dJ7_fill_53178_5 : decode cJ7_fill_53178 5 = .ok (.iload_n 2, 1) := by decide +kernel
theorem dJ7_fill_53178_6 : decode cJ7_fill_53178 6 = .ok (.iload_n 3, 1) := by decide +kernel
theorem dJ7_fill_53178_7 : decode cJ7_fill_53178 7 = .ok (.if_icmp .ge 13, 3) := by decide +kernel
theorem dJ7_fill_53178_10 : decode cJ7_fill_53178 10 = .ok (.aload_n 0, 1) := by decide +kernel
theorem dJ7_fill_53178_11 : decode cJ7_fill_53178 11 = .ok (.iload_n 2, 1) := by decide +kernel
theorem dJ7_fill_53178_12 : decode cJ7_fill_53178 12 = .ok (.iload_n 1, 1) := by decide +kernel
theorem dJ7_fill_53178_13 : decode cJ7_fill_53178 13 = .ok (.iastore, 1) := by decide +kernel
theorem dJ7_fill_53178_14 : decode cJ7_fill_53178 14 = .ok (.iinc 2 1, 3) := by decide +kernel
theorem dJ7_fill_53178_17 : decode cJ7_fill_53178 17 = .ok (.goto (-12), 3) := by decide +kernel
theorem dJ7_fill_53178_20 : decode cJ7_fill_53178 20 = .ok (.return_, 1) := by decide +kernel

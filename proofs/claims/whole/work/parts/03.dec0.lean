theorem dX0_init_0 : decode cX0_init 0 = .ok (.aload_n 0, 1) := by decide +kernel
theorem dX0_init_1 : decode cX0_init 1 = .ok (.invokespecial 3, 3) := by decide +kernel
theorem dX0_init_4 : decode cX0_init 4 = .ok (.aload_n 0, 1) := by decide +kernel
theorem dX0_init_5 : decode cX0_init 5 = .ok (.bipush 6, 2) := by decide +kernel
theorem dX0_init_7 : decode cX0_init 7 = .ok (.newarray .int, 2) := by decide +kernel
theorem dX0_init_9 : decode cX0_init 9 = .ok (.putfield 9, 3) := by decide +kernel
theorem dX0_init_12 : decode cX0_init 12 = .ok (.aload_n 0, 1) := by decide +kernel
theorem dX0_init_13 : decode cX0_init 13 = .ok (.bipush 6, 2) := by decide +kernel
theorem dX0_init_15 : decode cX0_init 15 = .ok (.newarray .int, 2) := by decide +kernel
theorem dX0_init_17 : decode cX0_init 17 = .ok (.putfield 15, 3) := by decide +kernel
theorem dX0_init_20 : decode cX0_init 20 = .ok (.aload_n 0, 1) := by decide +kernel
theorem dX0_init_21 : decode cX0_init 21 = .ok (.bipush 6, 2) := by decide +kernel
theorem dX0_init_23 : decode cX0_init 23 = .ok (.newarray .int, 2) := by decide +kernel
theorem dX0_init_25 : decode cX0_init 25 = .ok (.putfield 18, 3) := by decide +kernel
theorem dX0_init_28 : decode cX0_init 28 = .ok (.return_, 1) := by decide +kernel
set_option maxRecDepth 20000 in
theorem ggX0_add_X6_put : GoodIn wsX0_add wsX6_put := goodIn_r _ [7] (by decide +kernel) (by decide +kernel)
set_option maxRecDepth 20000 in
theorem gX0_add_X6_put_n25 : GoodIn wsX0_add (wsX6_put) := ggX0_add_X6_put
theorem dX0_add_0 : decode cX0_add 0 = .ok (.aload_n 0, 1) := by decide +kernel
theorem dX0_add_1 : decode cX0_add 1 = .ok (.getfield 9, 3) := by decide +kernel
theorem dX0_add_4 : decode cX0_add 4 = .ok (.aload_n 0, 1) := by decide +kernel
theorem dX0_add_5 : decode cX0_add 5 = .ok (.getfield 21, 3) := by decide +kernel
theorem dX0_add_8 : decode cX0_add 8 = .ok (.iload_n 1, 1) := by decide +kernel
theorem dX0_add_9 : decode cX0_add 9 = .ok (.invokestatic 25, 3) := by decide +kernel
theorem dX0_add_12 : decode cX0_add 12 = .ok (.aload_n 0, 1) := by decide +kernel
theorem dX0_add_13 : decode cX0_add 13 = .ok (.getfield 15, 3) := by decide +kernel
theorem dX0_add_16 : decode cX0_add 16 = .ok (.aload_n 0, 1) := by decide +kernel
theorem dX0_add_17 : decode cX0_add 17 = .ok (.getfield 21, 3) := by decide +kernel
theorem dX0_add_20 : decode cX0_add 20 = .ok (.iload_n 2, 1) := by decide +kernel
theorem dX0_add_21 : decode cX0_add 21 = .ok (.invokestatic 25, 3) := by decide +kernel
theorem dX0_add_24 : decode cX0_add 24 = .ok (.aload_n 0, 1) := by decide +kernel
theorem dX0_add_25 : decode cX0_add 25 = .ok (.getfield 18, 3) := by decide +kernel
theorem dX0_add_28 : decode cX0_add 28 = .ok (.aload_n 0, 1) := by decide +kernel
theorem dX0_add_29 : decode cX0_add 29 = .ok (.getfield 21, 3) := by decide +kernel
theorem dX0_add_32 : decode cX0_add 32 = .ok (.iload_n 3, 1) := by decide +kernel
theorem dX0_add_33 : decode cX0_add 33 = .ok (.invokestatic 25, 3) := by decide +kernel
theorem dX0_add_36 : decode cX0_add 36 = .ok (.aload_n 0, 1) := by decide +kernel
theorem dX0_add_37 : decode cX0_add 37 = .ok (.dup, 1) := by decide +kernel
theorem dX0_add_38 : decode cX0_add 38 = .ok (.getfield 21, 3) := by decide +kernel
theorem dX0_add_41 : decode cX0_add 41 = .ok (.iconst 1, 1) := by decide +kernel
theorem dX0_add_42 : decode cX0_add 42 = .ok (.iadd, 1) := by decide +kernel
theorem dX0_add_43 : decode cX0_add 43 = .ok (.putfield 21, 3) := by decide +kernel
theorem dX0_add_46 : decode cX0_add 46 = .ok (.return_, 1) := by decide +kernel
set_option maxRecDepth 20000 in
theorem ggX0_allows_X6_cell : GoodIn wsX0_allows wsX6_cell := goodIn_r _ [7] (by decide +kernel) (by decide +kernel)
set_option maxRecDepth 20000 in
theorem gX0_allows_X6_cell_n29 : GoodIn wsX0_allows (wsX6_cell) := ggX0_allows_X6_cell
theorem dX0_allows_0 : decode cX0_allows 0 = .ok (.iconst 0, 1) := by decide +kernel
theorem dX0_allows_1 : decode cX0_allows 1 = .ok (.istore 5, 2) := by decide +kernel
theorem dX0_allows_3 : decode cX0_allows 3 = .ok (.iload 5, 2) := by decide +kernel
theorem dX0_allows_5 : decode cX0_allows 5 = .ok (.aload_n 0, 1) := by decide +kernel
theorem dX0_allows_6 : decode cX0_allows 6 = .ok (.getfield 21, 3) := by decide +kernel
theorem dX0_allows_9 : decode cX0_allows 9 = .ok (.if_icmp .ge 73, 3) := by decide +kernel
theorem dX0_allows_12 : decode cX0_allows 12 = .ok (.aload_n 0, 1) := by decide +kernel
theorem dX0_allows_13 : decode cX0_allows 13 = .ok (.getfield 9, 3) := by decide +kernel
theorem dX0_allows_16 : decode cX0_allows 16 = .ok (.iload 5, 2) := by decide +kernel
theorem dX0_allows_18 : decode cX0_allows 18 = .ok (.invokestatic 29, 3) := by decide +kernel
theorem dX0_allows_21 : decode cX0_allows 21 = .ok (.iload_n 1, 1) := by decide +kernel
theorem dX0_allows_22 : decode cX0_allows 22 = .ok (.if_icmp .ne 20, 3) := by decide +kernel
theorem dX0_allows_25 : decode cX0_allows 25 = .ok (.aload_n 0, 1) := by decide +kernel
theorem dX0_allows_26 : decode cX0_allows 26 = .ok (.getfield 18, 3) := by decide +kernel
theorem dX0_allows_29 : decode cX0_allows 29 = .ok (.iload 5, 2) := by decide +kernel
theorem dX0_allows_31 : decode cX0_allows 31 = .ok (.invokestatic 29, 3) := by decide +kernel
theorem dX0_allows_34 : decode cX0_allows 34 = .ok (.iload_n 2, 1) := by decide +kernel
theorem dX0_allows_35 : decode cX0_allows 35 = .ok (.if_icmp .ne 7, 3) := by decide +kernel
theorem dX0_allows_38 : decode cX0_allows 38 = .ok (.iconst 1, 1) := by decide +kernel
theorem dX0_allows_39 : decode cX0_allows 39 = .ok (.goto 4, 3) := by decide +kernel
theorem dX0_allows_42 : decode cX0_allows 42 = .ok (.iconst 0, 1) := by decide +kernel
theorem dX0_allows_43 : decode cX0_allows 43 = .ok (.istore 6, 2) := by decide +kernel
theorem dX0_allows_45 : decode cX0_allows 45 = .ok (.aload_n 0, 1) := by decide +kernel
theorem dX0_allows_46 : decode cX0_allows 46 = .ok (.getfield 15, 3) := by decide +kernel
theorem dX0_allows_49 : decode cX0_allows 49 = .ok (.iload 5, 2) := by decide +kernel
theorem dX0_allows_51 : decode cX0_allows 51 = .ok (.invokestatic 29, 3) := by decide +kernel
theorem dX0_allows_54 : decode cX0_allows 54 = .ok (.istore 7, 2) := by decide +kernel
theorem dX0_allows_56 : decode cX0_allows 56 = .ok (.iload 6, 2) := by decide +kernel
theorem dX0_allows_58 : decode cX0_allows 58 = .ok (.ifCond .eq 18, 3) := by decide +kernel
theorem dX0_allows_61 : decode cX0_allows 61 = .ok (.iload 7, 2) := by decide +kernel
theorem dX0_allows_63 : decode cX0_allows 63 = .ok (.iload 4, 2) := by decide +kernel
theorem dX0_allows_65 : decode cX0_allows 65 = .ok (.if_icmp .ge 11, 3) := by decide +kernel
theorem dX0_allows_68 : decode cX0_allows 68 = .ok (.iload 7, 2) := by decide +kernel
theorem dX0_allows_70 : decode cX0_allows 70 = .ok (.iload_n 3, 1) := by decide +kernel
theorem dX0_allows_71 : decode cX0_allows 71 = .ok (.if_icmp .eq 5, 3) := by decide +kernel
theorem dX0_allows_74 : decode cX0_allows 74 = .ok (.iconst 0, 1) := by decide +kernel
theorem dX0_allows_75 : decode cX0_allows 75 = .ok (.ireturn, 1) := by decide +kernel
theorem dX0_allows_76 : decode cX0_allows 76 = .ok (.iinc 5 1, 3) := by decide +kernel
theorem dX0_allows_79 : decode cX0_allows 79 = .ok (.goto (-76), 3) := by decide +kernel
theorem dX0_allows_82 : decode cX0_allows 82 = .ok (.iconst 1, 1) := by decide +kernel
theorem dX0_allows_83 : decode cX0_allows 83 = .ok (.ireturn, 1) := by decide +kernel
theorem dX1_init_0 : decode cX1_init 0 = .ok (.aload_n 0, 1) := by decide +kernel
theorem dX1_init_1 : decode cX1_init 1 = .ok (.invokespecial 3, 3) := by decide +kernel
theorem dX1_init_4 : decode cX1_init 4 = .ok (.aload_n 0, 1) := by decide +kernel
theorem dX1_init_5 : decode cX1_init 5 = .ok (.bipush 60, 2) := by decide +kernel
theorem dX1_init_7 : decode cX1_init 7 = .ok (.newarray .int, 2) := by decide +kernel
theorem dX1_init_9 : decode cX1_init 9 = .ok (.putfield 9, 3) := by decide +kernel
theorem dX1_init_12 : decode cX1_init 12 = .ok (.return_, 1) := by decide +kernel
set_option maxRecDepth 20000 in
theorem ggX1_add_X6_put : GoodIn wsX1_add wsX6_put := goodIn_r _ [5] (by decide +kernel) (by decide +kernel)
set_option maxRecDepth 20000 in
theorem gX1_add_X6_put_n19 : GoodIn wsX1_add (wsX6_put) := ggX1_add_X6_put
theorem dX1_add_0 : decode cX1_add 0 = .ok (.aload_n 0, 1) := by decide +kernel
theorem dX1_add_1 : decode cX1_add 1 = .ok (.getfield 9, 3) := by decide +kernel
theorem dX1_add_4 : decode cX1_add 4 = .ok (.aload_n 0, 1) := by decide +kernel
theorem dX1_add_5 : decode cX1_add 5 = .ok (.getfield 15, 3) := by decide +kernel
theorem dX1_add_8 : decode cX1_add 8 = .ok (.iload_n 1, 1) := by decide +kernel
theorem dX1_add_9 : decode cX1_add 9 = .ok (.invokestatic 19, 3) := by decide +kernel
theorem dX1_add_12 : decode cX1_add 12 = .ok (.aload_n 0, 1) := by decide +kernel
theorem dX1_add_13 : decode cX1_add 13 = .ok (.dup, 1) := by decide +kernel
theorem dX1_add_14 : decode cX1_add 14 = .ok (.getfield 15, 3) := by decide +kernel
theorem dX1_add_17 : decode cX1_add 17 = .ok (.iconst 1, 1) := by decide +kernel
theorem dX1_add_18 : decode cX1_add 18 = .ok (.iadd, 1) := by decide +kernel
theorem dX1_add_19 : decode cX1_add 19 = .ok (.putfield 15, 3) := by decide +kernel
theorem dX1_add_22 : decode cX1_add 22 = .ok (.return_, 1) := by decide +kernel
set_option maxRecDepth 20000 in
theorem ggX1_at_X6_cell : GoodIn wsX1_at wsX6_cell := goodIn_r _ [4] (by decide +kernel) (by decide +kernel)
set_option maxRecDepth 20000 in
theorem gX1_at_X6_cell_n23 : GoodIn wsX1_at (wsX6_cell) := ggX1_at_X6_cell
theorem dX1_at_0 : decode cX1_at 0 = .ok (.aload_n 0, 1) := by decide +kernel
theorem dX1_at_1 : decode cX1_at 1 = .ok (.getfield 9, 3) := by decide +kernel
theorem dX1_at_4 : decode cX1_at 4 = .ok (.iload_n 1, 1) := by decide +kernel
theorem dX1_at_5 : decode cX1_at 5 = .ok (.invokestatic 23, 3) := by decide +kernel
theorem dX1_at_8 : decode cX1_at 8 = .ok (.ireturn, 1) := by decide +kernel
theorem dX2_init_0 : decode cX2_init 0 = .ok (.aload_n 0, 1) := by decide +kernel
theorem dX2_init_1 : decode cX2_init 1 = .ok (.invokespecial 3, 3) := by decide +kernel
theorem dX2_init_4 : decode cX2_init 4 = .ok (.aload_n 0, 1) := by decide +kernel
theorem dX2_init_5 : decode cX2_init 5 = .ok (.iconst 4, 1) := by decide +kernel
theorem dX2_init_6 : decode cX2_init 6 = .ok (.newarray .int, 2) := by decide +kernel
theorem dX2_init_8 : decode cX2_init 8 = .ok (.putfield 9, 3) := by decide +kernel
theorem dX2_init_11 : decode cX2_init 11 = .ok (.aload_n 0, 1) := by decide +kernel
theorem dX2_init_12 : decode cX2_init 12 = .ok (.iconst 4, 1) := by decide +kernel
theorem dX2_init_13 : decode cX2_init 13 = .ok (.newarray .int, 2) := by decide +kernel
theorem dX2_init_15 : decode cX2_init 15 = .ok (.putfield 15, 3) := by decide +kernel
theorem dX2_init_18 : decode cX2_init 18 = .ok (.aload_n 0, 1) := by decide +kernel
theorem dX2_init_19 : decode cX2_init 19 = .ok (.iconst 4, 1) := by decide +kernel
theorem dX2_init_20 : decode cX2_init 20 = .ok (.newarray .int, 2) := by decide +kernel
theorem dX2_init_22 : decode cX2_init 22 = .ok (.putfield 18, 3) := by decide +kernel
theorem dX2_init_25 : decode cX2_init 25 = .ok (.aload_n 0, 1) := by decide +kernel
theorem dX2_init_26 : decode cX2_init 26 = .ok (.iconst 4, 1) := by decide +kernel
theorem dX2_init_27 : decode cX2_init 27 = .ok (.newarray .int, 2) := by decide +kernel
theorem dX2_init_29 : decode cX2_init 29 = .ok (.putfield 21, 3) := by decide +kernel
theorem dX2_init_32 : decode cX2_init 32 = .ok (.return_, 1) := by decide +kernel
set_option maxRecDepth 20000 in
theorem ggX2_begin_X6_cell : GoodIn wsX2_begin wsX6_cell := goodIn_r _ [16] (by decide +kernel) (by decide +kernel)
set_option maxRecDepth 20000 in
theorem gX2_begin_X6_cell_n29 : GoodIn wsX2_begin (wsX6_cell) := ggX2_begin_X6_cell
set_option maxRecDepth 20000 in
theorem ggX2_begin_X6_put : GoodIn wsX2_begin wsX6_put := goodIn_r _ [18] (by decide +kernel) (by decide +kernel)
set_option maxRecDepth 20000 in
theorem gX2_begin_X6_put_n33 : GoodIn wsX2_begin (wsX6_put) := ggX2_begin_X6_put
set_option maxRecDepth 20000 in
theorem ggX2_begin_X6_all : GoodIn wsX2_begin wsX6_all := goodIn_r _ [20, 21, 22, 15, 23] (by decide +kernel) (by decide +kernel)
set_option maxRecDepth 20000 in
theorem gX2_begin_X6_all_n42 : GoodIn wsX2_begin (wsX6_all) := ggX2_begin_X6_all
theorem dX2_begin_0 : decode cX2_begin 0 = .ok (.iconst 0, 1) := by decide +kernel
theorem dX2_begin_1 : decode cX2_begin 1 = .ok (.istore_n 2, 1) := by decide +kernel
theorem dX2_begin_2 : decode cX2_begin 2 = .ok (.iload_n 2, 1) := by decide +kernel
theorem dX2_begin_3 : decode cX2_begin 3 = .ok (.iconst 4, 1) := by decide +kernel
theorem dX2_begin_4 : decode cX2_begin 4 = .ok (.if_icmp .ge 60, 3) := by decide +kernel
theorem dX2_begin_7 : decode cX2_begin 7 = .ok (.aload_n 0, 1) := by decide +kernel
theorem dX2_begin_8 : decode cX2_begin 8 = .ok (.getfield 9, 3) := by decide +kernel
theorem dX2_begin_11 : decode cX2_begin 11 = .ok (.iload_n 2, 1) := by decide +kernel
theorem dX2_begin_12 : decode cX2_begin 12 = .ok (.aload_n 1, 1) := by decide +kernel
theorem dX2_begin_13 : decode cX2_begin 13 = .ok (.getfield 24, 3) := by decide +kernel
theorem dX2_begin_16 : decode cX2_begin 16 = .ok (.iload_n 2, 1) := by decide +kernel
theorem dX2_begin_17 : decode cX2_begin 17 = .ok (.invokestatic 29, 3) := by decide +kernel
theorem dX2_begin_20 : decode cX2_begin 20 = .ok (.invokestatic 33, 3) := by decide +kernel
theorem dX2_begin_23 : decode cX2_begin 23 = .ok (.aload_n 0, 1) := by decide +kernel
theorem dX2_begin_24 : decode cX2_begin 24 = .ok (.getfield 15, 3) := by decide +kernel
theorem dX2_begin_27 : decode cX2_begin 27 = .ok (.iload_n 2, 1) := by decide +kernel
theorem dX2_begin_28 : decode cX2_begin 28 = .ok (.bipush (-9), 2) := by decide +kernel
theorem dX2_begin_30 : decode cX2_begin 30 = .ok (.invokestatic 33, 3) := by decide +kernel
theorem dX2_begin_33 : decode cX2_begin 33 = .ok (.aload_n 0, 1) := by decide +kernel
theorem dX2_begin_34 : decode cX2_begin 34 = .ok (.getfield 18, 3) := by decide +kernel
theorem dX2_begin_37 : decode cX2_begin 37 = .ok (.iload_n 2, 1) := by decide +kernel
theorem dX2_begin_38 : decode cX2_begin 38 = .ok (.iconst 0, 1) := by decide +kernel
theorem dX2_begin_39 : decode cX2_begin 39 = .ok (.invokestatic 33, 3) := by decide +kernel
theorem dX2_begin_42 : decode cX2_begin 42 = .ok (.aload_n 0, 1) := by decide +kernel
theorem dX2_begin_43 : decode cX2_begin 43 = .ok (.getfield 21, 3) := by decide +kernel
theorem dX2_begin_46 : decode cX2_begin 46 = .ok (.iload_n 2, 1) := by decide +kernel
theorem dX2_begin_47 : decode cX2_begin 47 = .ok (.aload_n 1, 1) := by decide +kernel
theorem dX2_begin_48 : decode cX2_begin 48 = .ok (.getfield 37, 3) := by decide +kernel
theorem dX2_begin_51 : decode cX2_begin 51 = .ok (.iload_n 2, 1) := by decide +kernel
theorem dX2_begin_52 : decode cX2_begin 52 = .ok (.invokestatic 29, 3) := by decide +kernel
theorem dX2_begin_55 : decode cX2_begin 55 = .ok (.invokestatic 33, 3) := by decide +kernel
theorem dX2_begin_58 : decode cX2_begin 58 = .ok (.iinc 2 1, 3) := by decide +kernel
theorem dX2_begin_61 : decode cX2_begin 61 = .ok (.goto (-59), 3) := by decide +kernel
theorem dX2_begin_64 : decode cX2_begin 64 = .ok (.aload_n 0, 1) := by decide +kernel
theorem dX2_begin_65 : decode cX2_begin 65 = .ok (.aload_n 1, 1) := by decide +kernel
theorem dX2_begin_66 : decode cX2_begin 66 = .ok (.getfield 38, 3) := by decide +kernel
theorem dX2_begin_69 : decode cX2_begin 69 = .ok (.invokestatic 42, 3) := by decide +kernel
theorem dX2_begin_72 : decode cX2_begin 72 = .ok (.putfield 46, 3) := by decide +kernel
theorem dX2_begin_75 : decode cX2_begin 75 = .ok (.aload_n 0, 1) := by decide +kernel
theorem dX2_begin_76 : decode cX2_begin 76 = .ok (.iconst 0, 1) := by decide +kernel
theorem dX2_begin_77 : decode cX2_begin 77 = .ok (.putfield 49, 3) := by decide +kernel
theorem dX2_begin_80 : decode cX2_begin 80 = .ok (.aload_n 0, 1) := by decide +kernel
theorem dX2_begin_81 : decode cX2_begin 81 = .ok (.aload_n 1, 1) := by decide +kernel
theorem dX2_begin_82 : decode cX2_begin 82 = .ok (.getfield 52, 3) := by decide +kernel
theorem dX2_begin_85 : decode cX2_begin 85 = .ok (.invokestatic 42, 3) := by decide +kernel
theorem dX2_begin_88 : decode cX2_begin 88 = .ok (.putfield 55, 3) := by decide +kernel
theorem dX2_begin_91 : decode cX2_begin 91 = .ok (.aload_n 0, 1) := by decide +kernel
theorem dX2_begin_92 : decode cX2_begin 92 = .ok (.iconst 0, 1) := by decide +kernel
theorem dX2_begin_93 : decode cX2_begin 93 = .ok (.putfield 58, 3) := by decide +kernel
theorem dX2_begin_96 : decode cX2_begin 96 = .ok (.aload_n 0, 1) := by decide +kernel
theorem dX2_begin_97 : decode cX2_begin 97 = .ok (.iconst 0, 1) := by decide +kernel
theorem dX2_begin_98 : decode cX2_begin 98 = .ok (.putfield 61, 3) := by decide +kernel
theorem dX2_begin_101 : decode cX2_begin 101 = .ok (.return_, 1) := by decide +kernel
set_option maxRecDepth 20000 in
theorem ggX2_copy_X6_cell : GoodIn wsX2_copy wsX6_cell := goodIn_r _ [12] (by decide +kernel) (by decide +kernel)
set_option maxRecDepth 20000 in
theorem gX2_copy_X6_cell_n29 : GoodIn wsX2_copy (wsX6_cell) := ggX2_copy_X6_cell
set_option maxRecDepth 20000 in
theorem ggX2_copy_X6_put : GoodIn wsX2_copy wsX6_put := goodIn_r _ [14] (by decide +kernel) (by decide +kernel)
set_option maxRecDepth 20000 in
theorem gX2_copy_X6_put_n33 : GoodIn wsX2_copy (wsX6_put) := ggX2_copy_X6_put
theorem dX2_copy_0 : decode cX2_copy 0 = .ok (.iconst 0, 1) := by decide +kernel
theorem dX2_copy_1 : decode cX2_copy 1 = .ok (.istore_n 2, 1) := by decide +kernel
theorem dX2_copy_2 : decode cX2_copy 2 = .ok (.iload_n 2, 1) := by decide +kernel
theorem dX2_copy_3 : decode cX2_copy 3 = .ok (.iconst 4, 1) := by decide +kernel
theorem dX2_copy_4 : decode cX2_copy 4 = .ok (.if_icmp .ge 73, 3) := by decide +kernel
theorem dX2_copy_7 : decode cX2_copy 7 = .ok (.aload_n 0, 1) := by decide +kernel
theorem dX2_copy_8 : decode cX2_copy 8 = .ok (.getfield 9, 3) := by decide +kernel
theorem dX2_copy_11 : decode cX2_copy 11 = .ok (.iload_n 2, 1) := by decide +kernel
theorem dX2_copy_12 : decode cX2_copy 12 = .ok (.aload_n 1, 1) := by decide +kernel
theorem dX2_copy_13 : decode cX2_copy 13 = .ok (.getfield 9, 3) := by decide +kernel
theorem dX2_copy_16 : decode cX2_copy 16 = .ok (.iload_n 2, 1) := by decide +kernel
theorem dX2_copy_17 : decode cX2_copy 17 = .ok (.invokestatic 29, 3) := by decide +kernel
theorem dX2_copy_20 : decode cX2_copy 20 = .ok (.invokestatic 33, 3) := by decide +kernel
theorem dX2_copy_23 : decode cX2_copy 23 = .ok (.aload_n 0, 1) := by decide +kernel
theorem dX2_copy_24 : decode cX2_copy 24 = .ok (.getfield 15, 3) := by decide +kernel
theorem dX2_copy_27 : decode cX2_copy 27 = .ok (.iload_n 2, 1) := by decide +kernel
theorem dX2_copy_28 : decode cX2_copy 28 = .ok (.aload_n 1, 1) := by decide +kernel
theorem dX2_copy_29 : decode cX2_copy 29 = .ok (.getfield 15, 3) := by decide +kernel
theorem dX2_copy_32 : decode cX2_copy 32 = .ok (.iload_n 2, 1) := by decide +kernel
theorem dX2_copy_33 : decode cX2_copy 33 = .ok (.invokestatic 29, 3) := by decide +kernel
theorem dX2_copy_36 : decode cX2_copy 36 = .ok (.invokestatic 33, 3) := by decide +kernel
theorem dX2_copy_39 : decode cX2_copy 39 = .ok (.aload_n 0, 1) := by decide +kernel
theorem dX2_copy_40 : decode cX2_copy 40 = .ok (.getfield 18, 3) := by decide +kernel
theorem dX2_copy_43 : decode cX2_copy 43 = .ok (.iload_n 2, 1) := by decide +kernel
theorem dX2_copy_44 : decode cX2_copy 44 = .ok (.aload_n 1, 1) := by decide +kernel
theorem dX2_copy_45 : decode cX2_copy 45 = .ok (.getfield 18, 3) := by decide +kernel
theorem dX2_copy_48 : decode cX2_copy 48 = .ok (.iload_n 2, 1) := by decide +kernel
theorem dX2_copy_49 : decode cX2_copy 49 = .ok (.invokestatic 29, 3) := by decide +kernel
theorem dX2_copy_52 : decode cX2_copy 52 = .ok (.invokestatic 33, 3) := by decide +kernel
theorem dX2_copy_55 : decode cX2_copy 55 = .ok (.aload_n 0, 1) := by decide +kernel
theorem dX2_copy_56 : decode cX2_copy 56 = .ok (.getfield 21, 3) := by decide +kernel
theorem dX2_copy_59 : decode cX2_copy 59 = .ok (.iload_n 2, 1) := by decide +kernel
theorem dX2_copy_60 : decode cX2_copy 60 = .ok (.aload_n 1, 1) := by decide +kernel
theorem dX2_copy_61 : decode cX2_copy 61 = .ok (.getfield 21, 3) := by decide +kernel
theorem dX2_copy_64 : decode cX2_copy 64 = .ok (.iload_n 2, 1) := by decide +kernel
theorem dX2_copy_65 : decode cX2_copy 65 = .ok (.invokestatic 29, 3) := by decide +kernel
theorem dX2_copy_68 : decode cX2_copy 68 = .ok (.invokestatic 33, 3) := by decide +kernel
theorem dX2_copy_71 : decode cX2_copy 71 = .ok (.iinc 2 1, 3) := by decide +kernel
theorem dX2_copy_74 : decode cX2_copy 74 = .ok (.goto (-72), 3) := by decide +kernel
theorem dX2_copy_77 : decode cX2_copy 77 = .ok (.aload_n 0, 1) := by decide +kernel
theorem dX2_copy_78 : decode cX2_copy 78 = .ok (.aload_n 1, 1) := by decide +kernel
theorem dX2_copy_79 : decode cX2_copy 79 = .ok (.getfield 46, 3) := by decide +kernel
theorem dX2_copy_82 : decode cX2_copy 82 = .ok (.putfield 46, 3) := by decide +kernel
theorem dX2_copy_85 : decode cX2_copy 85 = .ok (.aload_n 0, 1) := by decide +kernel
theorem dX2_copy_86 : decode cX2_copy 86 = .ok (.aload_n 1, 1) := by decide +kernel
theorem dX2_copy_87 : decode cX2_copy 87 = .ok (.getfield 49, 3) := by decide +kernel
theorem dX2_copy_90 : decode cX2_copy 90 = .ok (.putfield 49, 3) := by decide +kernel
theorem dX2_copy_93 : decode cX2_copy 93 = .ok (.aload_n 0, 1) := by decide +kernel
theorem dX2_copy_94 : decode cX2_copy 94 = .ok (.aload_n 1, 1) := by decide +kernel
theorem dX2_copy_95 : decode cX2_copy 95 = .ok (.getfield 55, 3) := by decide +kernel
theorem dX2_copy_98 : decode cX2_copy 98 = .ok (.putfield 55, 3) := by decide +kernel
theorem dX2_copy_101 : decode cX2_copy 101 = .ok (.aload_n 0, 1) := by decide +kernel
theorem dX2_copy_102 : decode cX2_copy 102 = .ok (.aload_n 1, 1) := by decide +kernel
theorem dX2_copy_103 : decode cX2_copy 103 = .ok (.getfield 58, 3) := by decide +kernel
theorem dX2_copy_106 : decode cX2_copy 106 = .ok (.putfield 58, 3) := by decide +kernel
theorem dX2_copy_109 : decode cX2_copy 109 = .ok (.aload_n 0, 1) := by decide +kernel
theorem dX2_copy_110 : decode cX2_copy 110 = .ok (.aload_n 1, 1) := by decide +kernel
theorem dX2_copy_111 : decode cX2_copy 111 = .ok (.getfield 61, 3) := by decide +kernel
theorem dX2_copy_114 : decode cX2_copy 114 = .ok (.putfield 61, 3) := by decide +kernel
theorem dX2_copy_117 : decode cX2_copy 117 = .ok (.return_, 1) := by decide +kernel
set_option maxRecDepth 20000 in
theorem ggX2_turnPipe_X6_bit : GoodIn wsX2_turnPipe wsX6_bit := goodIn_r _ [4] (by decide +kernel) (by decide +kernel)
set_option maxRecDepth 20000 in
theorem gX2_turnPipe_X6_bit_n64 : GoodIn wsX2_turnPipe (wsX6_bit) := ggX2_turnPipe_X6_bit
theorem dX2_turnPipe_0 : decode cX2_turnPipe 0 = .ok (.aload_n 0, 1) := by decide +kernel
theorem dX2_turnPipe_1 : decode cX2_turnPipe 1 = .ok (.dup, 1) := by decide +kernel
theorem dX2_turnPipe_2 : decode cX2_turnPipe 2 = .ok (.getfield 55, 3) := by decide +kernel
theorem dX2_turnPipe_5 : decode cX2_turnPipe 5 = .ok (.iload_n 1, 1) := by decide +kernel
theorem dX2_turnPipe_6 : decode cX2_turnPipe 6 = .ok (.invokestatic 64, 3) := by decide +kernel
theorem dX2_turnPipe_9 : decode cX2_turnPipe 9 = .ok (.ixor, 1) := by decide +kernel
theorem dX2_turnPipe_10 : decode cX2_turnPipe 10 = .ok (.putfield 55, 3) := by decide +kernel
theorem dX2_turnPipe_13 : decode cX2_turnPipe 13 = .ok (.return_, 1) := by decide +kernel
set_option maxRecDepth 20000 in
theorem ggX2_turnLid_X6_bit : GoodIn wsX2_turnLid wsX6_bit := goodIn_r _ [4] (by decide +kernel) (by decide +kernel)
set_option maxRecDepth 20000 in
theorem gX2_turnLid_X6_bit_n64 : GoodIn wsX2_turnLid (wsX6_bit) := ggX2_turnLid_X6_bit
theorem dX2_turnLid_0 : decode cX2_turnLid 0 = .ok (.aload_n 0, 1) := by decide +kernel
theorem dX2_turnLid_1 : decode cX2_turnLid 1 = .ok (.dup, 1) := by decide +kernel
theorem dX2_turnLid_2 : decode cX2_turnLid 2 = .ok (.getfield 58, 3) := by decide +kernel
theorem dX2_turnLid_5 : decode cX2_turnLid 5 = .ok (.iload_n 1, 1) := by decide +kernel
theorem dX2_turnLid_6 : decode cX2_turnLid 6 = .ok (.invokestatic 64, 3) := by decide +kernel
theorem dX2_turnLid_9 : decode cX2_turnLid 9 = .ok (.ixor, 1) := by decide +kernel
theorem dX2_turnLid_10 : decode cX2_turnLid 10 = .ok (.putfield 58, 3) := by decide +kernel
theorem dX2_turnLid_13 : decode cX2_turnLid 13 = .ok (.return_, 1) := by decide +kernel
set_option maxRecDepth 20000 in
theorem ggX2_callBack_X6_put : GoodIn wsX2_callBack wsX6_put := goodIn_r _ [5] (by decide +kernel) (by decide +kernel)
set_option maxRecDepth 20000 in
theorem gX2_callBack_X6_put_n33 : GoodIn wsX2_callBack (wsX6_put) := ggX2_callBack_X6_put
theorem dX2_callBack_0 : decode cX2_callBack 0 = .ok (.aload_n 0, 1) := by decide +kernel
theorem dX2_callBack_1 : decode cX2_callBack 1 = .ok (.getfield 15, 3) := by decide +kernel
theorem dX2_callBack_4 : decode cX2_callBack 4 = .ok (.iload_n 1, 1) := by decide +kernel
theorem dX2_callBack_5 : decode cX2_callBack 5 = .ok (.bipush (-9), 2) := by decide +kernel
theorem dX2_callBack_7 : decode cX2_callBack 7 = .ok (.invokestatic 33, 3) := by decide +kernel
theorem dX2_callBack_10 : decode cX2_callBack 10 = .ok (.aload_n 0, 1) := by decide +kernel
theorem dX2_callBack_11 : decode cX2_callBack 11 = .ok (.getfield 18, 3) := by decide +kernel
theorem dX2_callBack_14 : decode cX2_callBack 14 = .ok (.iload_n 1, 1) := by decide +kernel
theorem dX2_callBack_15 : decode cX2_callBack 15 = .ok (.iconst 0, 1) := by decide +kernel
theorem dX2_callBack_16 : decode cX2_callBack 16 = .ok (.invokestatic 33, 3) := by decide +kernel
theorem dX2_callBack_19 : decode cX2_callBack 19 = .ok (.return_, 1) := by decide +kernel
set_option maxRecDepth 20000 in
theorem ggX2_advance_X3_tide : GoodIn wsX2_advance wsX3_tide := goodIn_r _ [6, 7, 8, 79, 80, 81, 82, 83, 84, 85, 86, 87, 88, 89, 90, 91] (by decide +kernel) (by decide +kernel)
set_option maxRecDepth 20000 in
theorem gX2_advance_X3_tide : GoodIn wsX2_advance (wsV RX2 67 RX3 yX3_tide wsX3_tide) := goodIn_app (goodIn_of _ (by decide +kernel)) ggX2_advance_X3_tide
set_option maxRecDepth 20000 in
theorem ggX2_advance_X2_advanceBy : GoodIn wsX2_advance wsX2_advanceBy := goodIn_r _ [13, 14, 15, 1, 16, 17, 18, 19, 20, 21, 12, 22, 23, 24, 25, 26, 27, 28, 29, 30, 31, 5, 32, 33, 34, 35, 36, 37, 38, 39, 40, 41, 42, 43, 44, 45, 46, 47, 48, 49, 50, 51, 52, 53, 54, 55, 56, 57, 58, 59, 60, 61, 62, 63, 64, 65, 66, 67, 68, 69, 70, 71, 72, 73, 74, 75, 76, 77, 78, 79, 80, 81, 82, 83, 84, 85, 86, 87, 88, 89, 90, 91] (by decide +kernel) (by decide +kernel)
set_option maxRecDepth 20000 in
theorem gX2_advance_X2_advanceBy : GoodIn wsX2_advance (wsV RX2 70 RX2 yX2_advanceBy wsX2_advanceBy) := goodIn_app (goodIn_of _ (by decide +kernel)) ggX2_advance_X2_advanceBy
theorem dX2_advance_0 : decode cX2_advance 0 = .ok (.aload_n 0, 1) := by decide +kernel
theorem dX2_advance_1 : decode cX2_advance 1 = .ok (.aload_n 1, 1) := by decide +kernel
theorem dX2_advance_2 : decode cX2_advance 2 = .ok (.aload_n 0, 1) := by decide +kernel
theorem dX2_advance_3 : decode cX2_advance 3 = .ok (.getfield 61, 3) := by decide +kernel
theorem dX2_advance_6 : decode cX2_advance 6 = .ok (.invokevirtual 67, 3) := by decide +kernel
theorem dX2_advance_9 : decode cX2_advance 9 = .ok (.aload_n 1, 1) := by decide +kernel
theorem dX2_advance_10 : decode cX2_advance 10 = .ok (.invokevirtual 70, 3) := by decide +kernel
theorem dX2_advance_13 : decode cX2_advance 13 = .ok (.return_, 1) := by decide +kernel
set_option maxRecDepth 20000 in
theorem ggX2_advanceTimes_X3_tide : GoodIn wsX2_advanceTimes wsX3_tide := goodIn_r _ [6, 7, 8, 79, 80, 81, 82, 83, 84, 85, 86, 87, 88, 89, 90, 91] (by decide +kernel) (by decide +kernel)
set_option maxRecDepth 20000 in
theorem gX2_advanceTimes_X3_tide : GoodIn wsX2_advanceTimes (wsV RX2 67 RX3 yX3_tide wsX3_tide) := goodIn_app (goodIn_of _ (by decide +kernel)) ggX2_advanceTimes_X3_tide
set_option maxRecDepth 20000 in
theorem ggX2_advanceTimes_X2_advanceBy : GoodIn wsX2_advanceTimes wsX2_advanceBy := goodIn_r _ [13, 14, 15, 1, 16, 17, 18, 19, 20, 21, 12, 22, 23, 24, 25, 26, 27, 28, 29, 30, 31, 5, 32, 33, 34, 35, 36, 37, 38, 39, 40, 41, 42, 43, 44, 45, 46, 47, 48, 49, 50, 51, 52, 53, 54, 55, 56, 57, 58, 59, 60, 61, 62, 63, 64, 65, 66, 67, 68, 69, 70, 71, 72, 73, 74, 75, 76, 77, 78, 79, 80, 81, 82, 83, 84, 85, 86, 87, 88, 89, 90, 91] (by decide +kernel) (by decide +kernel)
set_option maxRecDepth 20000 in
theorem gX2_advanceTimes_X2_advanceBy : GoodIn wsX2_advanceTimes (wsV RX2 70 RX2 yX2_advanceBy wsX2_advanceBy) := goodIn_app (goodIn_of _ (by decide +kernel)) ggX2_advanceTimes_X2_advanceBy
theorem dX2_advanceTimes_0 : decode cX2_advanceTimes 0 = .ok (.iconst 0, 1) := by decide +kernel
theorem dX2_advanceTimes_1 : decode cX2_advanceTimes 1 = .ok (.istore_n 3, 1) := by decide +kernel
theorem dX2_advanceTimes_2 : decode cX2_advanceTimes 2 = .ok (.iload_n 3, 1) := by decide +kernel
theorem dX2_advanceTimes_3 : decode cX2_advanceTimes 3 = .ok (.iload_n 1, 1) := by decide +kernel
theorem dX2_advanceTimes_4 : decode cX2_advanceTimes 4 = .ok (.if_icmp .ge 22, 3) := by decide +kernel
theorem dX2_advanceTimes_7 : decode cX2_advanceTimes 7 = .ok (.aload_n 0, 1) := by decide +kernel
theorem dX2_advanceTimes_8 : decode cX2_advanceTimes 8 = .ok (.aload_n 2, 1) := by decide +kernel
theorem dX2_advanceTimes_9 : decode cX2_advanceTimes 9 = .ok (.aload_n 0, 1) := by decide +kernel
theorem dX2_advanceTimes_10 : decode cX2_advanceTimes 10 = .ok (.getfield 61, 3) := by decide +kernel
theorem dX2_advanceTimes_13 : decode cX2_advanceTimes 13 = .ok (.invokevirtual 67, 3) := by decide +kernel
theorem dX2_advanceTimes_16 : decode cX2_advanceTimes 16 = .ok (.aload_n 2, 1) := by decide +kernel
theorem dX2_advanceTimes_17 : decode cX2_advanceTimes 17 = .ok (.invokevirtual 70, 3) := by decide +kernel
theorem dX2_advanceTimes_20 : decode cX2_advanceTimes 20 = .ok (.iinc 3 1, 3) := by decide +kernel
theorem dX2_advanceTimes_23 : decode cX2_advanceTimes 23 = .ok (.goto (-21), 3) := by decide +kernel
theorem dX2_advanceTimes_26 : decode cX2_advanceTimes 26 = .ok (.return_, 1) := by decide +kernel
set_option maxRecDepth 20000 in
theorem ggX2_goUntilOut_X6_has : GoodIn wsX2_goUntilOut wsX6_has := goodIn_r _ [5] (by decide +kernel) (by decide +kernel)
set_option maxRecDepth 20000 in
theorem gX2_goUntilOut_X6_has_n74 : GoodIn wsX2_goUntilOut (wsX6_has) := ggX2_goUntilOut_X6_has
set_option maxRecDepth 20000 in
theorem ggX2_goUntilOut_X3_tide : GoodIn wsX2_goUntilOut wsX3_tide := goodIn_r _ [10, 11, 12, 79, 80, 81, 82, 83, 84, 85, 86, 87, 88, 89, 90, 91] (by decide +kernel) (by decide +kernel)
set_option maxRecDepth 20000 in
theorem gX2_goUntilOut_X3_tide : GoodIn wsX2_goUntilOut (wsV RX2 67 RX3 yX3_tide wsX3_tide) := goodIn_app (goodIn_of _ (by decide +kernel)) ggX2_goUntilOut_X3_tide
set_option maxRecDepth 20000 in
theorem ggX2_goUntilOut_X2_advanceBy : GoodIn wsX2_goUntilOut wsX2_advanceBy := goodIn_r _ [17, 18, 1, 2, 3, 4, 5, 19, 20, 21, 16, 22, 23, 24, 25, 26, 27, 28, 29, 30, 31, 9, 32, 33, 34, 35, 36, 37, 38, 39, 40, 41, 42, 43, 44, 45, 46, 47, 48, 49, 50, 51, 52, 53, 54, 55, 56, 57, 58, 59, 60, 61, 62, 63, 64, 65, 66, 67, 68, 69, 70, 71, 72, 73, 74, 75, 76, 77, 78, 79, 80, 81, 82, 83, 84, 85, 86, 87, 88, 89, 90, 91] (by decide +kernel) (by decide +kernel)
set_option maxRecDepth 20000 in
theorem gX2_goUntilOut_X2_advanceBy : GoodIn wsX2_goUntilOut (wsV RX2 70 RX2 yX2_advanceBy wsX2_advanceBy) := goodIn_app (goodIn_of _ (by decide +kernel)) ggX2_goUntilOut_X2_advanceBy
theorem dX2_goUntilOut_0 : decode cX2_goUntilOut 0 = .ok (.iconst 0, 1) := by decide +kernel
theorem dX2_goUntilOut_1 : decode cX2_goUntilOut 1 = .ok (.istore_n 3, 1) := by decide +kernel
theorem dX2_goUntilOut_2 : decode cX2_goUntilOut 2 = .ok (.iload_n 3, 1) := by decide +kernel
theorem dX2_goUntilOut_3 : decode cX2_goUntilOut 3 = .ok (.bipush 40, 2) := by decide +kernel
theorem dX2_goUntilOut_5 : decode cX2_goUntilOut 5 = .ok (.if_icmp .ge 35, 3) := by decide +kernel
theorem dX2_goUntilOut_8 : decode cX2_goUntilOut 8 = .ok (.aload_n 0, 1) := by decide +kernel
theorem dX2_goUntilOut_9 : decode cX2_goUntilOut 9 = .ok (.getfield 49, 3) := by decide +kernel
theorem dX2_goUntilOut_12 : decode cX2_goUntilOut 12 = .ok (.iload_n 1, 1) := by decide +kernel
theorem dX2_goUntilOut_13 : decode cX2_goUntilOut 13 = .ok (.invokestatic 74, 3) := by decide +kernel
theorem dX2_goUntilOut_16 : decode cX2_goUntilOut 16 = .ok (.ifCond .eq 5, 3) := by decide +kernel
theorem dX2_goUntilOut_19 : decode cX2_goUntilOut 19 = .ok (.iload_n 3, 1) := by decide +kernel
theorem dX2_goUntilOut_20 : decode cX2_goUntilOut 20 = .ok (.ireturn, 1) := by decide +kernel
theorem dX2_goUntilOut_21 : decode cX2_goUntilOut 21 = .ok (.aload_n 0, 1) := by decide +kernel
theorem dX2_goUntilOut_22 : decode cX2_goUntilOut 22 = .ok (.aload_n 2, 1) := by decide +kernel
theorem dX2_goUntilOut_23 : decode cX2_goUntilOut 23 = .ok (.aload_n 0, 1) := by decide +kernel
theorem dX2_goUntilOut_24 : decode cX2_goUntilOut 24 = .ok (.getfield 61, 3) := by decide +kernel
theorem dX2_goUntilOut_27 : decode cX2_goUntilOut 27 = .ok (.invokevirtual 67, 3) := by decide +kernel
theorem dX2_goUntilOut_30 : decode cX2_goUntilOut 30 = .ok (.aload_n 2, 1) := by decide +kernel
theorem dX2_goUntilOut_31 : decode cX2_goUntilOut 31 = .ok (.invokevirtual 70, 3) := by decide +kernel
theorem dX2_goUntilOut_34 : decode cX2_goUntilOut 34 = .ok (.iinc 3 1, 3) := by decide +kernel
theorem dX2_goUntilOut_37 : decode cX2_goUntilOut 37 = .ok (.goto (-35), 3) := by decide +kernel
theorem dX2_goUntilOut_40 : decode cX2_goUntilOut 40 = .ok (.aload_n 0, 1) := by decide +kernel
theorem dX2_goUntilOut_41 : decode cX2_goUntilOut 41 = .ok (.getfield 49, 3) := by decide +kernel
theorem dX2_goUntilOut_44 : decode cX2_goUntilOut 44 = .ok (.iload_n 1, 1) := by decide +kernel
theorem dX2_goUntilOut_45 : decode cX2_goUntilOut 45 = .ok (.invokestatic 74, 3) := by decide +kernel
theorem dX2_goUntilOut_48 : decode cX2_goUntilOut 48 = .ok (.ifCond .eq 8, 3) := by decide +kernel
theorem dX2_goUntilOut_51 : decode cX2_goUntilOut 51 = .ok (.bipush 40, 2) := by decide +kernel
theorem dX2_goUntilOut_53 : decode cX2_goUntilOut 53 = .ok (.goto 5, 3) := by decide +kernel
theorem dX2_goUntilOut_56 : decode cX2_goUntilOut 56 = .ok (.bipush (-9), 2) := by decide +kernel
theorem dX2_goUntilOut_58 : decode cX2_goUntilOut 58 = .ok (.ireturn, 1) := by decide +kernel
set_option maxRecDepth 20000 in
theorem ggX2_advanceBy_X6_has : GoodIn wsX2_advanceBy wsX6_has := goodIn_r _ [6] (by decide +kernel) (by decide +kernel)
set_option maxRecDepth 20000 in
theorem gX2_advanceBy_X6_has_n74 : GoodIn wsX2_advanceBy (wsX6_has) := ggX2_advanceBy_X6_has
set_option maxRecDepth 20000 in
theorem ggX2_advanceBy_X2_nextOf : GoodIn wsX2_advanceBy wsX2_nextOf := goodIn_r _ [11, 2, 12, 13, 14, 15, 4, 5, 6, 16, 17, 18, 19, 20, 21, 22, 23, 24, 25, 26, 27, 28, 29, 30, 31, 32, 33, 34, 35, 36, 37, 38, 39, 40, 41, 60, 61, 62, 63, 64, 65, 66, 67, 68, 69, 70, 71, 72, 73, 74, 75, 76, 77, 78, 79, 80, 81] (by decide +kernel) (by decide +kernel)
set_option maxRecDepth 20000 in
theorem gX2_advanceBy_X2_nextOf : GoodIn wsX2_advanceBy (wsV RX2 78 RX2 yX2_nextOf wsX2_nextOf) := goodIn_app (goodIn_of _ (by decide +kernel)) ggX2_advanceBy_X2_nextOf
set_option maxRecDepth 20000 in
theorem ggX2_advanceBy_X2_walkOn : GoodIn wsX2_advanceBy wsX2_walkOn := goodIn_r _ [45, 14, 12, 46, 47, 48, 49, 50, 16, 5, 17, 51, 52, 60, 61, 62, 63, 64, 65, 66, 67, 68] (by decide +kernel) (by decide +kernel)
set_option maxRecDepth 20000 in
theorem gX2_advanceBy_X2_walkOn : GoodIn wsX2_advanceBy (wsV RX2 82 RX2 yX2_walkOn wsX2_walkOn) := goodIn_app (goodIn_of _ (by decide +kernel)) ggX2_advanceBy_X2_walkOn
set_option maxRecDepth 20000 in
theorem ggX2_advanceBy_X2_comeUp : GoodIn wsX2_advanceBy wsX2_comeUp := goodIn_r _ [56, 12, 46, 57, 58, 59, 2, 16, 5, 17, 4, 6, 26, 27, 60, 61, 62, 63, 64, 65, 66, 67, 68, 69, 70, 71, 72, 73, 74, 75, 76, 77, 78, 79, 80, 81] (by decide +kernel) (by decide +kernel)
set_option maxRecDepth 20000 in
theorem gX2_advanceBy_X2_comeUp : GoodIn wsX2_advanceBy (wsV RX2 86 RX2 yX2_comeUp wsX2_comeUp) := goodIn_app (goodIn_of _ (by decide +kernel)) ggX2_advanceBy_X2_comeUp
theorem dX2_advanceBy_0 : decode cX2_advanceBy 0 = .ok (.iconst 0, 1) := by decide +kernel
theorem dX2_advanceBy_1 : decode cX2_advanceBy 1 = .ok (.istore_n 3, 1) := by decide +kernel
theorem dX2_advanceBy_2 : decode cX2_advanceBy 2 = .ok (.iload_n 3, 1) := by decide +kernel
theorem dX2_advanceBy_3 : decode cX2_advanceBy 3 = .ok (.iconst 4, 1) := by decide +kernel
theorem dX2_advanceBy_4 : decode cX2_advanceBy 4 = .ok (.if_icmp .ge 45, 3) := by decide +kernel
theorem dX2_advanceBy_7 : decode cX2_advanceBy 7 = .ok (.aload_n 0, 1) := by decide +kernel
theorem dX2_advanceBy_8 : decode cX2_advanceBy 8 = .ok (.getfield 46, 3) := by decide +kernel
theorem dX2_advanceBy_11 : decode cX2_advanceBy 11 = .ok (.aload_n 0, 1) := by decide +kernel
theorem dX2_advanceBy_12 : decode cX2_advanceBy 12 = .ok (.getfield 49, 3) := by decide +kernel
theorem dX2_advanceBy_15 : decode cX2_advanceBy 15 = .ok (.iconst (-1), 1) := by decide +kernel
theorem dX2_advanceBy_16 : decode cX2_advanceBy 16 = .ok (.ixor, 1) := by decide +kernel
theorem dX2_advanceBy_17 : decode cX2_advanceBy 17 = .ok (.iand, 1) := by decide +kernel
theorem dX2_advanceBy_18 : decode cX2_advanceBy 18 = .ok (.iload_n 3, 1) := by decide +kernel
theorem dX2_advanceBy_19 : decode cX2_advanceBy 19 = .ok (.invokestatic 74, 3) := by decide +kernel
theorem dX2_advanceBy_22 : decode cX2_advanceBy 22 = .ok (.ifCond .eq 21, 3) := by decide +kernel
theorem dX2_advanceBy_25 : decode cX2_advanceBy 25 = .ok (.aload_n 0, 1) := by decide +kernel
theorem dX2_advanceBy_26 : decode cX2_advanceBy 26 = .ok (.iload_n 3, 1) := by decide +kernel
theorem dX2_advanceBy_27 : decode cX2_advanceBy 27 = .ok (.aload_n 0, 1) := by decide +kernel
theorem dX2_advanceBy_28 : decode cX2_advanceBy 28 = .ok (.iload_n 3, 1) := by decide +kernel
theorem dX2_advanceBy_29 : decode cX2_advanceBy 29 = .ok (.aload_n 2, 1) := by decide +kernel
theorem dX2_advanceBy_30 : decode cX2_advanceBy 30 = .ok (.iload_n 1, 1) := by decide +kernel
theorem dX2_advanceBy_31 : decode cX2_advanceBy 31 = .ok (.invokevirtual 78, 3) := by decide +kernel
theorem dX2_advanceBy_34 : decode cX2_advanceBy 34 = .ok (.invokevirtual 82, 3) := by decide +kernel
theorem dX2_advanceBy_37 : decode cX2_advanceBy 37 = .ok (.aload_n 0, 1) := by decide +kernel
theorem dX2_advanceBy_38 : decode cX2_advanceBy 38 = .ok (.iload_n 3, 1) := by decide +kernel
theorem dX2_advanceBy_39 : decode cX2_advanceBy 39 = .ok (.aload_n 2, 1) := by decide +kernel
theorem dX2_advanceBy_40 : decode cX2_advanceBy 40 = .ok (.invokevirtual 86, 3) := by decide +kernel
theorem dX2_advanceBy_43 : decode cX2_advanceBy 43 = .ok (.iinc 3 1, 3) := by decide +kernel
theorem dX2_advanceBy_46 : decode cX2_advanceBy 46 = .ok (.goto (-44), 3) := by decide +kernel
theorem dX2_advanceBy_49 : decode cX2_advanceBy 49 = .ok (.aload_n 0, 1) := by decide +kernel
theorem dX2_advanceBy_50 : decode cX2_advanceBy 50 = .ok (.dup, 1) := by decide +kernel
theorem dX2_advanceBy_51 : decode cX2_advanceBy 51 = .ok (.getfield 61, 3) := by decide +kernel
theorem dX2_advanceBy_54 : decode cX2_advanceBy 54 = .ok (.iconst 1, 1) := by decide +kernel
theorem dX2_advanceBy_55 : decode cX2_advanceBy 55 = .ok (.iadd, 1) := by decide +kernel
theorem dX2_advanceBy_56 : decode cX2_advanceBy 56 = .ok (.putfield 61, 3) := by decide +kernel
theorem dX2_advanceBy_59 : decode cX2_advanceBy 59 = .ok (.return_, 1) := by decide +kernel
set_option maxRecDepth 20000 in
theorem ggX2_nextOf_X6_has : GoodIn wsX2_nextOf wsX6_has := goodIn_r _ [8] (by decide +kernel) (by decide +kernel)
set_option maxRecDepth 20000 in
theorem gX2_nextOf_X6_has_n74 : GoodIn wsX2_nextOf (wsX6_has) := ggX2_nextOf_X6_has
set_option maxRecDepth 20000 in
theorem ggX2_nextOf_X6_cell : GoodIn wsX2_nextOf wsX6_cell := goodIn_r _ [10] (by decide +kernel) (by decide +kernel)
set_option maxRecDepth 20000 in
theorem gX2_nextOf_X6_cell_n29 : GoodIn wsX2_nextOf (wsX6_cell) := ggX2_nextOf_X6_cell
set_option maxRecDepth 20000 in
theorem ggX2_nextOf_X3_beside : GoodIn wsX2_nextOf wsX3_beside := goodIn_r _ [15, 16, 17, 18, 6, 7, 8, 9, 10, 19, 20, 44, 45, 46, 47, 48, 49, 50, 51, 52, 53, 54, 55, 56] (by decide +kernel) (by decide +kernel)
set_option maxRecDepth 20000 in
theorem gX2_nextOf_X3_beside : GoodIn wsX2_nextOf (wsV RX2 89 RX3 yX3_beside wsX3_beside) := goodIn_app (goodIn_of _ (by decide +kernel)) ggX2_nextOf_X3_beside
set_option maxRecDepth 20000 in
theorem ggX2_nextOf_X3_under : GoodIn wsX2_nextOf wsX3_under := goodIn_r _ [24, 25, 26, 9, 7, 10, 19, 20, 44, 45, 46, 47, 48, 49, 50, 51, 52, 53, 54, 55, 56] (by decide +kernel) (by decide +kernel)
set_option maxRecDepth 20000 in
theorem gX2_nextOf_X3_under : GoodIn wsX2_nextOf (wsV RX2 93 RX3 yX3_under wsX3_under) := goodIn_app (goodIn_of _ (by decide +kernel)) ggX2_nextOf_X3_under
set_option maxRecDepth 20000 in
theorem ggX2_nextOf_X6_bit : GoodIn wsX2_nextOf wsX6_bit := goodIn_r _ [20] (by decide +kernel) (by decide +kernel)
set_option maxRecDepth 20000 in
theorem gX2_nextOf_X6_bit_n64 : GoodIn wsX2_nextOf (wsX6_bit) := ggX2_nextOf_X6_bit
set_option maxRecDepth 20000 in
theorem ggX2_nextOf_X3_outermost : GoodIn wsX2_nextOf wsX3_outermost := goodIn_r _ [30, 25, 26, 6, 7, 8, 9, 10, 44, 45, 46, 47, 48, 49, 50, 51, 52, 53, 54, 55, 56] (by decide +kernel) (by decide +kernel)
set_option maxRecDepth 20000 in
theorem gX2_nextOf_X3_outermost : GoodIn wsX2_nextOf (wsV RX2 96 RX3 yX3_outermost wsX3_outermost) := goodIn_app (goodIn_of _ (by decide +kernel)) ggX2_nextOf_X3_outermost
set_option maxRecDepth 20000 in
theorem ggX2_nextOf_X3_firstRound : GoodIn wsX2_nextOf wsX3_firstRound := goodIn_r _ [34, 25, 6, 7, 8, 44, 45, 46, 47, 48, 49, 50, 51, 52, 53, 54, 55, 56] (by decide +kernel) (by decide +kernel)
set_option maxRecDepth 20000 in
theorem gX2_nextOf_X3_firstRound : GoodIn wsX2_nextOf (wsV RX2 99 RX3 yX3_firstRound wsX3_firstRound) := goodIn_app (goodIn_of _ (by decide +kernel)) ggX2_nextOf_X3_firstRound
theorem dX2_nextOf_0 : decode cX2_nextOf 0 = .ok (.aload_n 0, 1) := by decide +kernel
theorem dX2_nextOf_1 : decode cX2_nextOf 1 = .ok (.getfield 49, 3) := by decide +kernel
theorem dX2_nextOf_4 : decode cX2_nextOf 4 = .ok (.iload_n 1, 1) := by decide +kernel
theorem dX2_nextOf_5 : decode cX2_nextOf 5 = .ok (.invokestatic 74, 3) := by decide +kernel
theorem dX2_nextOf_8 : decode cX2_nextOf 8 = .ok (.ifCond .eq 6, 3) := by decide +kernel
theorem dX2_nextOf_11 : decode cX2_nextOf 11 = .ok (.bipush (-9), 2) := by decide +kernel
theorem dX2_nextOf_13 : decode cX2_nextOf 13 = .ok (.ireturn, 1) := by decide +kernel
theorem dX2_nextOf_14 : decode cX2_nextOf 14 = .ok (.aload_n 0, 1) := by decide +kernel
theorem dX2_nextOf_15 : decode cX2_nextOf 15 = .ok (.getfield 9, 3) := by decide +kernel
theorem dX2_nextOf_18 : decode cX2_nextOf 18 = .ok (.iload_n 1, 1) := by decide +kernel
theorem dX2_nextOf_19 : decode cX2_nextOf 19 = .ok (.invokestatic 29, 3) := by decide +kernel
theorem dX2_nextOf_22 : decode cX2_nextOf 22 = .ok (.istore 4, 2) := by decide +kernel
theorem dX2_nextOf_24 : decode cX2_nextOf 24 = .ok (.aload_n 2, 1) := by decide +kernel
theorem dX2_nextOf_25 : decode cX2_nextOf 25 = .ok (.iload 4, 2) := by decide +kernel
theorem dX2_nextOf_27 : decode cX2_nextOf 27 = .ok (.aload_n 0, 1) := by decide +kernel
theorem dX2_nextOf_28 : decode cX2_nextOf 28 = .ok (.getfield 55, 3) := by decide +kernel
theorem dX2_nextOf_31 : decode cX2_nextOf 31 = .ok (.invokevirtual 89, 3) := by decide +kernel
theorem dX2_nextOf_34 : decode cX2_nextOf 34 = .ok (.aload_n 2, 1) := by decide +kernel
theorem dX2_nextOf_35 : decode cX2_nextOf 35 = .ok (.iload_n 3, 1) := by decide +kernel
theorem dX2_nextOf_36 : decode cX2_nextOf 36 = .ok (.invokevirtual 93, 3) := by decide +kernel
theorem dX2_nextOf_39 : decode cX2_nextOf 39 = .ok (.iconst (-1), 1) := by decide +kernel
theorem dX2_nextOf_40 : decode cX2_nextOf 40 = .ok (.ixor, 1) := by decide +kernel
theorem dX2_nextOf_41 : decode cX2_nextOf 41 = .ok (.iand, 1) := by decide +kernel
theorem dX2_nextOf_42 : decode cX2_nextOf 42 = .ok (.istore 5, 2) := by decide +kernel
theorem dX2_nextOf_44 : decode cX2_nextOf 44 = .ok (.iload 5, 2) := by decide +kernel
theorem dX2_nextOf_46 : decode cX2_nextOf 46 = .ok (.aload_n 0, 1) := by decide +kernel
theorem dX2_nextOf_47 : decode cX2_nextOf 47 = .ok (.getfield 15, 3) := by decide +kernel
theorem dX2_nextOf_50 : decode cX2_nextOf 50 = .ok (.iload_n 1, 1) := by decide +kernel
theorem dX2_nextOf_51 : decode cX2_nextOf 51 = .ok (.invokestatic 29, 3) := by decide +kernel
theorem dX2_nextOf_54 : decode cX2_nextOf 54 = .ok (.invokestatic 64, 3) := by decide +kernel
theorem dX2_nextOf_57 : decode cX2_nextOf 57 = .ok (.iconst (-1), 1) := by decide +kernel
theorem dX2_nextOf_58 : decode cX2_nextOf 58 = .ok (.ixor, 1) := by decide +kernel
theorem dX2_nextOf_59 : decode cX2_nextOf 59 = .ok (.iand, 1) := by decide +kernel
theorem dX2_nextOf_60 : decode cX2_nextOf 60 = .ok (.istore 6, 2) := by decide +kernel
theorem dX2_nextOf_62 : decode cX2_nextOf 62 = .ok (.iload 6, 2) := by decide +kernel
theorem dX2_nextOf_64 : decode cX2_nextOf 64 = .ok (.ifCond .eq 8, 3) := by decide +kernel
theorem dX2_nextOf_67 : decode cX2_nextOf 67 = .ok (.iload 6, 2) := by decide +kernel
theorem dX2_nextOf_69 : decode cX2_nextOf 69 = .ok (.goto 5, 3) := by decide +kernel
theorem dX2_nextOf_72 : decode cX2_nextOf 72 = .ok (.iload 5, 2) := by decide +kernel
theorem dX2_nextOf_74 : decode cX2_nextOf 74 = .ok (.istore 7, 2) := by decide +kernel
theorem dX2_nextOf_76 : decode cX2_nextOf 76 = .ok (.aload_n 0, 1) := by decide +kernel
theorem dX2_nextOf_77 : decode cX2_nextOf 77 = .ok (.getfield 21, 3) := by decide +kernel
theorem dX2_nextOf_80 : decode cX2_nextOf 80 = .ok (.iload_n 1, 1) := by decide +kernel
theorem dX2_nextOf_81 : decode cX2_nextOf 81 = .ok (.invokestatic 29, 3) := by decide +kernel
theorem dX2_nextOf_84 : decode cX2_nextOf 84 = .ok (.tableswitch 54 0 2 #[28, 36, 44], 28) := by decide +kernel
theorem dX2_nextOf_112 : decode cX2_nextOf 112 = .ok (.aload_n 2, 1) := by decide +kernel
theorem dX2_nextOf_113 : decode cX2_nextOf 113 = .ok (.iload 7, 2) := by decide +kernel
theorem dX2_nextOf_115 : decode cX2_nextOf 115 = .ok (.iconst 1, 1) := by decide +kernel
theorem dX2_nextOf_116 : decode cX2_nextOf 116 = .ok (.invokevirtual 96, 3) := by decide +kernel
theorem dX2_nextOf_119 : decode cX2_nextOf 119 = .ok (.ireturn, 1) := by decide +kernel
theorem dX2_nextOf_120 : decode cX2_nextOf 120 = .ok (.aload_n 2, 1) := by decide +kernel
theorem dX2_nextOf_121 : decode cX2_nextOf 121 = .ok (.iload 7, 2) := by decide +kernel
theorem dX2_nextOf_123 : decode cX2_nextOf 123 = .ok (.iconst (-1), 1) := by decide +kernel
theorem dX2_nextOf_124 : decode cX2_nextOf 124 = .ok (.invokevirtual 96, 3) := by decide +kernel
theorem dX2_nextOf_127 : decode cX2_nextOf 127 = .ok (.ireturn, 1) := by decide +kernel
theorem dX2_nextOf_128 : decode cX2_nextOf 128 = .ok (.aload_n 2, 1) := by decide +kernel
theorem dX2_nextOf_129 : decode cX2_nextOf 129 = .ok (.iload 7, 2) := by decide +kernel
theorem dX2_nextOf_131 : decode cX2_nextOf 131 = .ok (.iload 4, 2) := by decide +kernel
theorem dX2_nextOf_133 : decode cX2_nextOf 133 = .ok (.iconst 1, 1) := by decide +kernel
theorem dX2_nextOf_134 : decode cX2_nextOf 134 = .ok (.invokevirtual 99, 3) := by decide +kernel
theorem dX2_nextOf_137 : decode cX2_nextOf 137 = .ok (.ireturn, 1) := by decide +kernel
theorem dX2_nextOf_138 : decode cX2_nextOf 138 = .ok (.aload_n 2, 1) := by decide +kernel
theorem dX2_nextOf_139 : decode cX2_nextOf 139 = .ok (.iload 7, 2) := by decide +kernel
theorem dX2_nextOf_141 : decode cX2_nextOf 141 = .ok (.iload 4, 2) := by decide +kernel
theorem dX2_nextOf_143 : decode cX2_nextOf 143 = .ok (.iconst (-1), 1) := by decide +kernel
theorem dX2_nextOf_144 : decode cX2_nextOf 144 = .ok (.invokevirtual 99, 3) := by decide +kernel
theorem dX2_nextOf_147 : decode cX2_nextOf 147 = .ok (.ireturn, 1) := by decide +kernel
set_option maxRecDepth 20000 in
theorem ggX2_walkOn_X6_cell : GoodIn wsX2_walkOn wsX6_cell := goodIn_r _ [10] (by decide +kernel) (by decide +kernel)
set_option maxRecDepth 20000 in
theorem gX2_walkOn_X6_cell_n29 : GoodIn wsX2_walkOn (wsX6_cell) := ggX2_walkOn_X6_cell
set_option maxRecDepth 20000 in
theorem ggX2_walkOn_X6_put : GoodIn wsX2_walkOn wsX6_put := goodIn_r _ [12] (by decide +kernel) (by decide +kernel)
set_option maxRecDepth 20000 in
theorem gX2_walkOn_X6_put_n33 : GoodIn wsX2_walkOn (wsX6_put) := ggX2_walkOn_X6_put
theorem dX2_walkOn_0 : decode cX2_walkOn 0 = .ok (.iload_n 2, 1) := by decide +kernel
theorem dX2_walkOn_1 : decode cX2_walkOn 1 = .ok (.bipush (-9), 2) := by decide +kernel
theorem dX2_walkOn_3 : decode cX2_walkOn 3 = .ok (.if_icmp .ne 4, 3) := by decide +kernel
theorem dX2_walkOn_6 : decode cX2_walkOn 6 = .ok (.return_, 1) := by decide +kernel
theorem dX2_walkOn_7 : decode cX2_walkOn 7 = .ok (.aload_n 0, 1) := by decide +kernel
theorem dX2_walkOn_8 : decode cX2_walkOn 8 = .ok (.getfield 15, 3) := by decide +kernel
theorem dX2_walkOn_11 : decode cX2_walkOn 11 = .ok (.iload_n 1, 1) := by decide +kernel
theorem dX2_walkOn_12 : decode cX2_walkOn 12 = .ok (.aload_n 0, 1) := by decide +kernel
theorem dX2_walkOn_13 : decode cX2_walkOn 13 = .ok (.getfield 9, 3) := by decide +kernel
theorem dX2_walkOn_16 : decode cX2_walkOn 16 = .ok (.iload_n 1, 1) := by decide +kernel
theorem dX2_walkOn_17 : decode cX2_walkOn 17 = .ok (.invokestatic 29, 3) := by decide +kernel
theorem dX2_walkOn_20 : decode cX2_walkOn 20 = .ok (.invokestatic 33, 3) := by decide +kernel
theorem dX2_walkOn_23 : decode cX2_walkOn 23 = .ok (.aload_n 0, 1) := by decide +kernel
theorem dX2_walkOn_24 : decode cX2_walkOn 24 = .ok (.getfield 9, 3) := by decide +kernel
theorem dX2_walkOn_27 : decode cX2_walkOn 27 = .ok (.iload_n 1, 1) := by decide +kernel
theorem dX2_walkOn_28 : decode cX2_walkOn 28 = .ok (.iload_n 2, 1) := by decide +kernel
theorem dX2_walkOn_29 : decode cX2_walkOn 29 = .ok (.invokestatic 33, 3) := by decide +kernel
theorem dX2_walkOn_32 : decode cX2_walkOn 32 = .ok (.aload_n 0, 1) := by decide +kernel
theorem dX2_walkOn_33 : decode cX2_walkOn 33 = .ok (.getfield 18, 3) := by decide +kernel
theorem dX2_walkOn_36 : decode cX2_walkOn 36 = .ok (.iload_n 1, 1) := by decide +kernel
theorem dX2_walkOn_37 : decode cX2_walkOn 37 = .ok (.aload_n 0, 1) := by decide +kernel
theorem dX2_walkOn_38 : decode cX2_walkOn 38 = .ok (.getfield 18, 3) := by decide +kernel
theorem dX2_walkOn_41 : decode cX2_walkOn 41 = .ok (.iload_n 1, 1) := by decide +kernel
theorem dX2_walkOn_42 : decode cX2_walkOn 42 = .ok (.invokestatic 29, 3) := by decide +kernel
theorem dX2_walkOn_45 : decode cX2_walkOn 45 = .ok (.iconst 1, 1) := by decide +kernel
theorem dX2_walkOn_46 : decode cX2_walkOn 46 = .ok (.iadd, 1) := by decide +kernel
theorem dX2_walkOn_47 : decode cX2_walkOn 47 = .ok (.bipush 9, 2) := by decide +kernel
theorem dX2_walkOn_49 : decode cX2_walkOn 49 = .ok (.invokestatic 103, 3) := by decide +kernel
theorem dX2_walkOn_52 : decode cX2_walkOn 52 = .ok (.invokestatic 33, 3) := by decide +kernel
theorem dX2_walkOn_55 : decode cX2_walkOn 55 = .ok (.return_, 1) := by decide +kernel
set_option maxRecDepth 20000 in
theorem ggX2_comeUp_X6_cell : GoodIn wsX2_comeUp wsX6_cell := goodIn_r _ [9] (by decide +kernel) (by decide +kernel)
set_option maxRecDepth 20000 in
theorem gX2_comeUp_X6_cell_n29 : GoodIn wsX2_comeUp (wsX6_cell) := ggX2_comeUp_X6_cell
set_option maxRecDepth 20000 in
theorem ggX2_comeUp_X6_has : GoodIn wsX2_comeUp wsX6_has := goodIn_r _ [11] (by decide +kernel) (by decide +kernel)
set_option maxRecDepth 20000 in
theorem gX2_comeUp_X6_has_n74 : GoodIn wsX2_comeUp (wsX6_has) := ggX2_comeUp_X6_has
set_option maxRecDepth 20000 in
theorem ggX2_comeUp_X6_bit : GoodIn wsX2_comeUp wsX6_bit := goodIn_r _ [13] (by decide +kernel) (by decide +kernel)
set_option maxRecDepth 20000 in
theorem gX2_comeUp_X6_bit_n64 : GoodIn wsX2_comeUp (wsX6_bit) := ggX2_comeUp_X6_bit
theorem dX2_comeUp_0 : decode cX2_comeUp 0 = .ok (.aload_n 0, 1) := by decide +kernel
theorem dX2_comeUp_1 : decode cX2_comeUp 1 = .ok (.getfield 9, 3) := by decide +kernel
theorem dX2_comeUp_4 : decode cX2_comeUp 4 = .ok (.iload_n 1, 1) := by decide +kernel
theorem dX2_comeUp_5 : decode cX2_comeUp 5 = .ok (.invokestatic 29, 3) := by decide +kernel
theorem dX2_comeUp_8 : decode cX2_comeUp 8 = .ok (.istore_n 3, 1) := by decide +kernel
theorem dX2_comeUp_9 : decode cX2_comeUp 9 = .ok (.aload_n 0, 1) := by decide +kernel
theorem dX2_comeUp_10 : decode cX2_comeUp 10 = .ok (.getfield 18, 3) := by decide +kernel
theorem dX2_comeUp_13 : decode cX2_comeUp 13 = .ok (.iload_n 1, 1) := by decide +kernel
theorem dX2_comeUp_14 : decode cX2_comeUp 14 = .ok (.invokestatic 29, 3) := by decide +kernel
theorem dX2_comeUp_17 : decode cX2_comeUp 17 = .ok (.aload_n 2, 1) := by decide +kernel
theorem dX2_comeUp_18 : decode cX2_comeUp 18 = .ok (.getfield 108, 3) := by decide +kernel
theorem dX2_comeUp_21 : decode cX2_comeUp 21 = .ok (.iload_n 1, 1) := by decide +kernel
theorem dX2_comeUp_22 : decode cX2_comeUp 22 = .ok (.invokestatic 29, 3) := by decide +kernel
theorem dX2_comeUp_25 : decode cX2_comeUp 25 = .ok (.if_icmp .lt 21, 3) := by decide +kernel
theorem dX2_comeUp_28 : decode cX2_comeUp 28 = .ok (.aload_n 2, 1) := by decide +kernel
theorem dX2_comeUp_29 : decode cX2_comeUp 29 = .ok (.getfield 111, 3) := by decide +kernel
theorem dX2_comeUp_32 : decode cX2_comeUp 32 = .ok (.aload_n 0, 1) := by decide +kernel
theorem dX2_comeUp_33 : decode cX2_comeUp 33 = .ok (.getfield 58, 3) := by decide +kernel
theorem dX2_comeUp_36 : decode cX2_comeUp 36 = .ok (.iconst (-1), 1) := by decide +kernel
theorem dX2_comeUp_37 : decode cX2_comeUp 37 = .ok (.ixor, 1) := by decide +kernel
theorem dX2_comeUp_38 : decode cX2_comeUp 38 = .ok (.iand, 1) := by decide +kernel
theorem dX2_comeUp_39 : decode cX2_comeUp 39 = .ok (.iload_n 3, 1) := by decide +kernel
theorem dX2_comeUp_40 : decode cX2_comeUp 40 = .ok (.invokestatic 74, 3) := by decide +kernel
theorem dX2_comeUp_43 : decode cX2_comeUp 43 = .ok (.ifCond .ne 4, 3) := by decide +kernel
theorem dX2_comeUp_46 : decode cX2_comeUp 46 = .ok (.return_, 1) := by decide +kernel
theorem dX2_comeUp_47 : decode cX2_comeUp 47 = .ok (.aload_n 0, 1) := by decide +kernel
theorem dX2_comeUp_48 : decode cX2_comeUp 48 = .ok (.dup, 1) := by decide +kernel
theorem dX2_comeUp_49 : decode cX2_comeUp 49 = .ok (.getfield 49, 3) := by decide +kernel
theorem dX2_comeUp_52 : decode cX2_comeUp 52 = .ok (.iload_n 1, 1) := by decide +kernel
theorem dX2_comeUp_53 : decode cX2_comeUp 53 = .ok (.invokestatic 64, 3) := by decide +kernel
theorem dX2_comeUp_56 : decode cX2_comeUp 56 = .ok (.ior, 1) := by decide +kernel
theorem dX2_comeUp_57 : decode cX2_comeUp 57 = .ok (.putfield 49, 3) := by decide +kernel
theorem dX2_comeUp_60 : decode cX2_comeUp 60 = .ok (.aload_n 0, 1) := by decide +kernel
theorem dX2_comeUp_61 : decode cX2_comeUp 61 = .ok (.dup, 1) := by decide +kernel
theorem dX2_comeUp_62 : decode cX2_comeUp 62 = .ok (.getfield 58, 3) := by decide +kernel
theorem dX2_comeUp_65 : decode cX2_comeUp 65 = .ok (.iload_n 3, 1) := by decide +kernel
theorem dX2_comeUp_66 : decode cX2_comeUp 66 = .ok (.invokestatic 64, 3) := by decide +kernel
theorem dX2_comeUp_69 : decode cX2_comeUp 69 = .ok (.ior, 1) := by decide +kernel
theorem dX2_comeUp_70 : decode cX2_comeUp 70 = .ok (.putfield 58, 3) := by decide +kernel
theorem dX2_comeUp_73 : decode cX2_comeUp 73 = .ok (.return_, 1) := by decide +kernel
set_option maxRecDepth 20000 in
theorem ggX2_outAt_X6_has : GoodIn wsX2_outAt wsX6_has := goodIn_r _ [5] (by decide +kernel) (by decide +kernel)
set_option maxRecDepth 20000 in
theorem gX2_outAt_X6_has_n74 : GoodIn wsX2_outAt (wsX6_has) := ggX2_outAt_X6_has
set_option maxRecDepth 20000 in
theorem ggX2_outAt_X6_cell : GoodIn wsX2_outAt wsX6_cell := goodIn_r _ [7] (by decide +kernel) (by decide +kernel)
set_option maxRecDepth 20000 in
theorem gX2_outAt_X6_cell_n29 : GoodIn wsX2_outAt (wsX6_cell) := ggX2_outAt_X6_cell
theorem dX2_outAt_0 : decode cX2_outAt 0 = .ok (.aload_n 0, 1) := by decide +kernel
theorem dX2_outAt_1 : decode cX2_outAt 1 = .ok (.getfield 49, 3) := by decide +kernel
theorem dX2_outAt_4 : decode cX2_outAt 4 = .ok (.iload_n 1, 1) := by decide +kernel
theorem dX2_outAt_5 : decode cX2_outAt 5 = .ok (.invokestatic 74, 3) := by decide +kernel
theorem dX2_outAt_8 : decode cX2_outAt 8 = .ok (.ifCond .eq 14, 3) := by decide +kernel
theorem dX2_outAt_11 : decode cX2_outAt 11 = .ok (.aload_n 0, 1) := by decide +kernel
theorem dX2_outAt_12 : decode cX2_outAt 12 = .ok (.getfield 9, 3) := by decide +kernel
theorem dX2_outAt_15 : decode cX2_outAt 15 = .ok (.iload_n 1, 1) := by decide +kernel
theorem dX2_outAt_16 : decode cX2_outAt 16 = .ok (.invokestatic 29, 3) := by decide +kernel
theorem dX2_outAt_19 : decode cX2_outAt 19 = .ok (.goto 5, 3) := by decide +kernel
theorem dX2_outAt_22 : decode cX2_outAt 22 = .ok (.bipush (-9), 2) := by decide +kernel
theorem dX2_outAt_24 : decode cX2_outAt 24 = .ok (.ireturn, 1) := by decide +kernel
set_option maxRecDepth 20000 in
theorem ggX2_isRight_X6_has : GoodIn wsX2_isRight wsX6_has := goodIn_r _ [7] (by decide +kernel) (by decide +kernel)
set_option maxRecDepth 20000 in
theorem gX2_isRight_X6_has_n74 : GoodIn wsX2_isRight (wsX6_has) := ggX2_isRight_X6_has
set_option maxRecDepth 20000 in
theorem ggX2_isRight_X6_cell : GoodIn wsX2_isRight wsX6_cell := goodIn_r _ [9] (by decide +kernel) (by decide +kernel)
set_option maxRecDepth 20000 in
theorem gX2_isRight_X6_cell_n29 : GoodIn wsX2_isRight (wsX6_cell) := ggX2_isRight_X6_cell
theorem dX2_isRight_0 : decode cX2_isRight 0 = .ok (.aload_n 0, 1) := by decide +kernel
theorem dX2_isRight_1 : decode cX2_isRight 1 = .ok (.getfield 49, 3) := by decide +kernel
theorem dX2_isRight_4 : decode cX2_isRight 4 = .ok (.aload_n 0, 1) := by decide +kernel
theorem dX2_isRight_5 : decode cX2_isRight 5 = .ok (.getfield 46, 3) := by decide +kernel
theorem dX2_isRight_8 : decode cX2_isRight 8 = .ok (.iand, 1) := by decide +kernel
theorem dX2_isRight_9 : decode cX2_isRight 9 = .ok (.iload_n 1, 1) := by decide +kernel
theorem dX2_isRight_10 : decode cX2_isRight 10 = .ok (.invokestatic 74, 3) := by decide +kernel
theorem dX2_isRight_13 : decode cX2_isRight 13 = .ok (.ifCond .eq 26, 3) := by decide +kernel
theorem dX2_isRight_16 : decode cX2_isRight 16 = .ok (.aload_n 0, 1) := by decide +kernel
theorem dX2_isRight_17 : decode cX2_isRight 17 = .ok (.getfield 9, 3) := by decide +kernel
theorem dX2_isRight_20 : decode cX2_isRight 20 = .ok (.iload_n 1, 1) := by decide +kernel
theorem dX2_isRight_21 : decode cX2_isRight 21 = .ok (.invokestatic 29, 3) := by decide +kernel
theorem dX2_isRight_24 : decode cX2_isRight 24 = .ok (.aload_n 2, 1) := by decide +kernel
theorem dX2_isRight_25 : decode cX2_isRight 25 = .ok (.getfield 114, 3) := by decide +kernel
theorem dX2_isRight_28 : decode cX2_isRight 28 = .ok (.iload_n 1, 1) := by decide +kernel
theorem dX2_isRight_29 : decode cX2_isRight 29 = .ok (.invokestatic 29, 3) := by decide +kernel
theorem dX2_isRight_32 : decode cX2_isRight 32 = .ok (.if_icmp .ne 7, 3) := by decide +kernel
theorem dX2_isRight_35 : decode cX2_isRight 35 = .ok (.iconst 1, 1) := by decide +kernel
theorem dX2_isRight_36 : decode cX2_isRight 36 = .ok (.goto 4, 3) := by decide +kernel
theorem dX2_isRight_39 : decode cX2_isRight 39 = .ok (.iconst 0, 1) := by decide +kernel
theorem dX2_isRight_40 : decode cX2_isRight 40 = .ok (.ireturn, 1) := by decide +kernel
set_option maxRecDepth 20000 in
theorem ggX2_right_X2_isRight : GoodIn wsX2_right wsX2_isRight := goodIn_r _ [5, 6, 7, 8, 9, 10, 11, 12, 13, 14, 17, 18, 19, 20, 21, 22, 23, 24, 25, 26, 27, 28, 29, 30, 31, 32, 33, 34, 35, 36, 37, 38] (by decide +kernel) (by decide +kernel)
set_option maxRecDepth 20000 in
theorem gX2_right_X2_isRight : GoodIn wsX2_right (wsV RX2 117 RX2 yX2_isRight wsX2_isRight) := goodIn_app (goodIn_of _ (by decide +kernel)) ggX2_right_X2_isRight
set_option maxRecDepth 20000 in
theorem ggX2_right_X6_bit : GoodIn wsX2_right wsX6_bit := goodIn_r _ [16] (by decide +kernel) (by decide +kernel)
set_option maxRecDepth 20000 in
theorem gX2_right_X6_bit_n64 : GoodIn wsX2_right (wsX6_bit) := ggX2_right_X6_bit
theorem dX2_right_0 : decode cX2_right 0 = .ok (.iconst 0, 1) := by decide +kernel
theorem dX2_right_1 : decode cX2_right 1 = .ok (.istore_n 2, 1) := by decide +kernel
theorem dX2_right_2 : decode cX2_right 2 = .ok (.iconst 0, 1) := by decide +kernel
theorem dX2_right_3 : decode cX2_right 3 = .ok (.istore_n 3, 1) := by decide +kernel
theorem dX2_right_4 : decode cX2_right 4 = .ok (.iload_n 3, 1) := by decide +kernel
theorem dX2_right_5 : decode cX2_right 5 = .ok (.iconst 4, 1) := by decide +kernel
theorem dX2_right_6 : decode cX2_right 6 = .ok (.if_icmp .ge 25, 3) := by decide +kernel
theorem dX2_right_9 : decode cX2_right 9 = .ok (.aload_n 0, 1) := by decide +kernel
theorem dX2_right_10 : decode cX2_right 10 = .ok (.iload_n 3, 1) := by decide +kernel
theorem dX2_right_11 : decode cX2_right 11 = .ok (.aload_n 1, 1) := by decide +kernel
theorem dX2_right_12 : decode cX2_right 12 = .ok (.invokevirtual 117, 3) := by decide +kernel
theorem dX2_right_15 : decode cX2_right 15 = .ok (.ifCond .eq 10, 3) := by decide +kernel
theorem dX2_right_18 : decode cX2_right 18 = .ok (.iload_n 2, 1) := by decide +kernel
theorem dX2_right_19 : decode cX2_right 19 = .ok (.iload_n 3, 1) := by decide +kernel
theorem dX2_right_20 : decode cX2_right 20 = .ok (.invokestatic 64, 3) := by decide +kernel
theorem dX2_right_23 : decode cX2_right 23 = .ok (.ior, 1) := by decide +kernel
theorem dX2_right_24 : decode cX2_right 24 = .ok (.istore_n 2, 1) := by decide +kernel
theorem dX2_right_25 : decode cX2_right 25 = .ok (.iinc 3 1, 3) := by decide +kernel
theorem dX2_right_28 : decode cX2_right 28 = .ok (.goto (-24), 3) := by decide +kernel
theorem dX2_right_31 : decode cX2_right 31 = .ok (.iload_n 2, 1) := by decide +kernel
theorem dX2_right_32 : decode cX2_right 32 = .ok (.ireturn, 1) := by decide +kernel
theorem dX3_init_0 : decode cX3_init 0 = .ok (.aload_n 0, 1) := by decide +kernel
theorem dX3_init_1 : decode cX3_init 1 = .ok (.invokespecial 3, 3) := by decide +kernel
theorem dX3_init_4 : decode cX3_init 4 = .ok (.aload_n 0, 1) := by decide +kernel
theorem dX3_init_5 : decode cX3_init 5 = .ok (.bipush 6, 2) := by decide +kernel
theorem dX3_init_7 : decode cX3_init 7 = .ok (.newarray .int, 2) := by decide +kernel
theorem dX3_init_9 : decode cX3_init 9 = .ok (.putfield 9, 3) := by decide +kernel
theorem dX3_init_12 : decode cX3_init 12 = .ok (.aload_n 0, 1) := by decide +kernel
theorem dX3_init_13 : decode cX3_init 13 = .ok (.bipush 8, 2) := by decide +kernel
theorem dX3_init_15 : decode cX3_init 15 = .ok (.newarray .int, 2) := by decide +kernel
theorem dX3_init_17 : decode cX3_init 17 = .ok (.putfield 15, 3) := by decide +kernel
theorem dX3_init_20 : decode cX3_init 20 = .ok (.aload_n 0, 1) := by decide +kernel
theorem dX3_init_21 : decode cX3_init 21 = .ok (.bipush 8, 2) := by decide +kernel
theorem dX3_init_23 : decode cX3_init 23 = .ok (.newarray .int, 2) := by decide +kernel
theorem dX3_init_25 : decode cX3_init 25 = .ok (.putfield 18, 3) := by decide +kernel
theorem dX3_init_28 : decode cX3_init 28 = .ok (.aload_n 0, 1) := by decide +kernel
theorem dX3_init_29 : decode cX3_init 29 = .ok (.iconst 4, 1) := by decide +kernel
theorem dX3_init_30 : decode cX3_init 30 = .ok (.newarray .int, 2) := by decide +kernel
theorem dX3_init_32 : decode cX3_init 32 = .ok (.putfield 21, 3) := by decide +kernel
theorem dX3_init_35 : decode cX3_init 35 = .ok (.aload_n 0, 1) := by decide +kernel
theorem dX3_init_36 : decode cX3_init 36 = .ok (.iconst 4, 1) := by decide +kernel
theorem dX3_init_37 : decode cX3_init 37 = .ok (.newarray .int, 2) := by decide +kernel
theorem dX3_init_39 : decode cX3_init 39 = .ok (.putfield 24, 3) := by decide +kernel
theorem dX3_init_42 : decode cX3_init 42 = .ok (.aload_n 0, 1) := by decide +kernel
theorem dX3_init_43 : decode cX3_init 43 = .ok (.iconst 4, 1) := by decide +kernel
theorem dX3_init_44 : decode cX3_init 44 = .ok (.newarray .int, 2) := by decide +kernel
theorem dX3_init_46 : decode cX3_init 46 = .ok (.putfield 27, 3) := by decide +kernel
theorem dX3_init_49 : decode cX3_init 49 = .ok (.aload_n 0, 1) := by decide +kernel
theorem dX3_init_50 : decode cX3_init 50 = .ok (.iconst 4, 1) := by decide +kernel
theorem dX3_init_51 : decode cX3_init 51 = .ok (.newarray .int, 2) := by decide +kernel
theorem dX3_init_53 : decode cX3_init 53 = .ok (.putfield 30, 3) := by decide +kernel
theorem dX3_init_56 : decode cX3_init 56 = .ok (.return_, 1) := by decide +kernel
set_option maxRecDepth 20000 in
theorem ggX3_clear_X3_setTides : GoodIn wsX3_clear wsX3_setTides := goodIn_r _ [9, 10, 11, 12, 13, 14, 15, 16, 17, 18, 19, 20, 21, 22, 23, 24] (by decide +kernel) (by decide +kernel)
set_option maxRecDepth 20000 in
theorem gX3_clear_X3_setTides : GoodIn wsX3_clear (wsV RX3 33 RX3 yX3_setTides wsX3_setTides) := goodIn_app (goodIn_of _ (by decide +kernel)) ggX3_clear_X3_setTides
theorem dX3_clear_0 : decode cX3_clear 0 = .ok (.aload_n 0, 1) := by decide +kernel
theorem dX3_clear_1 : decode cX3_clear 1 = .ok (.iconst 0, 1) := by decide +kernel
theorem dX3_clear_2 : decode cX3_clear 2 = .ok (.iconst 0, 1) := by decide +kernel
theorem dX3_clear_3 : decode cX3_clear 3 = .ok (.invokevirtual 33, 3) := by decide +kernel
theorem dX3_clear_6 : decode cX3_clear 6 = .ok (.aload_n 0, 1) := by decide +kernel
theorem dX3_clear_7 : decode cX3_clear 7 = .ok (.iconst 0, 1) := by decide +kernel
theorem dX3_clear_8 : decode cX3_clear 8 = .ok (.putfield 37, 3) := by decide +kernel
theorem dX3_clear_11 : decode cX3_clear 11 = .ok (.aload_n 0, 1) := by decide +kernel
theorem dX3_clear_12 : decode cX3_clear 12 = .ok (.iconst 0, 1) := by decide +kernel
theorem dX3_clear_13 : decode cX3_clear 13 = .ok (.putfield 41, 3) := by decide +kernel
theorem dX3_clear_16 : decode cX3_clear 16 = .ok (.aload_n 0, 1) := by decide +kernel
theorem dX3_clear_17 : decode cX3_clear 17 = .ok (.iconst 0, 1) := by decide +kernel
theorem dX3_clear_18 : decode cX3_clear 18 = .ok (.putfield 44, 3) := by decide +kernel
theorem dX3_clear_21 : decode cX3_clear 21 = .ok (.aload_n 0, 1) := by decide +kernel
theorem dX3_clear_22 : decode cX3_clear 22 = .ok (.iconst 0, 1) := by decide +kernel
theorem dX3_clear_23 : decode cX3_clear 23 = .ok (.putfield 47, 3) := by decide +kernel
theorem dX3_clear_26 : decode cX3_clear 26 = .ok (.return_, 1) := by decide +kernel
theorem dX3_setTides_0 : decode cX3_setTides 0 = .ok (.aload_n 0, 1) := by decide +kernel
theorem dX3_setTides_1 : decode cX3_setTides 1 = .ok (.iload_n 1, 1) := by decide +kernel
theorem dX3_setTides_2 : decode cX3_setTides 2 = .ok (.putfield 50, 3) := by decide +kernel
theorem dX3_setTides_5 : decode cX3_setTides 5 = .ok (.aload_n 0, 1) := by decide +kernel
theorem dX3_setTides_6 : decode cX3_setTides 6 = .ok (.iload_n 2, 1) := by decide +kernel
theorem dX3_setTides_7 : decode cX3_setTides 7 = .ok (.putfield 53, 3) := by decide +kernel
theorem dX3_setTides_10 : decode cX3_setTides 10 = .ok (.return_, 1) := by decide +kernel
set_option maxRecDepth 20000 in
theorem ggX3_addJoint_X6_put : GoodIn wsX3_addJoint wsX6_put := goodIn_r _ [6] (by decide +kernel) (by decide +kernel)
set_option maxRecDepth 20000 in
theorem gX3_addJoint_X6_put_n56 : GoodIn wsX3_addJoint (wsX6_put) := ggX3_addJoint_X6_put
set_option maxRecDepth 20000 in
theorem ggX3_addJoint_X6_bit : GoodIn wsX3_addJoint wsX6_bit := goodIn_r _ [8] (by decide +kernel) (by decide +kernel)
set_option maxRecDepth 20000 in
theorem gX3_addJoint_X6_bit_n60 : GoodIn wsX3_addJoint (wsX6_bit) := ggX3_addJoint_X6_bit
theorem dX3_addJoint_0 : decode cX3_addJoint 0 = .ok (.aload_n 0, 1) := by decide +kernel
theorem dX3_addJoint_1 : decode cX3_addJoint 1 = .ok (.getfield 9, 3) := by decide +kernel
theorem dX3_addJoint_4 : decode cX3_addJoint 4 = .ok (.aload_n 0, 1) := by decide +kernel
theorem dX3_addJoint_5 : decode cX3_addJoint 5 = .ok (.getfield 37, 3) := by decide +kernel
theorem dX3_addJoint_8 : decode cX3_addJoint 8 = .ok (.iload_n 1, 1) := by decide +kernel
theorem dX3_addJoint_9 : decode cX3_addJoint 9 = .ok (.invokestatic 56, 3) := by decide +kernel
theorem dX3_addJoint_12 : decode cX3_addJoint 12 = .ok (.iload_n 2, 1) := by decide +kernel
theorem dX3_addJoint_13 : decode cX3_addJoint 13 = .ok (.iconst 1, 1) := by decide +kernel
theorem dX3_addJoint_14 : decode cX3_addJoint 14 = .ok (.if_icmp .ne 19, 3) := by decide +kernel
theorem dX3_addJoint_17 : decode cX3_addJoint 17 = .ok (.aload_n 0, 1) := by decide +kernel
theorem dX3_addJoint_18 : decode cX3_addJoint 18 = .ok (.dup, 1) := by decide +kernel
theorem dX3_addJoint_19 : decode cX3_addJoint 19 = .ok (.getfield 47, 3) := by decide +kernel
theorem dX3_addJoint_22 : decode cX3_addJoint 22 = .ok (.aload_n 0, 1) := by decide +kernel
theorem dX3_addJoint_23 : decode cX3_addJoint 23 = .ok (.getfield 37, 3) := by decide +kernel
theorem dX3_addJoint_26 : decode cX3_addJoint 26 = .ok (.invokestatic 60, 3) := by decide +kernel
theorem dX3_addJoint_29 : decode cX3_addJoint 29 = .ok (.ior, 1) := by decide +kernel
theorem dX3_addJoint_30 : decode cX3_addJoint 30 = .ok (.putfield 47, 3) := by decide +kernel
theorem dX3_addJoint_33 : decode cX3_addJoint 33 = .ok (.aload_n 0, 1) := by decide +kernel
theorem dX3_addJoint_34 : decode cX3_addJoint 34 = .ok (.dup, 1) := by decide +kernel
theorem dX3_addJoint_35 : decode cX3_addJoint 35 = .ok (.getfield 37, 3) := by decide +kernel
theorem dX3_addJoint_38 : decode cX3_addJoint 38 = .ok (.iconst 1, 1) := by decide +kernel
theorem dX3_addJoint_39 : decode cX3_addJoint 39 = .ok (.iadd, 1) := by decide +kernel
theorem dX3_addJoint_40 : decode cX3_addJoint 40 = .ok (.putfield 37, 3) := by decide +kernel
theorem dX3_addJoint_43 : decode cX3_addJoint 43 = .ok (.return_, 1) := by decide +kernel
set_option maxRecDepth 20000 in
theorem ggX3_addPipe_X6_put : GoodIn wsX3_addPipe wsX6_put := goodIn_r _ [6] (by decide +kernel) (by decide +kernel)
set_option maxRecDepth 20000 in
theorem gX3_addPipe_X6_put_n56 : GoodIn wsX3_addPipe (wsX6_put) := ggX3_addPipe_X6_put
theorem dX3_addPipe_0 : decode cX3_addPipe 0 = .ok (.aload_n 0, 1) := by decide +kernel
theorem dX3_addPipe_1 : decode cX3_addPipe 1 = .ok (.getfield 15, 3) := by decide +kernel
theorem dX3_addPipe_4 : decode cX3_addPipe 4 = .ok (.aload_n 0, 1) := by decide +kernel
theorem dX3_addPipe_5 : decode cX3_addPipe 5 = .ok (.getfield 41, 3) := by decide +kernel
theorem dX3_addPipe_8 : decode cX3_addPipe 8 = .ok (.iload_n 1, 1) := by decide +kernel
theorem dX3_addPipe_9 : decode cX3_addPipe 9 = .ok (.invokestatic 56, 3) := by decide +kernel
theorem dX3_addPipe_12 : decode cX3_addPipe 12 = .ok (.aload_n 0, 1) := by decide +kernel
theorem dX3_addPipe_13 : decode cX3_addPipe 13 = .ok (.getfield 18, 3) := by decide +kernel
theorem dX3_addPipe_16 : decode cX3_addPipe 16 = .ok (.aload_n 0, 1) := by decide +kernel
theorem dX3_addPipe_17 : decode cX3_addPipe 17 = .ok (.getfield 41, 3) := by decide +kernel
theorem dX3_addPipe_20 : decode cX3_addPipe 20 = .ok (.iload_n 2, 1) := by decide +kernel
theorem dX3_addPipe_21 : decode cX3_addPipe 21 = .ok (.invokestatic 56, 3) := by decide +kernel
theorem dX3_addPipe_24 : decode cX3_addPipe 24 = .ok (.aload_n 0, 1) := by decide +kernel
theorem dX3_addPipe_25 : decode cX3_addPipe 25 = .ok (.dup, 1) := by decide +kernel
theorem dX3_addPipe_26 : decode cX3_addPipe 26 = .ok (.getfield 41, 3) := by decide +kernel
theorem dX3_addPipe_29 : decode cX3_addPipe 29 = .ok (.iconst 1, 1) := by decide +kernel
theorem dX3_addPipe_30 : decode cX3_addPipe 30 = .ok (.iadd, 1) := by decide +kernel
theorem dX3_addPipe_31 : decode cX3_addPipe 31 = .ok (.putfield 41, 3) := by decide +kernel
theorem dX3_addPipe_34 : decode cX3_addPipe 34 = .ok (.return_, 1) := by decide +kernel
set_option maxRecDepth 20000 in
theorem ggX3_addWalker_X6_cell : GoodIn wsX3_addWalker wsX6_cell := goodIn_r _ [8] (by decide +kernel) (by decide +kernel)
set_option maxRecDepth 20000 in
theorem gX3_addWalker_X6_cell_n64 : GoodIn wsX3_addWalker (wsX6_cell) := ggX3_addWalker_X6_cell
set_option maxRecDepth 20000 in
theorem ggX3_addWalker_X6_put : GoodIn wsX3_addWalker wsX6_put := goodIn_r _ [10] (by decide +kernel) (by decide +kernel)
set_option maxRecDepth 20000 in
theorem gX3_addWalker_X6_put_n56 : GoodIn wsX3_addWalker (wsX6_put) := ggX3_addWalker_X6_put
theorem dX3_addWalker_0 : decode cX3_addWalker 0 = .ok (.aload_n 0, 1) := by decide +kernel
theorem dX3_addWalker_1 : decode cX3_addWalker 1 = .ok (.getfield 21, 3) := by decide +kernel
theorem dX3_addWalker_4 : decode cX3_addWalker 4 = .ok (.aload_n 0, 1) := by decide +kernel
theorem dX3_addWalker_5 : decode cX3_addWalker 5 = .ok (.getfield 44, 3) := by decide +kernel
theorem dX3_addWalker_8 : decode cX3_addWalker 8 = .ok (.aload_n 1, 1) := by decide +kernel
theorem dX3_addWalker_9 : decode cX3_addWalker 9 = .ok (.iconst 0, 1) := by decide +kernel
theorem dX3_addWalker_10 : decode cX3_addWalker 10 = .ok (.invokestatic 64, 3) := by decide +kernel
theorem dX3_addWalker_13 : decode cX3_addWalker 13 = .ok (.invokestatic 56, 3) := by decide +kernel
theorem dX3_addWalker_16 : decode cX3_addWalker 16 = .ok (.aload_n 0, 1) := by decide +kernel
theorem dX3_addWalker_17 : decode cX3_addWalker 17 = .ok (.getfield 24, 3) := by decide +kernel
theorem dX3_addWalker_20 : decode cX3_addWalker 20 = .ok (.aload_n 0, 1) := by decide +kernel
theorem dX3_addWalker_21 : decode cX3_addWalker 21 = .ok (.getfield 44, 3) := by decide +kernel
theorem dX3_addWalker_24 : decode cX3_addWalker 24 = .ok (.aload_n 1, 1) := by decide +kernel
theorem dX3_addWalker_25 : decode cX3_addWalker 25 = .ok (.iconst 1, 1) := by decide +kernel
theorem dX3_addWalker_26 : decode cX3_addWalker 26 = .ok (.invokestatic 64, 3) := by decide +kernel
theorem dX3_addWalker_29 : decode cX3_addWalker 29 = .ok (.invokestatic 56, 3) := by decide +kernel
theorem dX3_addWalker_32 : decode cX3_addWalker 32 = .ok (.aload_n 0, 1) := by decide +kernel
theorem dX3_addWalker_33 : decode cX3_addWalker 33 = .ok (.getfield 27, 3) := by decide +kernel
theorem dX3_addWalker_36 : decode cX3_addWalker 36 = .ok (.aload_n 0, 1) := by decide +kernel
theorem dX3_addWalker_37 : decode cX3_addWalker 37 = .ok (.getfield 44, 3) := by decide +kernel
theorem dX3_addWalker_40 : decode cX3_addWalker 40 = .ok (.aload_n 1, 1) := by decide +kernel
theorem dX3_addWalker_41 : decode cX3_addWalker 41 = .ok (.iconst 2, 1) := by decide +kernel
theorem dX3_addWalker_42 : decode cX3_addWalker 42 = .ok (.invokestatic 64, 3) := by decide +kernel
theorem dX3_addWalker_45 : decode cX3_addWalker 45 = .ok (.invokestatic 56, 3) := by decide +kernel
theorem dX3_addWalker_48 : decode cX3_addWalker 48 = .ok (.aload_n 0, 1) := by decide +kernel
theorem dX3_addWalker_49 : decode cX3_addWalker 49 = .ok (.getfield 30, 3) := by decide +kernel
theorem dX3_addWalker_52 : decode cX3_addWalker 52 = .ok (.aload_n 0, 1) := by decide +kernel
theorem dX3_addWalker_53 : decode cX3_addWalker 53 = .ok (.getfield 44, 3) := by decide +kernel
theorem dX3_addWalker_56 : decode cX3_addWalker 56 = .ok (.aload_n 1, 1) := by decide +kernel
theorem dX3_addWalker_57 : decode cX3_addWalker 57 = .ok (.iconst 3, 1) := by decide +kernel
theorem dX3_addWalker_58 : decode cX3_addWalker 58 = .ok (.invokestatic 64, 3) := by decide +kernel
theorem dX3_addWalker_61 : decode cX3_addWalker 61 = .ok (.invokestatic 56, 3) := by decide +kernel
theorem dX3_addWalker_64 : decode cX3_addWalker 64 = .ok (.aload_n 0, 1) := by decide +kernel
theorem dX3_addWalker_65 : decode cX3_addWalker 65 = .ok (.dup, 1) := by decide +kernel
theorem dX3_addWalker_66 : decode cX3_addWalker 66 = .ok (.getfield 44, 3) := by decide +kernel
theorem dX3_addWalker_69 : decode cX3_addWalker 69 = .ok (.iconst 1, 1) := by decide +kernel
theorem dX3_addWalker_70 : decode cX3_addWalker 70 = .ok (.iadd, 1) := by decide +kernel
theorem dX3_addWalker_71 : decode cX3_addWalker 71 = .ok (.putfield 44, 3) := by decide +kernel
theorem dX3_addWalker_74 : decode cX3_addWalker 74 = .ok (.return_, 1) := by decide +kernel
theorem dX3_hasRoomForPipe_0 : decode cX3_hasRoomForPipe 0 = .ok (.aload_n 0, 1) := by decide +kernel
theorem dX3_hasRoomForPipe_1 : decode cX3_hasRoomForPipe 1 = .ok (.getfield 41, 3) := by decide +kernel
theorem dX3_hasRoomForPipe_4 : decode cX3_hasRoomForPipe 4 = .ok (.bipush 8, 2) := by decide +kernel
theorem dX3_hasRoomForPipe_6 : decode cX3_hasRoomForPipe 6 = .ok (.if_icmp .ge 27, 3) := by decide +kernel
theorem dX3_hasRoomForPipe_9 : decode cX3_hasRoomForPipe 9 = .ok (.iconst 2, 1) := by decide +kernel
theorem dX3_hasRoomForPipe_10 : decode cX3_hasRoomForPipe 10 = .ok (.aload_n 0, 1) := by decide +kernel
theorem dX3_hasRoomForPipe_11 : decode cX3_hasRoomForPipe 11 = .ok (.getfield 41, 3) := by decide +kernel
theorem dX3_hasRoomForPipe_14 : decode cX3_hasRoomForPipe 14 = .ok (.imul, 1) := by decide +kernel
theorem dX3_hasRoomForPipe_15 : decode cX3_hasRoomForPipe 15 = .ok (.aload_n 0, 1) := by decide +kernel
theorem dX3_hasRoomForPipe_16 : decode cX3_hasRoomForPipe 16 = .ok (.getfield 37, 3) := by decide +kernel
theorem dX3_hasRoomForPipe_19 : decode cX3_hasRoomForPipe 19 = .ok (.aload_n 0, 1) := by decide +kernel
theorem dX3_hasRoomForPipe_20 : decode cX3_hasRoomForPipe 20 = .ok (.getfield 37, 3) := by decide +kernel
theorem dX3_hasRoomForPipe_23 : decode cX3_hasRoomForPipe 23 = .ok (.iconst 1, 1) := by decide +kernel
theorem dX3_hasRoomForPipe_24 : decode cX3_hasRoomForPipe 24 = .ok (.isub, 1) := by decide +kernel
theorem dX3_hasRoomForPipe_25 : decode cX3_hasRoomForPipe 25 = .ok (.imul, 1) := by decide +kernel
theorem dX3_hasRoomForPipe_26 : decode cX3_hasRoomForPipe 26 = .ok (.if_icmp .ge 7, 3) := by decide +kernel
theorem dX3_hasRoomForPipe_29 : decode cX3_hasRoomForPipe 29 = .ok (.iconst 1, 1) := by decide +kernel
theorem dX3_hasRoomForPipe_30 : decode cX3_hasRoomForPipe 30 = .ok (.goto 4, 3) := by decide +kernel
theorem dX3_hasRoomForPipe_33 : decode cX3_hasRoomForPipe 33 = .ok (.iconst 0, 1) := by decide +kernel
theorem dX3_hasRoomForPipe_34 : decode cX3_hasRoomForPipe 34 = .ok (.ireturn, 1) := by decide +kernel
set_option maxRecDepth 20000 in
theorem ggX3_joinable_X6_all : GoodIn wsX3_joinable wsX6_all := goodIn_r _ [5, 6, 7, 4, 8] (by decide +kernel) (by decide +kernel)
set_option maxRecDepth 20000 in
theorem gX3_joinable_X6_all_n68 : GoodIn wsX3_joinable (wsX6_all) := ggX3_joinable_X6_all
set_option maxRecDepth 20000 in
theorem ggX3_joinable_X6_bit : GoodIn wsX3_joinable wsX6_bit := goodIn_r _ [8] (by decide +kernel) (by decide +kernel)
set_option maxRecDepth 20000 in
theorem gX3_joinable_X6_bit_n60 : GoodIn wsX3_joinable (wsX6_bit) := ggX3_joinable_X6_bit
set_option maxRecDepth 20000 in
theorem ggX3_joinable_X3_beside : GoodIn wsX3_joinable wsX3_beside := goodIn_r _ [13, 2, 14, 15, 16, 4, 17, 18, 19, 7, 8, 20, 21, 22, 23, 24, 25, 26, 27, 28, 29, 30, 31, 32] (by decide +kernel) (by decide +kernel)
set_option maxRecDepth 20000 in
theorem gX3_joinable_X3_beside : GoodIn wsX3_joinable (wsV RX3 71 RX3 yX3_beside wsX3_beside) := goodIn_app (goodIn_of _ (by decide +kernel)) ggX3_joinable_X3_beside
theorem dX3_joinable_0 : decode cX3_joinable 0 = .ok (.iload_n 1, 1) := by decide +kernel
theorem dX3_joinable_1 : decode cX3_joinable 1 = .ok (.ifCond .lt 11, 3) := by decide +kernel
theorem dX3_joinable_4 : decode cX3_joinable 4 = .ok (.iload_n 1, 1) := by decide +kernel
theorem dX3_joinable_5 : decode cX3_joinable 5 = .ok (.aload_n 0, 1) := by decide +kernel
theorem dX3_joinable_6 : decode cX3_joinable 6 = .ok (.getfield 37, 3) := by decide +kernel
theorem dX3_joinable_9 : decode cX3_joinable 9 = .ok (.if_icmp .lt 5, 3) := by decide +kernel
theorem dX3_joinable_12 : decode cX3_joinable 12 = .ok (.iconst 0, 1) := by decide +kernel
theorem dX3_joinable_13 : decode cX3_joinable 13 = .ok (.ireturn, 1) := by decide +kernel
theorem dX3_joinable_14 : decode cX3_joinable 14 = .ok (.aload_n 0, 1) := by decide +kernel
theorem dX3_joinable_15 : decode cX3_joinable 15 = .ok (.getfield 37, 3) := by decide +kernel
theorem dX3_joinable_18 : decode cX3_joinable 18 = .ok (.invokestatic 68, 3) := by decide +kernel
theorem dX3_joinable_21 : decode cX3_joinable 21 = .ok (.iload_n 1, 1) := by decide +kernel
theorem dX3_joinable_22 : decode cX3_joinable 22 = .ok (.invokestatic 60, 3) := by decide +kernel
theorem dX3_joinable_25 : decode cX3_joinable 25 = .ok (.iconst (-1), 1) := by decide +kernel
theorem dX3_joinable_26 : decode cX3_joinable 26 = .ok (.ixor, 1) := by decide +kernel
theorem dX3_joinable_27 : decode cX3_joinable 27 = .ok (.iand, 1) := by decide +kernel
theorem dX3_joinable_28 : decode cX3_joinable 28 = .ok (.aload_n 0, 1) := by decide +kernel
theorem dX3_joinable_29 : decode cX3_joinable 29 = .ok (.iload_n 1, 1) := by decide +kernel
theorem dX3_joinable_30 : decode cX3_joinable 30 = .ok (.aload_n 0, 1) := by decide +kernel
theorem dX3_joinable_31 : decode cX3_joinable 31 = .ok (.getfield 41, 3) := by decide +kernel
theorem dX3_joinable_34 : decode cX3_joinable 34 = .ok (.invokestatic 68, 3) := by decide +kernel
theorem dX3_joinable_37 : decode cX3_joinable 37 = .ok (.invokevirtual 71, 3) := by decide +kernel
theorem dX3_joinable_40 : decode cX3_joinable 40 = .ok (.iconst (-1), 1) := by decide +kernel
theorem dX3_joinable_41 : decode cX3_joinable 41 = .ok (.ixor, 1) := by decide +kernel
theorem dX3_joinable_42 : decode cX3_joinable 42 = .ok (.iand, 1) := by decide +kernel
theorem dX3_joinable_43 : decode cX3_joinable 43 = .ok (.ireturn, 1) := by decide +kernel
set_option maxRecDepth 20000 in
theorem ggX3_beside_X6_has : GoodIn wsX3_beside wsX6_has := goodIn_r _ [6] (by decide +kernel) (by decide +kernel)
set_option maxRecDepth 20000 in
theorem gX3_beside_X6_has_n75 : GoodIn wsX3_beside (wsX6_has) := ggX3_beside_X6_has
set_option maxRecDepth 20000 in
theorem ggX3_beside_X6_cell : GoodIn wsX3_beside wsX6_cell := goodIn_r _ [8] (by decide +kernel) (by decide +kernel)
set_option maxRecDepth 20000 in
theorem gX3_beside_X6_cell_n64 : GoodIn wsX3_beside (wsX6_cell) := ggX3_beside_X6_cell
set_option maxRecDepth 20000 in
theorem ggX3_beside_X6_bit : GoodIn wsX3_beside wsX6_bit := goodIn_r _ [10] (by decide +kernel) (by decide +kernel)
set_option maxRecDepth 20000 in
theorem gX3_beside_X6_bit_n60 : GoodIn wsX3_beside (wsX6_bit) := ggX3_beside_X6_bit
theorem dX3_beside_0 : decode cX3_beside 0 = .ok (.iconst 0, 1) := by decide +kernel
theorem dX3_beside_1 : decode cX3_beside 1 = .ok (.istore_n 3, 1) := by decide +kernel
theorem dX3_beside_2 : decode cX3_beside 2 = .ok (.iconst 0, 1) := by decide +kernel
theorem dX3_beside_3 : decode cX3_beside 3 = .ok (.istore 4, 2) := by decide +kernel
theorem dX3_beside_5 : decode cX3_beside 5 = .ok (.iload 4, 2) := by decide +kernel
theorem dX3_beside_7 : decode cX3_beside 7 = .ok (.aload_n 0, 1) := by decide +kernel
theorem dX3_beside_8 : decode cX3_beside 8 = .ok (.getfield 41, 3) := by decide +kernel
theorem dX3_beside_11 : decode cX3_beside 11 = .ok (.if_icmp .ge 71, 3) := by decide +kernel
theorem dX3_beside_14 : decode cX3_beside 14 = .ok (.iload_n 2, 1) := by decide +kernel
theorem dX3_beside_15 : decode cX3_beside 15 = .ok (.iload 4, 2) := by decide +kernel
theorem dX3_beside_17 : decode cX3_beside 17 = .ok (.invokestatic 75, 3) := by decide +kernel
theorem dX3_beside_20 : decode cX3_beside 20 = .ok (.ifCond .ne 6, 3) := by decide +kernel
theorem dX3_beside_23 : decode cX3_beside 23 = .ok (.goto 53, 3) := by decide +kernel
theorem dX3_beside_26 : decode cX3_beside 26 = .ok (.aload_n 0, 1) := by decide +kernel
theorem dX3_beside_27 : decode cX3_beside 27 = .ok (.getfield 15, 3) := by decide +kernel
theorem dX3_beside_30 : decode cX3_beside 30 = .ok (.iload 4, 2) := by decide +kernel
theorem dX3_beside_32 : decode cX3_beside 32 = .ok (.invokestatic 64, 3) := by decide +kernel
theorem dX3_beside_35 : decode cX3_beside 35 = .ok (.istore 5, 2) := by decide +kernel
theorem dX3_beside_37 : decode cX3_beside 37 = .ok (.aload_n 0, 1) := by decide +kernel
theorem dX3_beside_38 : decode cX3_beside 38 = .ok (.getfield 18, 3) := by decide +kernel
theorem dX3_beside_41 : decode cX3_beside 41 = .ok (.iload 4, 2) := by decide +kernel
theorem dX3_beside_43 : decode cX3_beside 43 = .ok (.invokestatic 64, 3) := by decide +kernel
theorem dX3_beside_46 : decode cX3_beside 46 = .ok (.istore 6, 2) := by decide +kernel
theorem dX3_beside_48 : decode cX3_beside 48 = .ok (.iload 5, 2) := by decide +kernel
theorem dX3_beside_50 : decode cX3_beside 50 = .ok (.iload_n 1, 1) := by decide +kernel
theorem dX3_beside_51 : decode cX3_beside 51 = .ok (.if_icmp .ne 11, 3) := by decide +kernel
theorem dX3_beside_54 : decode cX3_beside 54 = .ok (.iload_n 3, 1) := by decide +kernel
theorem dX3_beside_55 : decode cX3_beside 55 = .ok (.iload 6, 2) := by decide +kernel
theorem dX3_beside_57 : decode cX3_beside 57 = .ok (.invokestatic 60, 3) := by decide +kernel
theorem dX3_beside_60 : decode cX3_beside 60 = .ok (.ior, 1) := by decide +kernel
theorem dX3_beside_61 : decode cX3_beside 61 = .ok (.istore_n 3, 1) := by decide +kernel
theorem dX3_beside_62 : decode cX3_beside 62 = .ok (.iload 6, 2) := by decide +kernel
theorem dX3_beside_64 : decode cX3_beside 64 = .ok (.iload_n 1, 1) := by decide +kernel
theorem dX3_beside_65 : decode cX3_beside 65 = .ok (.if_icmp .ne 11, 3) := by decide +kernel
theorem dX3_beside_68 : decode cX3_beside 68 = .ok (.iload_n 3, 1) := by decide +kernel
theorem dX3_beside_69 : decode cX3_beside 69 = .ok (.iload 5, 2) := by decide +kernel
theorem dX3_beside_71 : decode cX3_beside 71 = .ok (.invokestatic 60, 3) := by decide +kernel
theorem dX3_beside_74 : decode cX3_beside 74 = .ok (.ior, 1) := by decide +kernel
theorem dX3_beside_75 : decode cX3_beside 75 = .ok (.istore_n 3, 1) := by decide +kernel
theorem dX3_beside_76 : decode cX3_beside 76 = .ok (.iinc 4 1, 3) := by decide +kernel
theorem dX3_beside_79 : decode cX3_beside 79 = .ok (.goto (-74), 3) := by decide +kernel
theorem dX3_beside_82 : decode cX3_beside 82 = .ok (.iload_n 3, 1) := by decide +kernel
theorem dX3_beside_83 : decode cX3_beside 83 = .ok (.ireturn, 1) := by decide +kernel
theorem dX3_tide_0 : decode cX3_tide 0 = .ok (.iload_n 1, 1) := by decide +kernel
theorem dX3_tide_1 : decode cX3_tide 1 = .ok (.iconst 3, 1) := by decide +kernel
theorem dX3_tide_2 : decode cX3_tide 2 = .ok (.iand, 1) := by decide +kernel
theorem dX3_tide_3 : decode cX3_tide 3 = .ok (.iconst 2, 1) := by decide +kernel
theorem dX3_tide_4 : decode cX3_tide 4 = .ok (.if_icmp .ge 10, 3) := by decide +kernel
theorem dX3_tide_7 : decode cX3_tide 7 = .ok (.aload_n 0, 1) := by decide +kernel
theorem dX3_tide_8 : decode cX3_tide 8 = .ok (.getfield 50, 3) := by decide +kernel
theorem dX3_tide_11 : decode cX3_tide 11 = .ok (.goto 7, 3) := by decide +kernel
theorem dX3_tide_14 : decode cX3_tide 14 = .ok (.aload_n 0, 1) := by decide +kernel
theorem dX3_tide_15 : decode cX3_tide 15 = .ok (.getfield 53, 3) := by decide +kernel
theorem dX3_tide_18 : decode cX3_tide 18 = .ok (.ireturn, 1) := by decide +kernel
set_option maxRecDepth 20000 in
theorem ggX3_under_X6_cell : GoodIn wsX3_under wsX6_cell := goodIn_r _ [5] (by decide +kernel) (by decide +kernel)
set_option maxRecDepth 20000 in
theorem gX3_under_X6_cell_n64 : GoodIn wsX3_under (wsX6_cell) := ggX3_under_X6_cell
set_option maxRecDepth 20000 in
theorem ggX3_under_X6_bit : GoodIn wsX3_under wsX6_bit := goodIn_r _ [7] (by decide +kernel) (by decide +kernel)
set_option maxRecDepth 20000 in
theorem gX3_under_X6_bit_n60 : GoodIn wsX3_under (wsX6_bit) := ggX3_under_X6_bit
theorem dX3_under_0 : decode cX3_under 0 = .ok (.iconst 0, 1) := by decide +kernel
theorem dX3_under_1 : decode cX3_under 1 = .ok (.istore_n 2, 1) := by decide +kernel
theorem dX3_under_2 : decode cX3_under 2 = .ok (.iconst 0, 1) := by decide +kernel
theorem dX3_under_3 : decode cX3_under 3 = .ok (.istore_n 3, 1) := by decide +kernel
theorem dX3_under_4 : decode cX3_under 4 = .ok (.iload_n 3, 1) := by decide +kernel
theorem dX3_under_5 : decode cX3_under 5 = .ok (.aload_n 0, 1) := by decide +kernel
theorem dX3_under_6 : decode cX3_under 6 = .ok (.getfield 37, 3) := by decide +kernel
theorem dX3_under_9 : decode cX3_under 9 = .ok (.if_icmp .ge 28, 3) := by decide +kernel
theorem dX3_under_12 : decode cX3_under 12 = .ok (.aload_n 0, 1) := by decide +kernel
theorem dX3_under_13 : decode cX3_under 13 = .ok (.getfield 9, 3) := by decide +kernel
theorem dX3_under_16 : decode cX3_under 16 = .ok (.iload_n 3, 1) := by decide +kernel
theorem dX3_under_17 : decode cX3_under 17 = .ok (.invokestatic 64, 3) := by decide +kernel
theorem dX3_under_20 : decode cX3_under 20 = .ok (.iload_n 1, 1) := by decide +kernel
theorem dX3_under_21 : decode cX3_under 21 = .ok (.if_icmp .ge 10, 3) := by decide +kernel
theorem dX3_under_24 : decode cX3_under 24 = .ok (.iload_n 2, 1) := by decide +kernel
theorem dX3_under_25 : decode cX3_under 25 = .ok (.iload_n 3, 1) := by decide +kernel
theorem dX3_under_26 : decode cX3_under 26 = .ok (.invokestatic 60, 3) := by decide +kernel
theorem dX3_under_29 : decode cX3_under 29 = .ok (.ior, 1) := by decide +kernel
theorem dX3_under_30 : decode cX3_under 30 = .ok (.istore_n 2, 1) := by decide +kernel
theorem dX3_under_31 : decode cX3_under 31 = .ok (.iinc 3 1, 3) := by decide +kernel
theorem dX3_under_34 : decode cX3_under 34 = .ok (.goto (-30), 3) := by decide +kernel
theorem dX3_under_37 : decode cX3_under 37 = .ok (.iload_n 2, 1) := by decide +kernel
theorem dX3_under_38 : decode cX3_under 38 = .ok (.ireturn, 1) := by decide +kernel
set_option maxRecDepth 20000 in
theorem ggX3_outermost_X6_has : GoodIn wsX3_outermost wsX6_has := goodIn_r _ [5] (by decide +kernel) (by decide +kernel)
set_option maxRecDepth 20000 in
theorem gX3_outermost_X6_has_n75 : GoodIn wsX3_outermost (wsX6_has) := ggX3_outermost_X6_has
set_option maxRecDepth 20000 in
theorem ggX3_outermost_X6_cell : GoodIn wsX3_outermost wsX6_cell := goodIn_r _ [7] (by decide +kernel) (by decide +kernel)
set_option maxRecDepth 20000 in
theorem gX3_outermost_X6_cell_n64 : GoodIn wsX3_outermost (wsX6_cell) := ggX3_outermost_X6_cell
theorem dX3_outermost_0 : decode cX3_outermost 0 = .ok (.bipush (-9), 2) := by decide +kernel
theorem dX3_outermost_2 : decode cX3_outermost 2 = .ok (.istore_n 3, 1) := by decide +kernel
theorem dX3_outermost_3 : decode cX3_outermost 3 = .ok (.iconst 0, 1) := by decide +kernel
theorem dX3_outermost_4 : decode cX3_outermost 4 = .ok (.istore 4, 2) := by decide +kernel
theorem dX3_outermost_6 : decode cX3_outermost 6 = .ok (.iload 4, 2) := by decide +kernel
theorem dX3_outermost_8 : decode cX3_outermost 8 = .ok (.aload_n 0, 1) := by decide +kernel
theorem dX3_outermost_9 : decode cX3_outermost 9 = .ok (.getfield 37, 3) := by decide +kernel
theorem dX3_outermost_12 : decode cX3_outermost 12 = .ok (.if_icmp .ge 54, 3) := by decide +kernel
theorem dX3_outermost_15 : decode cX3_outermost 15 = .ok (.iload_n 1, 1) := by decide +kernel
theorem dX3_outermost_16 : decode cX3_outermost 16 = .ok (.iload 4, 2) := by decide +kernel
theorem dX3_outermost_18 : decode cX3_outermost 18 = .ok (.invokestatic 75, 3) := by decide +kernel
theorem dX3_outermost_21 : decode cX3_outermost 21 = .ok (.ifCond .ne 6, 3) := by decide +kernel
theorem dX3_outermost_24 : decode cX3_outermost 24 = .ok (.goto 36, 3) := by decide +kernel
theorem dX3_outermost_27 : decode cX3_outermost 27 = .ok (.iload_n 3, 1) := by decide +kernel
theorem dX3_outermost_28 : decode cX3_outermost 28 = .ok (.bipush (-9), 2) := by decide +kernel
theorem dX3_outermost_30 : decode cX3_outermost 30 = .ok (.if_icmp .eq 27, 3) := by decide +kernel
theorem dX3_outermost_33 : decode cX3_outermost 33 = .ok (.iload_n 2, 1) := by decide +kernel
theorem dX3_outermost_34 : decode cX3_outermost 34 = .ok (.aload_n 0, 1) := by decide +kernel
theorem dX3_outermost_35 : decode cX3_outermost 35 = .ok (.getfield 9, 3) := by decide +kernel
theorem dX3_outermost_38 : decode cX3_outermost 38 = .ok (.iload 4, 2) := by decide +kernel
theorem dX3_outermost_40 : decode cX3_outermost 40 = .ok (.invokestatic 64, 3) := by decide +kernel
theorem dX3_outermost_43 : decode cX3_outermost 43 = .ok (.imul, 1) := by decide +kernel
theorem dX3_outermost_44 : decode cX3_outermost 44 = .ok (.iload_n 2, 1) := by decide +kernel
theorem dX3_outermost_45 : decode cX3_outermost 45 = .ok (.aload_n 0, 1) := by decide +kernel
theorem dX3_outermost_46 : decode cX3_outermost 46 = .ok (.getfield 9, 3) := by decide +kernel
theorem dX3_outermost_49 : decode cX3_outermost 49 = .ok (.iload_n 3, 1) := by decide +kernel
theorem dX3_outermost_50 : decode cX3_outermost 50 = .ok (.invokestatic 64, 3) := by decide +kernel
theorem dX3_outermost_53 : decode cX3_outermost 53 = .ok (.imul, 1) := by decide +kernel
theorem dX3_outermost_54 : decode cX3_outermost 54 = .ok (.if_icmp .le 6, 3) := by decide +kernel
theorem dX3_outermost_57 : decode cX3_outermost 57 = .ok (.iload 4, 2) := by decide +kernel
theorem dX3_outermost_59 : decode cX3_outermost 59 = .ok (.istore_n 3, 1) := by decide +kernel
theorem dX3_outermost_60 : decode cX3_outermost 60 = .ok (.iinc 4 1, 3) := by decide +kernel
theorem dX3_outermost_63 : decode cX3_outermost 63 = .ok (.goto (-57), 3) := by decide +kernel
theorem dX3_outermost_66 : decode cX3_outermost 66 = .ok (.iload_n 3, 1) := by decide +kernel
theorem dX3_outermost_67 : decode cX3_outermost 67 = .ok (.ireturn, 1) := by decide +kernel
set_option maxRecDepth 20000 in
theorem ggX3_firstRound_X6_has : GoodIn wsX3_firstRound wsX6_has := goodIn_r _ [4] (by decide +kernel) (by decide +kernel)
set_option maxRecDepth 20000 in
theorem gX3_firstRound_X6_has_n75 : GoodIn wsX3_firstRound (wsX6_has) := ggX3_firstRound_X6_has
theorem dX3_firstRound_0 : decode cX3_firstRound 0 = .ok (.iload_n 2, 1) := by decide +kernel
theorem dX3_firstRound_1 : decode cX3_firstRound 1 = .ok (.istore 4, 2) := by decide +kernel
theorem dX3_firstRound_3 : decode cX3_firstRound 3 = .ok (.iconst 0, 1) := by decide +kernel
theorem dX3_firstRound_4 : decode cX3_firstRound 4 = .ok (.istore 5, 2) := by decide +kernel
theorem dX3_firstRound_6 : decode cX3_firstRound 6 = .ok (.iload 5, 2) := by decide +kernel
theorem dX3_firstRound_8 : decode cX3_firstRound 8 = .ok (.aload_n 0, 1) := by decide +kernel
theorem dX3_firstRound_9 : decode cX3_firstRound 9 = .ok (.getfield 37, 3) := by decide +kernel
theorem dX3_firstRound_12 : decode cX3_firstRound 12 = .ok (.if_icmp .ge 52, 3) := by decide +kernel
theorem dX3_firstRound_15 : decode cX3_firstRound 15 = .ok (.iload 4, 2) := by decide +kernel
theorem dX3_firstRound_17 : decode cX3_firstRound 17 = .ok (.iload_n 3, 1) := by decide +kernel
theorem dX3_firstRound_18 : decode cX3_firstRound 18 = .ok (.iadd, 1) := by decide +kernel
theorem dX3_firstRound_19 : decode cX3_firstRound 19 = .ok (.istore 4, 2) := by decide +kernel
theorem dX3_firstRound_21 : decode cX3_firstRound 21 = .ok (.iload 4, 2) := by decide +kernel
theorem dX3_firstRound_23 : decode cX3_firstRound 23 = .ok (.aload_n 0, 1) := by decide +kernel
theorem dX3_firstRound_24 : decode cX3_firstRound 24 = .ok (.getfield 37, 3) := by decide +kernel
theorem dX3_firstRound_27 : decode cX3_firstRound 27 = .ok (.if_icmp .lt 6, 3) := by decide +kernel
theorem dX3_firstRound_30 : decode cX3_firstRound 30 = .ok (.iconst 0, 1) := by decide +kernel
theorem dX3_firstRound_31 : decode cX3_firstRound 31 = .ok (.istore 4, 2) := by decide +kernel
theorem dX3_firstRound_33 : decode cX3_firstRound 33 = .ok (.iload 4, 2) := by decide +kernel
theorem dX3_firstRound_35 : decode cX3_firstRound 35 = .ok (.ifCond .ge 11, 3) := by decide +kernel
theorem dX3_firstRound_38 : decode cX3_firstRound 38 = .ok (.aload_n 0, 1) := by decide +kernel
theorem dX3_firstRound_39 : decode cX3_firstRound 39 = .ok (.getfield 37, 3) := by decide +kernel
theorem dX3_firstRound_42 : decode cX3_firstRound 42 = .ok (.iconst 1, 1) := by decide +kernel
theorem dX3_firstRound_43 : decode cX3_firstRound 43 = .ok (.isub, 1) := by decide +kernel
theorem dX3_firstRound_44 : decode cX3_firstRound 44 = .ok (.istore 4, 2) := by decide +kernel
theorem dX3_firstRound_46 : decode cX3_firstRound 46 = .ok (.iload_n 1, 1) := by decide +kernel
theorem dX3_firstRound_47 : decode cX3_firstRound 47 = .ok (.iload 4, 2) := by decide +kernel
theorem dX3_firstRound_49 : decode cX3_firstRound 49 = .ok (.invokestatic 75, 3) := by decide +kernel
theorem dX3_firstRound_52 : decode cX3_firstRound 52 = .ok (.ifCond .eq 6, 3) := by decide +kernel
theorem dX3_firstRound_55 : decode cX3_firstRound 55 = .ok (.iload 4, 2) := by decide +kernel
theorem dX3_firstRound_57 : decode cX3_firstRound 57 = .ok (.ireturn, 1) := by decide +kernel
theorem dX3_firstRound_58 : decode cX3_firstRound 58 = .ok (.iinc 5 1, 3) := by decide +kernel
theorem dX3_firstRound_61 : decode cX3_firstRound 61 = .ok (.goto (-55), 3) := by decide +kernel
theorem dX3_firstRound_64 : decode cX3_firstRound 64 = .ok (.bipush (-9), 2) := by decide +kernel
theorem dX3_firstRound_66 : decode cX3_firstRound 66 = .ok (.ireturn, 1) := by decide +kernel
set_option maxRecDepth 20000 in
theorem ggX3_stepsBetween_X6_bit : GoodIn wsX3_stepsBetween wsX6_bit := goodIn_r _ [3] (by decide +kernel) (by decide +kernel)
set_option maxRecDepth 20000 in
theorem gX3_stepsBetween_X6_bit_n60 : GoodIn wsX3_stepsBetween (wsX6_bit) := ggX3_stepsBetween_X6_bit
set_option maxRecDepth 20000 in
theorem ggX3_stepsBetween_X6_has : GoodIn wsX3_stepsBetween wsX6_has := goodIn_r _ [5] (by decide +kernel) (by decide +kernel)
set_option maxRecDepth 20000 in
theorem gX3_stepsBetween_X6_has_n75 : GoodIn wsX3_stepsBetween (wsX6_has) := ggX3_stepsBetween_X6_has
set_option maxRecDepth 20000 in
theorem ggX3_stepsBetween_X3_besideAny : GoodIn wsX3_stepsBetween wsX3_besideAny := goodIn_r _ [10, 11, 4, 2, 5, 12, 13, 14, 9, 15, 16, 17, 18, 19, 20, 1, 3, 21, 22, 23, 24, 25, 26, 27, 28, 29, 30, 31, 32, 33] (by decide +kernel) (by decide +kernel)
set_option maxRecDepth 20000 in
theorem gX3_stepsBetween_X3_besideAny : GoodIn wsX3_stepsBetween (wsV RX3 79 RX3 yX3_besideAny wsX3_besideAny) := goodIn_app (goodIn_of _ (by decide +kernel)) ggX3_stepsBetween_X3_besideAny
theorem dX3_stepsBetween_0 : decode cX3_stepsBetween 0 = .ok (.iload_n 1, 1) := by decide +kernel
theorem dX3_stepsBetween_1 : decode cX3_stepsBetween 1 = .ok (.invokestatic 60, 3) := by decide +kernel
theorem dX3_stepsBetween_4 : decode cX3_stepsBetween 4 = .ok (.istore 4, 2) := by decide +kernel
theorem dX3_stepsBetween_6 : decode cX3_stepsBetween 6 = .ok (.iconst 0, 1) := by decide +kernel
theorem dX3_stepsBetween_7 : decode cX3_stepsBetween 7 = .ok (.istore 5, 2) := by decide +kernel
theorem dX3_stepsBetween_9 : decode cX3_stepsBetween 9 = .ok (.iload 5, 2) := by decide +kernel
theorem dX3_stepsBetween_11 : decode cX3_stepsBetween 11 = .ok (.bipush 6, 2) := by decide +kernel
theorem dX3_stepsBetween_13 : decode cX3_stepsBetween 13 = .ok (.if_icmp .ge 33, 3) := by decide +kernel
theorem dX3_stepsBetween_16 : decode cX3_stepsBetween 16 = .ok (.iload 4, 2) := by decide +kernel
theorem dX3_stepsBetween_18 : decode cX3_stepsBetween 18 = .ok (.iload_n 2, 1) := by decide +kernel
theorem dX3_stepsBetween_19 : decode cX3_stepsBetween 19 = .ok (.invokestatic 75, 3) := by decide +kernel
theorem dX3_stepsBetween_22 : decode cX3_stepsBetween 22 = .ok (.ifCond .eq 6, 3) := by decide +kernel
theorem dX3_stepsBetween_25 : decode cX3_stepsBetween 25 = .ok (.iload 5, 2) := by decide +kernel
theorem dX3_stepsBetween_27 : decode cX3_stepsBetween 27 = .ok (.ireturn, 1) := by decide +kernel
theorem dX3_stepsBetween_28 : decode cX3_stepsBetween 28 = .ok (.iload 4, 2) := by decide +kernel
theorem dX3_stepsBetween_30 : decode cX3_stepsBetween 30 = .ok (.aload_n 0, 1) := by decide +kernel
theorem dX3_stepsBetween_31 : decode cX3_stepsBetween 31 = .ok (.iload 4, 2) := by decide +kernel
theorem dX3_stepsBetween_33 : decode cX3_stepsBetween 33 = .ok (.iload_n 3, 1) := by decide +kernel
theorem dX3_stepsBetween_34 : decode cX3_stepsBetween 34 = .ok (.invokevirtual 79, 3) := by decide +kernel
theorem dX3_stepsBetween_37 : decode cX3_stepsBetween 37 = .ok (.ior, 1) := by decide +kernel
theorem dX3_stepsBetween_38 : decode cX3_stepsBetween 38 = .ok (.istore 4, 2) := by decide +kernel
theorem dX3_stepsBetween_40 : decode cX3_stepsBetween 40 = .ok (.iinc 5 1, 3) := by decide +kernel
theorem dX3_stepsBetween_43 : decode cX3_stepsBetween 43 = .ok (.goto (-34), 3) := by decide +kernel
theorem dX3_stepsBetween_46 : decode cX3_stepsBetween 46 = .ok (.bipush (-9), 2) := by decide +kernel
theorem dX3_stepsBetween_48 : decode cX3_stepsBetween 48 = .ok (.ireturn, 1) := by decide +kernel
set_option maxRecDepth 20000 in
theorem ggX3_besideAny_X6_has : GoodIn wsX3_besideAny wsX6_has := goodIn_r _ [4] (by decide +kernel) (by decide +kernel)
set_option maxRecDepth 20000 in
theorem gX3_besideAny_X6_has_n75 : GoodIn wsX3_besideAny (wsX6_has) := ggX3_besideAny_X6_has
set_option maxRecDepth 20000 in
theorem ggX3_besideAny_X3_beside : GoodIn wsX3_besideAny wsX3_beside := goodIn_r _ [9, 10, 11, 12, 2, 3, 4, 13, 14, 15, 16, 17, 18, 19, 20, 21, 22, 23, 24, 25, 26, 27, 28, 29] (by decide +kernel) (by decide +kernel)
set_option maxRecDepth 20000 in
theorem gX3_besideAny_X3_beside : GoodIn wsX3_besideAny (wsV RX3 71 RX3 yX3_beside wsX3_beside) := goodIn_app (goodIn_of _ (by decide +kernel)) ggX3_besideAny_X3_beside
theorem dX3_besideAny_0 : decode cX3_besideAny 0 = .ok (.iconst 0, 1) := by decide +kernel
theorem dX3_besideAny_1 : decode cX3_besideAny 1 = .ok (.istore_n 3, 1) := by decide +kernel
theorem dX3_besideAny_2 : decode cX3_besideAny 2 = .ok (.iconst 0, 1) := by decide +kernel
theorem dX3_besideAny_3 : decode cX3_besideAny 3 = .ok (.istore 4, 2) := by decide +kernel
theorem dX3_besideAny_5 : decode cX3_besideAny 5 = .ok (.iload 4, 2) := by decide +kernel
theorem dX3_besideAny_7 : decode cX3_besideAny 7 = .ok (.aload_n 0, 1) := by decide +kernel
theorem dX3_besideAny_8 : decode cX3_besideAny 8 = .ok (.getfield 37, 3) := by decide +kernel
theorem dX3_besideAny_11 : decode cX3_besideAny 11 = .ok (.if_icmp .ge 28, 3) := by decide +kernel
theorem dX3_besideAny_14 : decode cX3_besideAny 14 = .ok (.iload_n 1, 1) := by decide +kernel
theorem dX3_besideAny_15 : decode cX3_besideAny 15 = .ok (.iload 4, 2) := by decide +kernel
theorem dX3_besideAny_17 : decode cX3_besideAny 17 = .ok (.invokestatic 75, 3) := by decide +kernel
theorem dX3_besideAny_20 : decode cX3_besideAny 20 = .ok (.ifCond .eq 13, 3) := by decide +kernel
theorem dX3_besideAny_23 : decode cX3_besideAny 23 = .ok (.iload_n 3, 1) := by decide +kernel
theorem dX3_besideAny_24 : decode cX3_besideAny 24 = .ok (.aload_n 0, 1) := by decide +kernel
theorem dX3_besideAny_25 : decode cX3_besideAny 25 = .ok (.iload 4, 2) := by decide +kernel
theorem dX3_besideAny_27 : decode cX3_besideAny 27 = .ok (.iload_n 2, 1) := by decide +kernel
theorem dX3_besideAny_28 : decode cX3_besideAny 28 = .ok (.invokevirtual 71, 3) := by decide +kernel
theorem dX3_besideAny_31 : decode cX3_besideAny 31 = .ok (.ior, 1) := by decide +kernel
theorem dX3_besideAny_32 : decode cX3_besideAny 32 = .ok (.istore_n 3, 1) := by decide +kernel
theorem dX3_besideAny_33 : decode cX3_besideAny 33 = .ok (.iinc 4 1, 3) := by decide +kernel
theorem dX3_besideAny_36 : decode cX3_besideAny 36 = .ok (.goto (-31), 3) := by decide +kernel
theorem dX3_besideAny_39 : decode cX3_besideAny 39 = .ok (.iload_n 3, 1) := by decide +kernel
theorem dX3_besideAny_40 : decode cX3_besideAny 40 = .ok (.ireturn, 1) := by decide +kernel
set_option maxRecDepth 20000 in
theorem ggX4_init_X3_init : GoodIn wsX4_init wsX3_init := goodIn_r _ [11, 12, 2, 3, 8, 13, 14, 15, 16, 17, 18, 19, 20, 21, 22, 23, 24, 25, 26, 27, 28, 29, 30, 31, 32] (by decide +kernel) (by decide +kernel)
set_option maxRecDepth 20000 in
theorem gX4_init_X3_init_n11 : GoodIn wsX4_init (wsX3_init) := ggX4_init_X3_init
theorem dX4_init_0 : decode cX4_init 0 = .ok (.aload_n 0, 1) := by decide +kernel
theorem dX4_init_1 : decode cX4_init 1 = .ok (.invokespecial 3, 3) := by decide +kernel
theorem dX4_init_4 : decode cX4_init 4 = .ok (.aload_n 0, 1) := by decide +kernel
theorem dX4_init_5 : decode cX4_init 5 = .ok (.new 9, 3) := by decide +kernel
theorem dX4_init_8 : decode cX4_init 8 = .ok (.dup, 1) := by decide +kernel
theorem dX4_init_9 : decode cX4_init 9 = .ok (.invokespecial 11, 3) := by decide +kernel
theorem dX4_init_12 : decode cX4_init 12 = .ok (.putfield 12, 3) := by decide +kernel
theorem dX4_init_15 : decode cX4_init 15 = .ok (.aload_n 0, 1) := by decide +kernel
theorem dX4_init_16 : decode cX4_init 16 = .ok (.iconst 4, 1) := by decide +kernel
theorem dX4_init_17 : decode cX4_init 17 = .ok (.newarray .int, 2) := by decide +kernel
theorem dX4_init_19 : decode cX4_init 19 = .ok (.putfield 18, 3) := by decide +kernel
theorem dX4_init_22 : decode cX4_init 22 = .ok (.return_, 1) := by decide +kernel
set_option maxRecDepth 20000 in
theorem ggX4_read_X3_clear : GoodIn wsX4_read wsX3_clear := goodIn_r _ [8, 9, 10, 11, 12, 13, 14, 15, 7, 16, 17, 18, 104, 105, 106, 107, 108, 109, 110, 111, 112, 113, 114, 115, 116] (by decide +kernel) (by decide +kernel)
set_option maxRecDepth 20000 in
theorem gX4_read_X3_clear : GoodIn wsX4_read (wsV RX4 22 RX3 yX3_clear wsX3_clear) := goodIn_app (goodIn_of _ (by decide +kernel)) ggX4_read_X3_clear
set_option maxRecDepth 20000 in
theorem ggX4_read_X1_at : GoodIn wsX4_read wsX1_at := goodIn_r _ [23, 24, 25, 26, 27, 102, 103] (by decide +kernel) (by decide +kernel)
set_option maxRecDepth 20000 in
theorem gX4_read_X1_at : GoodIn wsX4_read (wsV RX4 34 RX1 yX1_at wsX1_at) := goodIn_app (goodIn_of _ (by decide +kernel)) ggX4_read_X1_at
set_option maxRecDepth 20000 in
theorem ggX4_read_X4_takes : GoodIn wsX4_read wsX4_takes := goodIn_r _ [32, 2, 33, 34, 35, 36, 37, 31, 38, 1, 39, 40, 41, 42, 43, 7, 44, 10, 9, 45, 46, 47, 48, 49, 50, 51, 52, 53, 26, 54, 55, 56, 57, 58, 59, 60, 61, 62, 63, 64, 65, 25, 27, 66, 67, 68, 69, 70, 71, 72, 73, 74, 75, 76, 77, 78, 79, 80, 81, 82, 83, 84, 12, 85, 86, 87, 88, 89, 90, 91, 92, 93, 11, 94, 95, 96, 97, 14, 15, 16, 17, 18, 98, 99, 100, 101, 104, 105, 106, 107, 108, 109, 110, 111, 112, 113, 114, 115, 116] (by decide +kernel) (by decide +kernel)
set_option maxRecDepth 20000 in
theorem gX4_read_X4_takes : GoodIn wsX4_read (wsV RX4 38 RX4 yX4_takes wsX4_takes) := goodIn_app (goodIn_of _ (by decide +kernel)) ggX4_read_X4_takes
theorem dX4_read_0 : decode cX4_read 0 = .ok (.aload_n 0, 1) := by decide +kernel
theorem dX4_read_1 : decode cX4_read 1 = .ok (.getfield 12, 3) := by decide +kernel
theorem dX4_read_4 : decode cX4_read 4 = .ok (.invokevirtual 22, 3) := by decide +kernel
theorem dX4_read_7 : decode cX4_read 7 = .ok (.aload_n 0, 1) := by decide +kernel
theorem dX4_read_8 : decode cX4_read 8 = .ok (.iconst (-1), 1) := by decide +kernel
theorem dX4_read_9 : decode cX4_read 9 = .ok (.putfield 25, 3) := by decide +kernel
theorem dX4_read_12 : decode cX4_read 12 = .ok (.iconst 0, 1) := by decide +kernel
theorem dX4_read_13 : decode cX4_read 13 = .ok (.istore_n 2, 1) := by decide +kernel
theorem dX4_read_14 : decode cX4_read 14 = .ok (.iload_n 2, 1) := by decide +kernel
theorem dX4_read_15 : decode cX4_read 15 = .ok (.aload_n 1, 1) := by decide +kernel
theorem dX4_read_16 : decode cX4_read 16 = .ok (.getfield 29, 3) := by decide +kernel
theorem dX4_read_19 : decode cX4_read 19 = .ok (.if_icmp .ge 23, 3) := by decide +kernel
theorem dX4_read_22 : decode cX4_read 22 = .ok (.aload_n 0, 1) := by decide +kernel
theorem dX4_read_23 : decode cX4_read 23 = .ok (.aload_n 1, 1) := by decide +kernel
theorem dX4_read_24 : decode cX4_read 24 = .ok (.iload_n 2, 1) := by decide +kernel
theorem dX4_read_25 : decode cX4_read 25 = .ok (.invokevirtual 34, 3) := by decide +kernel
theorem dX4_read_28 : decode cX4_read 28 = .ok (.invokevirtual 38, 3) := by decide +kernel
theorem dX4_read_31 : decode cX4_read 31 = .ok (.ifCond .ne 5, 3) := by decide +kernel
theorem dX4_read_34 : decode cX4_read 34 = .ok (.iload_n 2, 1) := by decide +kernel
theorem dX4_read_35 : decode cX4_read 35 = .ok (.ireturn, 1) := by decide +kernel
theorem dX4_read_36 : decode cX4_read 36 = .ok (.iinc 2 1, 3) := by decide +kernel
theorem dX4_read_39 : decode cX4_read 39 = .ok (.goto (-25), 3) := by decide +kernel
theorem dX4_read_42 : decode cX4_read 42 = .ok (.aload_n 0, 1) := by decide +kernel
theorem dX4_read_43 : decode cX4_read 43 = .ok (.getfield 25, 3) := by decide +kernel
theorem dX4_read_46 : decode cX4_read 46 = .ok (.ifCond .ne 8, 3) := by decide +kernel
theorem dX4_read_49 : decode cX4_read 49 = .ok (.bipush (-9), 2) := by decide +kernel
theorem dX4_read_51 : decode cX4_read 51 = .ok (.goto 7, 3) := by decide +kernel
theorem dX4_read_54 : decode cX4_read 54 = .ok (.aload_n 1, 1) := by decide +kernel
theorem dX4_read_55 : decode cX4_read 55 = .ok (.getfield 29, 3) := by decide +kernel
theorem dX4_read_58 : decode cX4_read 58 = .ok (.ireturn, 1) := by decide +kernel
set_option maxRecDepth 20000 in
theorem ggX4_takes_X4_mayBegin : GoodIn wsX4_takes wsX4_mayBegin := goodIn_r _ [8, 1, 9, 10, 11, 12, 13, 14, 15, 16, 17, 18, 82, 83, 84, 85, 86, 87, 88, 89, 90, 91, 92, 93, 94, 95, 96, 97, 98] (by decide +kernel) (by decide +kernel)
set_option maxRecDepth 20000 in
theorem gX4_takes_X4_mayBegin : GoodIn wsX4_takes (wsV RX4 42 RX4 yX4_mayBegin wsX4_mayBegin) := goodIn_app (goodIn_of _ (by decide +kernel)) ggX4_takes_X4_mayBegin
set_option maxRecDepth 20000 in
theorem ggX4_takes_X4_fits : GoodIn wsX4_takes wsX4_fits := goodIn_r _ [22, 1, 2, 9, 3, 23, 24, 25, 15, 26, 18, 17, 27, 28, 29, 30, 31, 32, 33, 34, 35, 36, 37, 38, 39, 40, 41, 42, 43, 44, 45, 7, 46, 10, 82, 83, 84, 85, 86, 87, 88, 89, 90, 91, 92, 93, 94, 95, 96, 97, 98] (by decide +kernel) (by decide +kernel)
set_option maxRecDepth 20000 in
theorem gX4_takes_X4_fits : GoodIn wsX4_takes (wsV RX4 48 RX4 yX4_fits wsX4_fits) := goodIn_app (goodIn_of _ (by decide +kernel)) ggX4_takes_X4_fits
set_option maxRecDepth 20000 in
theorem ggX4_takes_X6_put : GoodIn wsX4_takes wsX6_put := goodIn_r _ [48] (by decide +kernel) (by decide +kernel)
set_option maxRecDepth 20000 in
theorem gX4_takes_X6_put_n51 : GoodIn wsX4_takes (wsX6_put) := ggX4_takes_X6_put
set_option maxRecDepth 20000 in
theorem ggX4_takes_X4_figuresOfPart : GoodIn wsX4_takes wsX4_figuresOfPart := goodIn_r _ [52, 1, 82, 83, 84, 85] (by decide +kernel) (by decide +kernel)
set_option maxRecDepth 20000 in
theorem gX4_takes_X4_figuresOfPart : GoodIn wsX4_takes (wsV RX4 55 RX4 yX4_figuresOfPart wsX4_figuresOfPart) := goodIn_app (goodIn_of _ (by decide +kernel)) ggX4_takes_X4_figuresOfPart
set_option maxRecDepth 20000 in
theorem ggX4_takes_X4_addPart : GoodIn wsX4_takes wsX4_addPart := goodIn_r _ [56, 3, 1, 9, 41, 28, 42, 57, 58, 59, 15, 60, 61, 18, 62, 47, 48, 31, 32, 63, 64, 65, 66, 37, 17, 38, 67, 68, 69, 70, 71, 72, 73, 74, 75, 76, 77, 78, 79, 80, 81, 82, 83, 84, 85, 86, 87, 88, 89, 90, 91, 92, 93, 94, 95, 96, 97, 98] (by decide +kernel) (by decide +kernel)
set_option maxRecDepth 20000 in
theorem gX4_takes_X4_addPart : GoodIn wsX4_takes (wsV RX4 59 RX4 yX4_addPart wsX4_addPart) := goodIn_app (goodIn_of _ (by decide +kernel)) ggX4_takes_X4_addPart
theorem dX4_takes_0 : decode cX4_takes 0 = .ok (.aload_n 0, 1) := by decide +kernel
theorem dX4_takes_1 : decode cX4_takes 1 = .ok (.getfield 25, 3) := by decide +kernel
theorem dX4_takes_4 : decode cX4_takes 4 = .ok (.iconst (-1), 1) := by decide +kernel
theorem dX4_takes_5 : decode cX4_takes 5 = .ok (.if_icmp .eq 10, 3) := by decide +kernel
theorem dX4_takes_8 : decode cX4_takes 8 = .ok (.aload_n 0, 1) := by decide +kernel
theorem dX4_takes_9 : decode cX4_takes 9 = .ok (.getfield 25, 3) := by decide +kernel
theorem dX4_takes_12 : decode cX4_takes 12 = .ok (.ifCond .ne 25, 3) := by decide +kernel
theorem dX4_takes_15 : decode cX4_takes 15 = .ok (.aload_n 0, 1) := by decide +kernel
theorem dX4_takes_16 : decode cX4_takes 16 = .ok (.iload_n 1, 1) := by decide +kernel
theorem dX4_takes_17 : decode cX4_takes 17 = .ok (.invokevirtual 42, 3) := by decide +kernel
theorem dX4_takes_20 : decode cX4_takes 20 = .ok (.ifCond .ne 5, 3) := by decide +kernel
theorem dX4_takes_23 : decode cX4_takes 23 = .ok (.iconst 0, 1) := by decide +kernel
theorem dX4_takes_24 : decode cX4_takes 24 = .ok (.ireturn, 1) := by decide +kernel
theorem dX4_takes_25 : decode cX4_takes 25 = .ok (.aload_n 0, 1) := by decide +kernel
theorem dX4_takes_26 : decode cX4_takes 26 = .ok (.iload_n 1, 1) := by decide +kernel
theorem dX4_takes_27 : decode cX4_takes 27 = .ok (.putfield 25, 3) := by decide +kernel
theorem dX4_takes_30 : decode cX4_takes 30 = .ok (.aload_n 0, 1) := by decide +kernel
theorem dX4_takes_31 : decode cX4_takes 31 = .ok (.iconst 0, 1) := by decide +kernel
theorem dX4_takes_32 : decode cX4_takes 32 = .ok (.putfield 45, 3) := by decide +kernel
theorem dX4_takes_35 : decode cX4_takes 35 = .ok (.iconst 1, 1) := by decide +kernel
theorem dX4_takes_36 : decode cX4_takes 36 = .ok (.ireturn, 1) := by decide +kernel
theorem dX4_takes_37 : decode cX4_takes 37 = .ok (.iload_n 1, 1) := by decide +kernel
theorem dX4_takes_38 : decode cX4_takes 38 = .ok (.bipush 48, 2) := by decide +kernel
theorem dX4_takes_40 : decode cX4_takes 40 = .ok (.isub, 1) := by decide +kernel
theorem dX4_takes_41 : decode cX4_takes 41 = .ok (.istore_n 2, 1) := by decide +kernel
theorem dX4_takes_42 : decode cX4_takes 42 = .ok (.iload_n 2, 1) := by decide +kernel
theorem dX4_takes_43 : decode cX4_takes 43 = .ok (.ifCond .lt 17, 3) := by decide +kernel
theorem dX4_takes_46 : decode cX4_takes 46 = .ok (.iload_n 2, 1) := by decide +kernel
theorem dX4_takes_47 : decode cX4_takes 47 = .ok (.bipush 9, 2) := by decide +kernel
theorem dX4_takes_49 : decode cX4_takes 49 = .ok (.if_icmp .gt 11, 3) := by decide +kernel
theorem dX4_takes_52 : decode cX4_takes 52 = .ok (.aload_n 0, 1) := by decide +kernel
theorem dX4_takes_53 : decode cX4_takes 53 = .ok (.iload_n 2, 1) := by decide +kernel
theorem dX4_takes_54 : decode cX4_takes 54 = .ok (.invokevirtual 48, 3) := by decide +kernel
theorem dX4_takes_57 : decode cX4_takes 57 = .ok (.ifCond .ne 5, 3) := by decide +kernel
theorem dX4_takes_60 : decode cX4_takes 60 = .ok (.iconst 0, 1) := by decide +kernel
theorem dX4_takes_61 : decode cX4_takes 61 = .ok (.ireturn, 1) := by decide +kernel
theorem dX4_takes_62 : decode cX4_takes 62 = .ok (.aload_n 0, 1) := by decide +kernel
theorem dX4_takes_63 : decode cX4_takes 63 = .ok (.getfield 18, 3) := by decide +kernel
theorem dX4_takes_66 : decode cX4_takes 66 = .ok (.aload_n 0, 1) := by decide +kernel
theorem dX4_takes_67 : decode cX4_takes 67 = .ok (.getfield 45, 3) := by decide +kernel
theorem dX4_takes_70 : decode cX4_takes 70 = .ok (.iload_n 2, 1) := by decide +kernel
theorem dX4_takes_71 : decode cX4_takes 71 = .ok (.invokestatic 51, 3) := by decide +kernel
theorem dX4_takes_74 : decode cX4_takes 74 = .ok (.aload_n 0, 1) := by decide +kernel
theorem dX4_takes_75 : decode cX4_takes 75 = .ok (.dup, 1) := by decide +kernel
theorem dX4_takes_76 : decode cX4_takes 76 = .ok (.getfield 45, 3) := by decide +kernel
theorem dX4_takes_79 : decode cX4_takes 79 = .ok (.iconst 1, 1) := by decide +kernel
theorem dX4_takes_80 : decode cX4_takes 80 = .ok (.iadd, 1) := by decide +kernel
theorem dX4_takes_81 : decode cX4_takes 81 = .ok (.putfield 45, 3) := by decide +kernel
theorem dX4_takes_84 : decode cX4_takes 84 = .ok (.aload_n 0, 1) := by decide +kernel
theorem dX4_takes_85 : decode cX4_takes 85 = .ok (.getfield 45, 3) := by decide +kernel
theorem dX4_takes_88 : decode cX4_takes 88 = .ok (.aload_n 0, 1) := by decide +kernel
theorem dX4_takes_89 : decode cX4_takes 89 = .ok (.invokevirtual 55, 3) := by decide +kernel
theorem dX4_takes_92 : decode cX4_takes 92 = .ok (.if_icmp .ne 12, 3) := by decide +kernel
theorem dX4_takes_95 : decode cX4_takes 95 = .ok (.aload_n 0, 1) := by decide +kernel
theorem dX4_takes_96 : decode cX4_takes 96 = .ok (.invokevirtual 59, 3) := by decide +kernel
theorem dX4_takes_99 : decode cX4_takes 99 = .ok (.aload_n 0, 1) := by decide +kernel
theorem dX4_takes_100 : decode cX4_takes 100 = .ok (.iconst 0, 1) := by decide +kernel
theorem dX4_takes_101 : decode cX4_takes 101 = .ok (.putfield 25, 3) := by decide +kernel
theorem dX4_takes_104 : decode cX4_takes 104 = .ok (.iconst 1, 1) := by decide +kernel
theorem dX4_takes_105 : decode cX4_takes 105 = .ok (.ireturn, 1) := by decide +kernel
set_option maxRecDepth 20000 in
theorem ggX4_mayBegin_X3_hasRoomForPipe : GoodIn wsX4_mayBegin wsX3_hasRoomForPipe := goodIn_r _ [9, 10, 11, 16, 17, 18, 19, 20, 21, 22, 23, 24, 25, 26, 27, 28] (by decide +kernel) (by decide +kernel)
set_option maxRecDepth 20000 in
theorem gX4_mayBegin_X3_hasRoomForPipe : GoodIn wsX4_mayBegin (wsV RX4 65 RX3 yX3_hasRoomForPipe wsX3_hasRoomForPipe) := goodIn_app (goodIn_of _ (by decide +kernel)) ggX4_mayBegin_X3_hasRoomForPipe
theorem dX4_mayBegin_0 : decode cX4_mayBegin 0 = .ok (.aload_n 0, 1) := by decide +kernel
theorem dX4_mayBegin_1 : decode cX4_mayBegin 1 = .ok (.getfield 25, 3) := by decide +kernel
theorem dX4_mayBegin_4 : decode cX4_mayBegin 4 = .ok (.iconst (-1), 1) := by decide +kernel
theorem dX4_mayBegin_5 : decode cX4_mayBegin 5 = .ok (.if_icmp .ne 15, 3) := by decide +kernel
theorem dX4_mayBegin_8 : decode cX4_mayBegin 8 = .ok (.iload_n 1, 1) := by decide +kernel
theorem dX4_mayBegin_9 : decode cX4_mayBegin 9 = .ok (.bipush 66, 2) := by decide +kernel
theorem dX4_mayBegin_11 : decode cX4_mayBegin 11 = .ok (.if_icmp .ne 7, 3) := by decide +kernel
theorem dX4_mayBegin_14 : decode cX4_mayBegin 14 = .ok (.iconst 1, 1) := by decide +kernel
theorem dX4_mayBegin_15 : decode cX4_mayBegin 15 = .ok (.goto 4, 3) := by decide +kernel
theorem dX4_mayBegin_18 : decode cX4_mayBegin 18 = .ok (.iconst 0, 1) := by decide +kernel
theorem dX4_mayBegin_19 : decode cX4_mayBegin 19 = .ok (.ireturn, 1) := by decide +kernel
theorem dX4_mayBegin_20 : decode cX4_mayBegin 20 = .ok (.iload_n 1, 1) := by decide +kernel
theorem dX4_mayBegin_21 : decode cX4_mayBegin 21 = .ok (.lookupswitch 88 #[(74, 35), (80, 53), (87, 61)], 35) := by decide +kernel
theorem dX4_mayBegin_56 : decode cX4_mayBegin 56 = .ok (.aload_n 0, 1) := by decide +kernel
theorem dX4_mayBegin_57 : decode cX4_mayBegin 57 = .ok (.getfield 12, 3) := by decide +kernel
theorem dX4_mayBegin_60 : decode cX4_mayBegin 60 = .ok (.getfield 62, 3) := by decide +kernel
theorem dX4_mayBegin_63 : decode cX4_mayBegin 63 = .ok (.bipush 6, 2) := by decide +kernel
theorem dX4_mayBegin_65 : decode cX4_mayBegin 65 = .ok (.if_icmp .ge 7, 3) := by decide +kernel
theorem dX4_mayBegin_68 : decode cX4_mayBegin 68 = .ok (.iconst 1, 1) := by decide +kernel
theorem dX4_mayBegin_69 : decode cX4_mayBegin 69 = .ok (.goto 4, 3) := by decide +kernel
theorem dX4_mayBegin_72 : decode cX4_mayBegin 72 = .ok (.iconst 0, 1) := by decide +kernel
theorem dX4_mayBegin_73 : decode cX4_mayBegin 73 = .ok (.ireturn, 1) := by decide +kernel
theorem dX4_mayBegin_74 : decode cX4_mayBegin 74 = .ok (.aload_n 0, 1) := by decide +kernel
theorem dX4_mayBegin_75 : decode cX4_mayBegin 75 = .ok (.getfield 12, 3) := by decide +kernel
theorem dX4_mayBegin_78 : decode cX4_mayBegin 78 = .ok (.invokevirtual 65, 3) := by decide +kernel
theorem dX4_mayBegin_81 : decode cX4_mayBegin 81 = .ok (.ireturn, 1) := by decide +kernel
theorem dX4_mayBegin_82 : decode cX4_mayBegin 82 = .ok (.aload_n 0, 1) := by decide +kernel
theorem dX4_mayBegin_83 : decode cX4_mayBegin 83 = .ok (.getfield 12, 3) := by decide +kernel
theorem dX4_mayBegin_86 : decode cX4_mayBegin 86 = .ok (.getfield 69, 3) := by decide +kernel
theorem dX4_mayBegin_89 : decode cX4_mayBegin 89 = .ok (.iconst 4, 1) := by decide +kernel
theorem dX4_mayBegin_90 : decode cX4_mayBegin 90 = .ok (.if_icmp .ge 17, 3) := by decide +kernel
theorem dX4_mayBegin_93 : decode cX4_mayBegin 93 = .ok (.aload_n 0, 1) := by decide +kernel
theorem dX4_mayBegin_94 : decode cX4_mayBegin 94 = .ok (.getfield 12, 3) := by decide +kernel
theorem dX4_mayBegin_97 : decode cX4_mayBegin 97 = .ok (.getfield 62, 3) := by decide +kernel
theorem dX4_mayBegin_100 : decode cX4_mayBegin 100 = .ok (.ifCond .le 7, 3) := by decide +kernel
theorem dX4_mayBegin_103 : decode cX4_mayBegin 103 = .ok (.iconst 1, 1) := by decide +kernel
theorem dX4_mayBegin_104 : decode cX4_mayBegin 104 = .ok (.goto 4, 3) := by decide +kernel
theorem dX4_mayBegin_107 : decode cX4_mayBegin 107 = .ok (.iconst 0, 1) := by decide +kernel
theorem dX4_mayBegin_108 : decode cX4_mayBegin 108 = .ok (.ireturn, 1) := by decide +kernel
theorem dX4_mayBegin_109 : decode cX4_mayBegin 109 = .ok (.iconst 0, 1) := by decide +kernel
theorem dX4_mayBegin_110 : decode cX4_mayBegin 110 = .ok (.ireturn, 1) := by decide +kernel
theorem dX4_figuresOfPart_0 : decode cX4_figuresOfPart 0 = .ok (.aload_n 0, 1) := by decide +kernel
theorem dX4_figuresOfPart_1 : decode cX4_figuresOfPart 1 = .ok (.getfield 25, 3) := by decide +kernel
theorem dX4_figuresOfPart_4 : decode cX4_figuresOfPart 4 = .ok (.bipush 87, 2) := by decide +kernel
theorem dX4_figuresOfPart_6 : decode cX4_figuresOfPart 6 = .ok (.if_icmp .ne 7, 3) := by decide +kernel
theorem dX4_figuresOfPart_9 : decode cX4_figuresOfPart 9 = .ok (.iconst 4, 1) := by decide +kernel
theorem dX4_figuresOfPart_10 : decode cX4_figuresOfPart 10 = .ok (.goto 4, 3) := by decide +kernel
theorem dX4_figuresOfPart_13 : decode cX4_figuresOfPart 13 = .ok (.iconst 2, 1) := by decide +kernel
theorem dX4_figuresOfPart_14 : decode cX4_figuresOfPart 14 = .ok (.ireturn, 1) := by decide +kernel
set_option maxRecDepth 20000 in
theorem ggX4_fits_X3_joinable : GoodIn wsX4_fits wsX3_joinable := goodIn_r _ [9, 10, 11, 12, 13, 14, 15, 16, 17, 18, 19, 20, 8, 21, 22, 23, 24, 25, 26, 27, 38, 39, 40, 41, 42, 43, 44, 45, 46, 47, 48, 49, 50] (by decide +kernel) (by decide +kernel)
set_option maxRecDepth 20000 in
theorem gX4_fits_X3_joinable : GoodIn wsX4_fits (wsV RX4 72 RX3 yX3_joinable wsX3_joinable) := goodIn_app (goodIn_of _ (by decide +kernel)) ggX4_fits_X3_joinable
set_option maxRecDepth 20000 in
theorem ggX4_fits_X6_cell : GoodIn wsX4_fits wsX6_cell := goodIn_r _ [27] (by decide +kernel) (by decide +kernel)
set_option maxRecDepth 20000 in
theorem gX4_fits_X6_cell_n75 : GoodIn wsX4_fits (wsX6_cell) := ggX4_fits_X6_cell
set_option maxRecDepth 20000 in
theorem ggX4_fits_X6_has : GoodIn wsX4_fits wsX6_has := goodIn_r _ [25] (by decide +kernel) (by decide +kernel)
set_option maxRecDepth 20000 in
theorem gX4_fits_X6_has_n79 : GoodIn wsX4_fits (wsX6_has) := ggX4_fits_X6_has
set_option maxRecDepth 20000 in
theorem ggX4_fits_X4_fitsWalker : GoodIn wsX4_fits wsX4_fitsWalker := goodIn_r _ [32, 2, 3, 33, 34, 35, 36, 37, 38, 39, 40, 41, 42, 43, 44, 45, 46, 47, 48, 49, 50] (by decide +kernel) (by decide +kernel)
set_option maxRecDepth 20000 in
theorem gX4_fits_X4_fitsWalker : GoodIn wsX4_fits (wsV RX4 83 RX4 yX4_fitsWalker wsX4_fitsWalker) := goodIn_app (goodIn_of _ (by decide +kernel)) ggX4_fits_X4_fitsWalker
theorem dX4_fits_0 : decode cX4_fits 0 = .ok (.aload_n 0, 1) := by decide +kernel
theorem dX4_fits_1 : decode cX4_fits 1 = .ok (.getfield 25, 3) := by decide +kernel
theorem dX4_fits_4 : decode cX4_fits 4 = .ok (.lookupswitch 106 #[(74, 36), (80, 54), (87, 100)], 36) := by decide +kernel
theorem dX4_fits_40 : decode cX4_fits 40 = .ok (.aload_n 0, 1) := by decide +kernel
theorem dX4_fits_41 : decode cX4_fits 41 = .ok (.getfield 45, 3) := by decide +kernel
theorem dX4_fits_44 : decode cX4_fits 44 = .ok (.ifCond .eq 8, 3) := by decide +kernel
theorem dX4_fits_47 : decode cX4_fits 47 = .ok (.iload_n 1, 1) := by decide +kernel
theorem dX4_fits_48 : decode cX4_fits 48 = .ok (.iconst 1, 1) := by decide +kernel
theorem dX4_fits_49 : decode cX4_fits 49 = .ok (.if_icmp .gt 7, 3) := by decide +kernel
theorem dX4_fits_52 : decode cX4_fits 52 = .ok (.iconst 1, 1) := by decide +kernel
theorem dX4_fits_53 : decode cX4_fits 53 = .ok (.goto 4, 3) := by decide +kernel
theorem dX4_fits_56 : decode cX4_fits 56 = .ok (.iconst 0, 1) := by decide +kernel
theorem dX4_fits_57 : decode cX4_fits 57 = .ok (.ireturn, 1) := by decide +kernel
theorem dX4_fits_58 : decode cX4_fits 58 = .ok (.aload_n 0, 1) := by decide +kernel
theorem dX4_fits_59 : decode cX4_fits 59 = .ok (.getfield 45, 3) := by decide +kernel
theorem dX4_fits_62 : decode cX4_fits 62 = .ok (.ifCond .ne 22, 3) := by decide +kernel
theorem dX4_fits_65 : decode cX4_fits 65 = .ok (.aload_n 0, 1) := by decide +kernel
theorem dX4_fits_66 : decode cX4_fits 66 = .ok (.getfield 12, 3) := by decide +kernel
theorem dX4_fits_69 : decode cX4_fits 69 = .ok (.iload_n 1, 1) := by decide +kernel
theorem dX4_fits_70 : decode cX4_fits 70 = .ok (.invokevirtual 72, 3) := by decide +kernel
theorem dX4_fits_73 : decode cX4_fits 73 = .ok (.ifCond .eq 7, 3) := by decide +kernel
theorem dX4_fits_76 : decode cX4_fits 76 = .ok (.iconst 1, 1) := by decide +kernel
theorem dX4_fits_77 : decode cX4_fits 77 = .ok (.goto 26, 3) := by decide +kernel
theorem dX4_fits_80 : decode cX4_fits 80 = .ok (.iconst 0, 1) := by decide +kernel
theorem dX4_fits_81 : decode cX4_fits 81 = .ok (.goto 22, 3) := by decide +kernel
theorem dX4_fits_84 : decode cX4_fits 84 = .ok (.aload_n 0, 1) := by decide +kernel
theorem dX4_fits_85 : decode cX4_fits 85 = .ok (.getfield 12, 3) := by decide +kernel
theorem dX4_fits_88 : decode cX4_fits 88 = .ok (.aload_n 0, 1) := by decide +kernel
theorem dX4_fits_89 : decode cX4_fits 89 = .ok (.getfield 18, 3) := by decide +kernel
theorem dX4_fits_92 : decode cX4_fits 92 = .ok (.iconst 0, 1) := by decide +kernel
theorem dX4_fits_93 : decode cX4_fits 93 = .ok (.invokestatic 75, 3) := by decide +kernel
theorem dX4_fits_96 : decode cX4_fits 96 = .ok (.invokevirtual 72, 3) := by decide +kernel
theorem dX4_fits_99 : decode cX4_fits 99 = .ok (.iload_n 1, 1) := by decide +kernel
theorem dX4_fits_100 : decode cX4_fits 100 = .ok (.invokestatic 79, 3) := by decide +kernel
theorem dX4_fits_103 : decode cX4_fits 103 = .ok (.ireturn, 1) := by decide +kernel
theorem dX4_fits_104 : decode cX4_fits 104 = .ok (.aload_n 0, 1) := by decide +kernel
theorem dX4_fits_105 : decode cX4_fits 105 = .ok (.iload_n 1, 1) := by decide +kernel
theorem dX4_fits_106 : decode cX4_fits 106 = .ok (.invokevirtual 83, 3) := by decide +kernel
theorem dX4_fits_109 : decode cX4_fits 109 = .ok (.ireturn, 1) := by decide +kernel
theorem dX4_fits_110 : decode cX4_fits 110 = .ok (.iconst 1, 1) := by decide +kernel
theorem dX4_fits_111 : decode cX4_fits 111 = .ok (.ireturn, 1) := by decide +kernel
theorem dX4_fitsWalker_0 : decode cX4_fitsWalker 0 = .ok (.aload_n 0, 1) := by decide +kernel
theorem dX4_fitsWalker_1 : decode cX4_fitsWalker 1 = .ok (.getfield 45, 3) := by decide +kernel
theorem dX4_fitsWalker_4 : decode cX4_fitsWalker 4 = .ok (.lookupswitch 50 #[(1, 28), (2, 39)], 28) := by decide +kernel
theorem dX4_fitsWalker_32 : decode cX4_fitsWalker 32 = .ok (.iload_n 1, 1) := by decide +kernel
theorem dX4_fitsWalker_33 : decode cX4_fitsWalker 33 = .ok (.iconst 1, 1) := by decide +kernel
theorem dX4_fitsWalker_34 : decode cX4_fitsWalker 34 = .ok (.if_icmp .lt 7, 3) := by decide +kernel
theorem dX4_fitsWalker_37 : decode cX4_fitsWalker 37 = .ok (.iconst 1, 1) := by decide +kernel
theorem dX4_fitsWalker_38 : decode cX4_fitsWalker 38 = .ok (.goto 4, 3) := by decide +kernel
theorem dX4_fitsWalker_41 : decode cX4_fitsWalker 41 = .ok (.iconst 0, 1) := by decide +kernel
theorem dX4_fitsWalker_42 : decode cX4_fitsWalker 42 = .ok (.ireturn, 1) := by decide +kernel
theorem dX4_fitsWalker_43 : decode cX4_fitsWalker 43 = .ok (.iload_n 1, 1) := by decide +kernel
theorem dX4_fitsWalker_44 : decode cX4_fitsWalker 44 = .ok (.iconst 4, 1) := by decide +kernel
theorem dX4_fitsWalker_45 : decode cX4_fitsWalker 45 = .ok (.if_icmp .ge 7, 3) := by decide +kernel
theorem dX4_fitsWalker_48 : decode cX4_fitsWalker 48 = .ok (.iconst 1, 1) := by decide +kernel
theorem dX4_fitsWalker_49 : decode cX4_fitsWalker 49 = .ok (.goto 4, 3) := by decide +kernel
theorem dX4_fitsWalker_52 : decode cX4_fitsWalker 52 = .ok (.iconst 0, 1) := by decide +kernel
theorem dX4_fitsWalker_53 : decode cX4_fitsWalker 53 = .ok (.ireturn, 1) := by decide +kernel
theorem dX4_fitsWalker_54 : decode cX4_fitsWalker 54 = .ok (.iload_n 1, 1) := by decide +kernel
theorem dX4_fitsWalker_55 : decode cX4_fitsWalker 55 = .ok (.aload_n 0, 1) := by decide +kernel
theorem dX4_fitsWalker_56 : decode cX4_fitsWalker 56 = .ok (.getfield 12, 3) := by decide +kernel
theorem dX4_fitsWalker_59 : decode cX4_fitsWalker 59 = .ok (.getfield 62, 3) := by decide +kernel
theorem dX4_fitsWalker_62 : decode cX4_fitsWalker 62 = .ok (.if_icmp .ge 7, 3) := by decide +kernel
theorem dX4_fitsWalker_65 : decode cX4_fitsWalker 65 = .ok (.iconst 1, 1) := by decide +kernel
theorem dX4_fitsWalker_66 : decode cX4_fitsWalker 66 = .ok (.goto 4, 3) := by decide +kernel
theorem dX4_fitsWalker_69 : decode cX4_fitsWalker 69 = .ok (.iconst 0, 1) := by decide +kernel
theorem dX4_fitsWalker_70 : decode cX4_fitsWalker 70 = .ok (.ireturn, 1) := by decide +kernel
set_option maxRecDepth 20000 in
theorem ggX4_addPart_X6_cell : GoodIn wsX4_addPart wsX6_cell := goodIn_r _ [6] (by decide +kernel) (by decide +kernel)
set_option maxRecDepth 20000 in
theorem gX4_addPart_X6_cell_n75 : GoodIn wsX4_addPart (wsX6_cell) := ggX4_addPart_X6_cell
set_option maxRecDepth 20000 in
theorem ggX4_addPart_X3_addJoint : GoodIn wsX4_addPart wsX3_addJoint := goodIn_r _ [11, 12, 13, 14, 15, 5, 16, 17, 18, 45, 46, 47, 48, 49, 50, 51, 52, 53, 54, 55, 56, 57] (by decide +kernel) (by decide +kernel)
set_option maxRecDepth 20000 in
theorem gX4_addPart_X3_addJoint : GoodIn wsX4_addPart (wsV RX4 86 RX3 yX3_addJoint wsX3_addJoint) := goodIn_app (goodIn_of _ (by decide +kernel)) ggX4_addPart_X3_addJoint
set_option maxRecDepth 20000 in
theorem ggX4_addPart_X3_addPipe : GoodIn wsX4_addPart wsX3_addPipe := goodIn_r _ [22, 23, 24, 25, 15, 5, 16, 45, 46, 47, 48, 49, 50, 51, 52, 53, 54, 55, 56, 57] (by decide +kernel) (by decide +kernel)
set_option maxRecDepth 20000 in
theorem gX4_addPart_X3_addPipe : GoodIn wsX4_addPart (wsV RX4 90 RX3 yX3_addPipe wsX3_addPipe) := goodIn_app (goodIn_of _ (by decide +kernel)) ggX4_addPart_X3_addPipe
set_option maxRecDepth 20000 in
theorem ggX4_addPart_X3_addWalker : GoodIn wsX4_addPart wsX3_addWalker := goodIn_r _ [29, 30, 31, 32, 33, 34, 4, 5, 6, 15, 16, 45, 46, 47, 48, 49, 50, 51, 52, 53, 54, 55, 56, 57] (by decide +kernel) (by decide +kernel)
set_option maxRecDepth 20000 in
theorem gX4_addPart_X3_addWalker : GoodIn wsX4_addPart (wsV RX4 93 RX3 yX3_addWalker wsX3_addWalker) := goodIn_app (goodIn_of _ (by decide +kernel)) ggX4_addPart_X3_addWalker
set_option maxRecDepth 20000 in
theorem ggX4_addPart_X3_setTides : GoodIn wsX4_addPart wsX3_setTides := goodIn_r _ [38, 39, 40, 45, 46, 47, 48, 49, 50, 51, 52, 53, 54, 55, 56, 57] (by decide +kernel) (by decide +kernel)
set_option maxRecDepth 20000 in
theorem gX4_addPart_X3_setTides : GoodIn wsX4_addPart (wsV RX4 97 RX3 yX3_setTides wsX3_setTides) := goodIn_app (goodIn_of _ (by decide +kernel)) ggX4_addPart_X3_setTides
theorem dX4_addPart_0 : decode cX4_addPart 0 = .ok (.aload_n 0, 1) := by decide +kernel
theorem dX4_addPart_1 : decode cX4_addPart 1 = .ok (.getfield 18, 3) := by decide +kernel
theorem dX4_addPart_4 : decode cX4_addPart 4 = .ok (.iconst 0, 1) := by decide +kernel
theorem dX4_addPart_5 : decode cX4_addPart 5 = .ok (.invokestatic 75, 3) := by decide +kernel
theorem dX4_addPart_8 : decode cX4_addPart 8 = .ok (.istore_n 1, 1) := by decide +kernel
theorem dX4_addPart_9 : decode cX4_addPart 9 = .ok (.aload_n 0, 1) := by decide +kernel
theorem dX4_addPart_10 : decode cX4_addPart 10 = .ok (.getfield 18, 3) := by decide +kernel
theorem dX4_addPart_13 : decode cX4_addPart 13 = .ok (.iconst 1, 1) := by decide +kernel
theorem dX4_addPart_14 : decode cX4_addPart 14 = .ok (.invokestatic 75, 3) := by decide +kernel
theorem dX4_addPart_17 : decode cX4_addPart 17 = .ok (.istore_n 2, 1) := by decide +kernel
theorem dX4_addPart_18 : decode cX4_addPart 18 = .ok (.aload_n 0, 1) := by decide +kernel
theorem dX4_addPart_19 : decode cX4_addPart 19 = .ok (.getfield 25, 3) := by decide +kernel
theorem dX4_addPart_22 : decode cX4_addPart 22 = .ok (.lookupswitch 72 #[(74, 34), (80, 46), (87, 58)], 34) := by decide +kernel
theorem dX4_addPart_56 : decode cX4_addPart 56 = .ok (.aload_n 0, 1) := by decide +kernel
theorem dX4_addPart_57 : decode cX4_addPart 57 = .ok (.getfield 12, 3) := by decide +kernel
theorem dX4_addPart_60 : decode cX4_addPart 60 = .ok (.iload_n 1, 1) := by decide +kernel
theorem dX4_addPart_61 : decode cX4_addPart 61 = .ok (.iload_n 2, 1) := by decide +kernel
theorem dX4_addPart_62 : decode cX4_addPart 62 = .ok (.invokevirtual 86, 3) := by decide +kernel
theorem dX4_addPart_65 : decode cX4_addPart 65 = .ok (.goto 38, 3) := by decide +kernel
theorem dX4_addPart_68 : decode cX4_addPart 68 = .ok (.aload_n 0, 1) := by decide +kernel
theorem dX4_addPart_69 : decode cX4_addPart 69 = .ok (.getfield 12, 3) := by decide +kernel
theorem dX4_addPart_72 : decode cX4_addPart 72 = .ok (.iload_n 1, 1) := by decide +kernel
theorem dX4_addPart_73 : decode cX4_addPart 73 = .ok (.iload_n 2, 1) := by decide +kernel
theorem dX4_addPart_74 : decode cX4_addPart 74 = .ok (.invokevirtual 90, 3) := by decide +kernel
theorem dX4_addPart_77 : decode cX4_addPart 77 = .ok (.goto 26, 3) := by decide +kernel
theorem dX4_addPart_80 : decode cX4_addPart 80 = .ok (.aload_n 0, 1) := by decide +kernel
theorem dX4_addPart_81 : decode cX4_addPart 81 = .ok (.getfield 12, 3) := by decide +kernel
theorem dX4_addPart_84 : decode cX4_addPart 84 = .ok (.aload_n 0, 1) := by decide +kernel
theorem dX4_addPart_85 : decode cX4_addPart 85 = .ok (.getfield 18, 3) := by decide +kernel
theorem dX4_addPart_88 : decode cX4_addPart 88 = .ok (.invokevirtual 93, 3) := by decide +kernel
theorem dX4_addPart_91 : decode cX4_addPart 91 = .ok (.goto 12, 3) := by decide +kernel

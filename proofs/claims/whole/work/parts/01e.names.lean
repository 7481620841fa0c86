theorem dX7_which_160 : decode cX7_which 160 = .ok (.iadd, 1) := by decide +kernel
theorem dX7_which_161 : decode cX7_which 161 = .ok (.istore_n 2, 1) := by decide +kernel
theorem dX7_which_162 : decode cX7_which 162 = .ok (.iinc 4 1, 3) := by decide +kernel
theorem dX7_which_165 : decode cX7_which 165 = .ok (.goto (-144), 3) := by decide +kernel
theorem dX7_which_168 : decode cX7_which 168 = .ok (.iload_n 1, 1) := by decide +kernel
theorem dX7_which_169 : decode cX7_which 169 = .ok (.ifCond .ne 7, 3) := by decide +kernel
theorem dX7_which_172 : decode cX7_which 172 = .ok (.iload_n 2, 1) := by decide +kernel
theorem dX7_which_173 : decode cX7_which 173 = .ok (.goto 4, 3) := by decide +kernel
theorem dX7_which_176 : decode cX7_which 176 = .ok (.iload_n 3, 1) := by decide +kernel
theorem dX7_which_177 : decode cX7_which 177 = .ok (.ireturn, 1) := by decide +kernel
theorem dX7_factorial_0 : decode cX7_factorial 0 = .ok (.iconst 1, 1) := by decide +kernel
theorem dX7_factorial_1 : decode cX7_factorial 1 = .ok (.istore_n 1, 1) := by decide +kernel
theorem dX7_factorial_2 : decode cX7_factorial 2 = .ok (.iconst 2, 1) := by decide +kernel
theorem dX7_factorial_3 : decode cX7_factorial 3 = .ok (.istore_n 2, 1) := by decide +kernel
theorem dX7_factorial_4 : decode cX7_factorial 4 = .ok (.iload_n 2, 1) := by decide +kernel
theorem dX7_factorial_5 : decode cX7_factorial 5 = .ok (.iload_n 0, 1) := by decide +kernel
theorem dX7_factorial_6 : decode cX7_factorial 6 = .ok (.if_icmp .gt 13, 3) := by decide +kernel
theorem dX7_factorial_9 : decode cX7_factorial 9 = .ok (.iload_n 1, 1) := by decide +kernel
theorem dX7_factorial_10 : decode cX7_factorial 10 = .ok (.iload_n 2, 1) := by decide +kernel
theorem dX7_factorial_11 : decode cX7_factorial 11 = .ok (.imul, 1) := by decide +kernel
theorem dX7_factorial_12 : decode cX7_factorial 12 = .ok (.istore_n 1, 1) := by decide +kernel
theorem dX7_factorial_13 : decode cX7_factorial 13 = .ok (.iinc 2 1, 3) := by decide +kernel
theorem dX7_factorial_16 : decode cX7_factorial 16 = .ok (.goto (-12), 3) := by decide +kernel
theorem dX7_factorial_19 : decode cX7_factorial 19 = .ok (.iload_n 1, 1) := by decide +kernel
theorem dX7_factorial_20 : decode cX7_factorial 20 = .ok (.ireturn, 1) := by decide +kernel
theorem dX7_common_0 : decode cX7_common 0 = .ok (.iload_n 0, 1) := by decide +kernel
theorem dX7_common_1 : decode cX7_common 1 = .ok (.ifCond .ge 8, 3) := by decide +kernel
theorem dX7_common_4 : decode cX7_common 4 = .ok (.iload_n 0, 1) := by decide +kernel
theorem dX7_common_5 : decode cX7_common 5 = .ok (.ineg, 1) := by decide +kernel
theorem dX7_common_6 : decode cX7_common 6 = .ok (.goto 4, 3) := by decide +kernel
theorem dX7_common_9 : decode cX7_common 9 = .ok (.iload_n 0, 1) := by decide +kernel
theorem dX7_common_10 : decode cX7_common 10 = .ok (.istore_n 2, 1) := by decide +kernel
theorem dX7_common_11 : decode cX7_common 11 = .ok (.iload_n 1, 1) := by decide +kernel
theorem dX7_common_12 : decode cX7_common 12 = .ok (.istore_n 3, 1) := by decide +kernel
theorem dX7_common_13 : decode cX7_common 13 = .ok (.iload_n 3, 1) := by decide +kernel
theorem dX7_common_14 : decode cX7_common 14 = .ok (.ifCond .eq 16, 3) := by decide +kernel
theorem dX7_common_17 : decode cX7_common 17 = .ok (.iload_n 2, 1) := by decide +kernel
theorem dX7_common_18 : decode cX7_common 18 = .ok (.iload_n 3, 1) := by decide +kernel
theorem dX7_common_19 : decode cX7_common 19 = .ok (.irem, 1) := by decide +kernel
theorem dX7_common_20 : decode cX7_common 20 = .ok (.istore 4, 2) := by decide +kernel
theorem dX7_common_22 : decode cX7_common 22 = .ok (.iload_n 3, 1) := by decide +kernel
theorem dX7_common_23 : decode cX7_common 23 = .ok (.istore_n 2, 1) := by decide +kernel
theorem dX7_common_24 : decode cX7_common 24 = .ok (.iload 4, 2) := by decide +kernel
theorem dX7_common_26 : decode cX7_common 26 = .ok (.istore_n 3, 1) := by decide +kernel
theorem dX7_common_27 : decode cX7_common 27 = .ok (.goto (-14), 3) := by decide +kernel
theorem dX7_common_30 : decode cX7_common 30 = .ok (.iload_n 2, 1) := by decide +kernel
theorem dX7_common_31 : decode cX7_common 31 = .ok (.ireturn, 1) := by decide +kernel
set_option maxRecDepth 20000 in
theorem ggX7_swornBy_X7_has : GoodIn wsX7_swornBy wsX7_has := goodIn_r _ [8] (by decide +kernel) (by decide +kernel)
set_option maxRecDepth 20000 in
theorem gX7_swornBy_X7_has : GoodIn wsX7_swornBy (va_wsS RX7 119 yX7_has wsX7_has) := goodIn_app (goodIn_of _ (by decide +kernel)) ggX7_swornBy_X7_has
set_option maxRecDepth 20000 in
theorem ggX7_swornBy_X7_worthsOf : GoodIn wsX7_swornBy wsX7_worthsOf := goodIn_r _ [12, 1, 13, 5, 6, 7, 8, 14, 15, 16, 17, 18, 19, 20, 21, 22, 23, 24, 25, 26, 27, 28, 29, 30, 31, 32, 33, 34, 35, 36, 37, 38, 39, 40, 41, 42, 43, 44] (by decide +kernel) (by decide +kernel)
set_option maxRecDepth 20000 in
theorem gX7_swornBy_X7_worthsOf : GoodIn wsX7_swornBy (wsV RX7 150 RX7 yX7_worthsOf wsX7_worthsOf) := goodIn_app (goodIn_of _ (by decide +kernel)) ggX7_swornBy_X7_worthsOf
theorem dX7_swornBy_0 : decode cX7_swornBy 0 = .ok (.iconst 0, 1) := by decide +kernel
theorem dX7_swornBy_1 : decode cX7_swornBy 1 = .ok (.istore_n 2, 1) := by decide +kernel
theorem dX7_swornBy_2 : decode cX7_swornBy 2 = .ok (.iconst 0, 1) := by decide +kernel
theorem dX7_swornBy_3 : decode cX7_swornBy 3 = .ok (.istore_n 3, 1) := by decide +kernel
theorem dX7_swornBy_4 : decode cX7_swornBy 4 = .ok (.iload_n 3, 1) := by decide +kernel
theorem dX7_swornBy_5 : decode cX7_swornBy 5 = .ok (.aload_n 0, 1) := by decide +kernel
theorem dX7_swornBy_6 : decode cX7_swornBy 6 = .ok (.getfield 111, 3) := by decide +kernel
theorem dX7_swornBy_9 : decode cX7_swornBy 9 = .ok (.if_icmp .ge 45, 3) := by decide +kernel
theorem dX7_swornBy_12 : decode cX7_swornBy 12 = .ok (.iload_n 2, 1) := by decide +kernel
theorem dX7_swornBy_13 : decode cX7_swornBy 13 = .ok (.iload_n 1, 1) := by decide +kernel
theorem dX7_swornBy_14 : decode cX7_swornBy 14 = .ok (.aload_n 0, 1) := by decide +kernel
theorem dX7_swornBy_15 : decode cX7_swornBy 15 = .ok (.getfield 19, 3) := by decide +kernel
theorem dX7_swornBy_18 : decode cX7_swornBy 18 = .ok (.iload_n 3, 1) := by decide +kernel
theorem dX7_swornBy_19 : decode cX7_swornBy 19 = .ok (.iaload, 1) := by decide +kernel
theorem dX7_swornBy_20 : decode cX7_swornBy 20 = .ok (.invokestatic 119, 3) := by decide +kernel
theorem dX7_swornBy_23 : decode cX7_swornBy 23 = .ok (.ifCond .eq 22, 3) := by decide +kernel
theorem dX7_swornBy_26 : decode cX7_swornBy 26 = .ok (.iload_n 1, 1) := by decide +kernel
theorem dX7_swornBy_27 : decode cX7_swornBy 27 = .ok (.aload_n 0, 1) := by decide +kernel
theorem dX7_swornBy_28 : decode cX7_swornBy 28 = .ok (.getfield 22, 3) := by decide +kernel
theorem dX7_swornBy_31 : decode cX7_swornBy 31 = .ok (.iload_n 3, 1) := by decide +kernel
theorem dX7_swornBy_32 : decode cX7_swornBy 32 = .ok (.iaload, 1) := by decide +kernel
theorem dX7_swornBy_33 : decode cX7_swornBy 33 = .ok (.invokestatic 119, 3) := by decide +kernel
theorem dX7_swornBy_36 : decode cX7_swornBy 36 = .ok (.ifCond .eq 9, 3) := by decide +kernel
theorem dX7_swornBy_39 : decode cX7_swornBy 39 = .ok (.iconst 1, 1) := by decide +kernel
theorem dX7_swornBy_40 : decode cX7_swornBy 40 = .ok (.iload_n 3, 1) := by decide +kernel
theorem dX7_swornBy_41 : decode cX7_swornBy 41 = .ok (.ishl, 1) := by decide +kernel
theorem dX7_swornBy_42 : decode cX7_swornBy 42 = .ok (.goto 4, 3) := by decide +kernel
theorem dX7_swornBy_45 : decode cX7_swornBy 45 = .ok (.iconst 0, 1) := by decide +kernel
theorem dX7_swornBy_46 : decode cX7_swornBy 46 = .ok (.ior, 1) := by decide +kernel
theorem dX7_swornBy_47 : decode cX7_swornBy 47 = .ok (.istore_n 2, 1) := by decide +kernel
theorem dX7_swornBy_48 : decode cX7_swornBy 48 = .ok (.iinc 3 1, 3) := by decide +kernel
theorem dX7_swornBy_51 : decode cX7_swornBy 51 = .ok (.goto (-47), 3) := by decide +kernel
theorem dX7_swornBy_54 : decode cX7_swornBy 54 = .ok (.aload_n 0, 1) := by decide +kernel
theorem dX7_swornBy_55 : decode cX7_swornBy 55 = .ok (.iload_n 2, 1) := by decide +kernel
theorem dX7_swornBy_56 : decode cX7_swornBy 56 = .ok (.aload_n 0, 1) := by decide +kernel
theorem dX7_swornBy_57 : decode cX7_swornBy 57 = .ok (.getfield 31, 3) := by decide +kernel
theorem dX7_swornBy_60 : decode cX7_swornBy 60 = .ok (.bipush 6, 2) := by decide +kernel
theorem dX7_swornBy_62 : decode cX7_swornBy 62 = .ok (.iaload, 1) := by decide +kernel
theorem dX7_swornBy_63 : decode cX7_swornBy 63 = .ok (.iand, 1) := by decide +kernel
theorem dX7_swornBy_64 : decode cX7_swornBy 64 = .ok (.invokevirtual 150, 3) := by decide +kernel
theorem dX7_swornBy_67 : decode cX7_swornBy 67 = .ok (.ireturn, 1) := by decide +kernel
set_option maxRecDepth 20000 in
theorem ggX7_share_X7_isPerson : GoodIn wsX7_share wsX7_isPerson := goodIn_r _ [6, 1, 7, 8, 5, 9, 35, 36, 37, 38, 39, 40, 41, 42, 43, 44, 45, 46, 47, 48, 49, 50, 51, 52, 53, 54, 55, 56, 57, 58, 59, 60, 61, 62, 63, 64, 65] (by decide +kernel) (by decide +kernel)
set_option maxRecDepth 20000 in
theorem gX7_share_X7_isPerson : GoodIn wsX7_share (wsV RX7 157 RX7 yX7_isPerson wsX7_isPerson) := goodIn_app (goodIn_of _ (by decide +kernel)) ggX7_share_X7_isPerson
set_option maxRecDepth 20000 in
theorem ggX7_share_X7_has : GoodIn wsX7_share wsX7_has := goodIn_r _ [12] (by decide +kernel) (by decide +kernel)
set_option maxRecDepth 20000 in
theorem gX7_share_X7_has : GoodIn wsX7_share (va_wsS RX7 119 yX7_has wsX7_has) := goodIn_app (goodIn_of _ (by decide +kernel)) ggX7_share_X7_has
set_option maxRecDepth 20000 in
theorem ggX7_share_X7_ones : GoodIn wsX7_share wsX7_ones := goodIn_r _ [15] (by decide +kernel) (by decide +kernel)
set_option maxRecDepth 20000 in
theorem gX7_share_X7_ones : GoodIn wsX7_share (va_wsS RX7 137 yX7_ones wsX7_ones) := goodIn_app (goodIn_of _ (by decide +kernel)) ggX7_share_X7_ones
set_option maxRecDepth 20000 in
theorem ggX7_share_X7_factorial : GoodIn wsX7_share wsX7_factorial := goodIn_r _ [18] (by decide +kernel) (by decide +kernel)
set_option maxRecDepth 20000 in
theorem gX7_share_X7_factorial : GoodIn wsX7_share (va_wsS RX7 211 yX7_factorial wsX7_factorial) := goodIn_app (goodIn_of _ (by decide +kernel)) ggX7_share_X7_factorial
set_option maxRecDepth 20000 in
theorem ggX7_share_X7_swornBy : GoodIn wsX7_share wsX7_swornBy := goodIn_r _ [22, 23, 24, 25, 26, 10, 11, 5, 12, 27, 28, 29, 30, 31, 35, 36, 37, 38, 39, 40, 41, 42, 43, 44, 45, 46, 47, 48, 49, 50, 51, 52, 53, 54, 55, 56, 57, 58, 59, 60, 61, 62, 63, 64, 65] (by decide +kernel) (by decide +kernel)
set_option maxRecDepth 20000 in
theorem gX7_share_X7_swornBy : GoodIn wsX7_share (wsV RX7 214 RX7 yX7_swornBy wsX7_swornBy) := goodIn_app (goodIn_of _ (by decide +kernel)) ggX7_share_X7_swornBy
set_option maxRecDepth 20000 in
theorem ggX7_share_X7_common : GoodIn wsX7_share wsX7_common := goodIn_r _ [34] (by decide +kernel) (by decide +kernel)
set_option maxRecDepth 20000 in
theorem gX7_share_X7_common : GoodIn wsX7_share (va_wsS RX7 217 yX7_common wsX7_common) := goodIn_app (goodIn_of _ (by decide +kernel)) ggX7_share_X7_common
theorem dX7_share_0 : decode cX7_share 0 = .ok (.aload_n 0, 1) := by decide +kernel
theorem dX7_share_1 : decode cX7_share 1 = .ok (.iload_n 1, 1) := by decide +kernel
theorem dX7_share_2 : decode cX7_share 2 = .ok (.invokevirtual 157, 3) := by decide +kernel
theorem dX7_share_5 : decode cX7_share 5 = .ok (.ifCond .ne 5, 3) := by decide +kernel
theorem dX7_share_8 : decode cX7_share 8 = .ok (.iconst (-1), 1) := by decide +kernel
theorem dX7_share_9 : decode cX7_share 9 = .ok (.ireturn, 1) := by decide +kernel
theorem dX7_share_10 : decode cX7_share 10 = .ok (.iconst 0, 1) := by decide +kernel
theorem dX7_share_11 : decode cX7_share 11 = .ok (.istore_n 3, 1) := by decide +kernel
theorem dX7_share_12 : decode cX7_share 12 = .ok (.iconst 0, 1) := by decide +kernel
theorem dX7_share_13 : decode cX7_share 13 = .ok (.istore 4, 2) := by decide +kernel
theorem dX7_share_15 : decode cX7_share 15 = .ok (.iload 4, 2) := by decide +kernel
theorem dX7_share_17 : decode cX7_share 17 = .ok (.iconst 1, 1) := by decide +kernel
theorem dX7_share_18 : decode cX7_share 18 = .ok (.aload_n 0, 1) := by decide +kernel
theorem dX7_share_19 : decode cX7_share 19 = .ok (.getfield 105, 3) := by decide +kernel
theorem dX7_share_22 : decode cX7_share 22 = .ok (.ishl, 1) := by decide +kernel
theorem dX7_share_23 : decode cX7_share 23 = .ok (.if_icmp .ge 67, 3) := by decide +kernel
theorem dX7_share_26 : decode cX7_share 26 = .ok (.iload 4, 2) := by decide +kernel
theorem dX7_share_28 : decode cX7_share 28 = .ok (.iload_n 1, 1) := by decide +kernel
theorem dX7_share_29 : decode cX7_share 29 = .ok (.invokestatic 119, 3) := by decide +kernel
theorem dX7_share_32 : decode cX7_share 32 = .ok (.ifCond .ne 52, 3) := by decide +kernel
theorem dX7_share_35 : decode cX7_share 35 = .ok (.iload 4, 2) := by decide +kernel
theorem dX7_share_37 : decode cX7_share 37 = .ok (.invokestatic 137, 3) := by decide +kernel
theorem dX7_share_40 : decode cX7_share 40 = .ok (.invokestatic 211, 3) := by decide +kernel
theorem dX7_share_43 : decode cX7_share 43 = .ok (.aload_n 0, 1) := by decide +kernel
theorem dX7_share_44 : decode cX7_share 44 = .ok (.getfield 105, 3) := by decide +kernel
theorem dX7_share_47 : decode cX7_share 47 = .ok (.iconst 1, 1) := by decide +kernel
theorem dX7_share_48 : decode cX7_share 48 = .ok (.isub, 1) := by decide +kernel
theorem dX7_share_49 : decode cX7_share 49 = .ok (.iload 4, 2) := by decide +kernel
theorem dX7_share_51 : decode cX7_share 51 = .ok (.invokestatic 137, 3) := by decide +kernel
theorem dX7_share_54 : decode cX7_share 54 = .ok (.isub, 1) := by decide +kernel
theorem dX7_share_55 : decode cX7_share 55 = .ok (.invokestatic 211, 3) := by decide +kernel
theorem dX7_share_58 : decode cX7_share 58 = .ok (.imul, 1) := by decide +kernel
theorem dX7_share_59 : decode cX7_share 59 = .ok (.istore 5, 2) := by decide +kernel
theorem dX7_share_61 : decode cX7_share 61 = .ok (.iload_n 3, 1) := by decide +kernel
theorem dX7_share_62 : decode cX7_share 62 = .ok (.iload 5, 2) := by decide +kernel
theorem dX7_share_64 : decode cX7_share 64 = .ok (.aload_n 0, 1) := by decide +kernel
theorem dX7_share_65 : decode cX7_share 65 = .ok (.iload 4, 2) := by decide +kernel
theorem dX7_share_67 : decode cX7_share 67 = .ok (.iconst 1, 1) := by decide +kernel
theorem dX7_share_68 : decode cX7_share 68 = .ok (.iload_n 1, 1) := by decide +kernel
theorem dX7_share_69 : decode cX7_share 69 = .ok (.ishl, 1) := by decide +kernel
theorem dX7_share_70 : decode cX7_share 70 = .ok (.ior, 1) := by decide +kernel
theorem dX7_share_71 : decode cX7_share 71 = .ok (.invokevirtual 214, 3) := by decide +kernel
theorem dX7_share_74 : decode cX7_share 74 = .ok (.aload_n 0, 1) := by decide +kernel
theorem dX7_share_75 : decode cX7_share 75 = .ok (.iload 4, 2) := by decide +kernel
theorem dX7_share_77 : decode cX7_share 77 = .ok (.invokevirtual 214, 3) := by decide +kernel
theorem dX7_share_80 : decode cX7_share 80 = .ok (.isub, 1) := by decide +kernel
theorem dX7_share_81 : decode cX7_share 81 = .ok (.imul, 1) := by decide +kernel
theorem dX7_share_82 : decode cX7_share 82 = .ok (.iadd, 1) := by decide +kernel
theorem dX7_share_83 : decode cX7_share 83 = .ok (.istore_n 3, 1) := by decide +kernel
theorem dX7_share_84 : decode cX7_share 84 = .ok (.iinc 4 1, 3) := by decide +kernel
theorem dX7_share_87 : decode cX7_share 87 = .ok (.goto (-72), 3) := by decide +kernel
theorem dX7_share_90 : decode cX7_share 90 = .ok (.iload_n 3, 1) := by decide +kernel
theorem dX7_share_91 : decode cX7_share 91 = .ok (.aload_n 0, 1) := by decide +kernel
theorem dX7_share_92 : decode cX7_share 92 = .ok (.getfield 105, 3) := by decide +kernel
theorem dX7_share_95 : decode cX7_share 95 = .ok (.invokestatic 211, 3) := by decide +kernel
theorem dX7_share_98 : decode cX7_share 98 = .ok (.invokestatic 217, 3) := by decide +kernel
theorem dX7_share_101 : decode cX7_share 101 = .ok (.istore 4, 2) := by decide +kernel
theorem dX7_share_103 : decode cX7_share 103 = .ok (.iload_n 2, 1) := by decide +kernel
theorem dX7_share_104 : decode cX7_share 104 = .ok (.ifCond .eq 10, 3) := by decide +kernel
theorem dX7_share_107 : decode cX7_share 107 = .ok (.iload_n 3, 1) := by decide +kernel
theorem dX7_share_108 : decode cX7_share 108 = .ok (.iload 4, 2) := by decide +kernel
theorem dX7_share_110 : decode cX7_share 110 = .ok (.idiv, 1) := by decide +kernel
theorem dX7_share_111 : decode cX7_share 111 = .ok (.goto 13, 3) := by decide +kernel
theorem dX7_share_114 : decode cX7_share 114 = .ok (.aload_n 0, 1) := by decide +kernel
theorem dX7_share_115 : decode cX7_share 115 = .ok (.getfield 105, 3) := by decide +kernel
theorem dX7_share_118 : decode cX7_share 118 = .ok (.invokestatic 211, 3) := by decide +kernel
theorem dX7_share_121 : decode cX7_share 121 = .ok (.iload 4, 2) := by decide +kernel
theorem dX7_share_123 : decode cX7_share 123 = .ok (.idiv, 1) := by decide +kernel
theorem dX7_share_124 : decode cX7_share 124 = .ok (.ireturn, 1) := by decide +kernel
theorem dX7_choose_0 : decode cX7_choose 0 = .ok (.iload_n 2, 1) := by decide +kernel
theorem dX7_choose_1 : decode cX7_choose 1 = .ok (.iconst 1, 1) := by decide +kernel
theorem dX7_choose_2 : decode cX7_choose 2 = .ok (.if_icmp .eq 13, 3) := by decide +kernel
theorem dX7_choose_5 : decode cX7_choose 5 = .ok (.aload_n 0, 1) := by decide +kernel
theorem dX7_choose_6 : decode cX7_choose 6 = .ok (.getfield 7, 3) := by decide +kernel
theorem dX7_choose_9 : decode cX7_choose 9 = .ok (.iload_n 1, 1) := by decide +kernel
theorem dX7_choose_10 : decode cX7_choose 10 = .ok (.iaload, 1) := by decide +kernel
theorem dX7_choose_11 : decode cX7_choose 11 = .ok (.iconst 1, 1) := by decide +kernel
theorem dX7_choose_12 : decode cX7_choose 12 = .ok (.if_icmp .ne 7, 3) := by decide +kernel
theorem dX7_choose_15 : decode cX7_choose 15 = .ok (.iconst 1, 1) := by decide +kernel
theorem dX7_choose_16 : decode cX7_choose 16 = .ok (.goto 4, 3) := by decide +kernel
theorem dX7_choose_19 : decode cX7_choose 19 = .ok (.iconst 0, 1) := by decide +kernel
theorem dX7_choose_20 : decode cX7_choose 20 = .ok (.istore_n 3, 1) := by decide +kernel
theorem dX7_choose_21 : decode cX7_choose 21 = .ok (.aload_n 0, 1) := by decide +kernel
theorem dX7_choose_22 : decode cX7_choose 22 = .ok (.getfield 31, 3) := by decide +kernel
theorem dX7_choose_25 : decode cX7_choose 25 = .ok (.bipush 14, 2) := by decide +kernel
theorem dX7_choose_27 : decode cX7_choose 27 = .ok (.iload_n 3, 1) := by decide +kernel
theorem dX7_choose_28 : decode cX7_choose 28 = .ok (.ifCond .eq 17, 3) := by decide +kernel
theorem dX7_choose_31 : decode cX7_choose 31 = .ok (.aload_n 0, 1) := by decide +kernel
theorem dX7_choose_32 : decode cX7_choose 32 = .ok (.getfield 31, 3) := by decide +kernel
theorem dX7_choose_35 : decode cX7_choose 35 = .ok (.bipush 14, 2) := by decide +kernel
theorem dX7_choose_37 : decode cX7_choose 37 = .ok (.iaload, 1) := by decide +kernel
theorem dX7_choose_38 : decode cX7_choose 38 = .ok (.iconst 1, 1) := by decide +kernel
theorem dX7_choose_39 : decode cX7_choose 39 = .ok (.iload_n 1, 1) := by decide +kernel
theorem dX7_choose_40 : decode cX7_choose 40 = .ok (.ishl, 1) := by decide +kernel
theorem dX7_choose_41 : decode cX7_choose 41 = .ok (.ior, 1) := by decide +kernel
theorem dX7_choose_42 : decode cX7_choose 42 = .ok (.goto 16, 3) := by decide +kernel
theorem dX7_choose_45 : decode cX7_choose 45 = .ok (.aload_n 0, 1) := by decide +kernel
theorem dX7_choose_46 : decode cX7_choose 46 = .ok (.getfield 31, 3) := by decide +kernel
theorem dX7_choose_49 : decode cX7_choose 49 = .ok (.bipush 14, 2) := by decide +kernel
theorem dX7_choose_51 : decode cX7_choose 51 = .ok (.iaload, 1) := by decide +kernel
theorem dX7_choose_52 : decode cX7_choose 52 = .ok (.iconst 1, 1) := by decide +kernel
theorem dX7_choose_53 : decode cX7_choose 53 = .ok (.iload_n 1, 1) := by decide +kernel
theorem dX7_choose_54 : decode cX7_choose 54 = .ok (.ishl, 1) := by decide +kernel
theorem dX7_choose_55 : decode cX7_choose 55 = .ok (.iconst (-1), 1) := by decide +kernel
theorem dX7_choose_56 : decode cX7_choose 56 = .ok (.ixor, 1) := by decide +kernel
theorem dX7_choose_57 : decode cX7_choose 57 = .ok (.iand, 1) := by decide +kernel
theorem dX7_choose_58 : decode cX7_choose 58 = .ok (.iastore, 1) := by decide +kernel
theorem dX7_choose_59 : decode cX7_choose 59 = .ok (.return_, 1) := by decide +kernel
set_option maxRecDepth 20000 in
theorem ggX7_gain_X7_layTrial : GoodIn wsX7_gain wsX7_layTrial := goodIn_r _ [6, 1, 66, 67, 68, 69, 70, 71, 72, 73, 74, 75, 76, 77, 78, 79, 80, 81, 82, 83, 84, 85, 86, 87, 88, 89, 90, 91, 92, 93, 94, 95, 96] (by decide +kernel) (by decide +kernel)
set_option maxRecDepth 20000 in
theorem gX7_gain_X7_layTrial : GoodIn wsX7_gain (wsV RX7 190 RX7 yX7_layTrial wsX7_layTrial) := goodIn_app (goodIn_of _ (by decide +kernel)) ggX7_gain_X7_layTrial
set_option maxRecDepth 20000 in
theorem ggX7_gain_X7_choose : GoodIn wsX7_gain wsX7_choose := goodIn_r _ [10, 11, 1, 66, 67, 68, 69, 70, 71, 72, 73, 74, 75, 76, 77, 78, 79, 80, 81, 82, 83, 84, 85, 86, 87, 88, 89, 90, 91, 92, 93, 94, 95, 96] (by decide +kernel) (by decide +kernel)
set_option maxRecDepth 20000 in
theorem gX7_gain_X7_choose : GoodIn wsX7_gain (wsV RX7 220 RX7 yX7_choose wsX7_choose) := goodIn_app (goodIn_of _ (by decide +kernel)) ggX7_gain_X7_choose
set_option maxRecDepth 20000 in
theorem ggX7_gain_X7_passOn : GoodIn wsX7_gain wsX7_passOn := goodIn_r _ [15, 1, 16, 17, 18, 5, 19, 20, 21, 22, 23, 24, 25, 26, 27, 28, 29, 30, 31, 32, 33, 11, 34, 35, 36, 37, 38, 39, 40, 41, 42, 43, 44, 45, 46, 47, 48, 49, 50, 51, 52, 53, 54, 55, 56, 57, 58, 59, 60, 61, 66, 67, 68, 69, 70, 71, 72, 73, 74, 75, 76, 77, 78, 79, 80, 81, 82, 83, 84, 85, 86, 87, 88, 89, 90, 91, 92, 93, 94, 95, 96] (by decide +kernel) (by decide +kernel)
set_option maxRecDepth 20000 in
theorem gX7_gain_X7_passOn : GoodIn wsX7_gain (wsV RX7 172 RX7 yX7_passOn wsX7_passOn) := goodIn_app (goodIn_of _ (by decide +kernel)) ggX7_gain_X7_passOn
set_option maxRecDepth 20000 in
theorem ggX7_gain_X7_oathsOf : GoodIn wsX7_gain wsX7_oathsOf := goodIn_r _ [65, 31, 32, 33, 66, 67, 68, 69, 70, 71, 72, 73, 74, 75, 76, 77, 78, 79, 80, 81, 82, 83, 84, 85, 86, 87, 88, 89, 90, 91, 92, 93, 94, 95, 96] (by decide +kernel) (by decide +kernel)
set_option maxRecDepth 20000 in
theorem gX7_gain_X7_oathsOf : GoodIn wsX7_gain (wsV RX7 160 RX7 yX7_oathsOf wsX7_oathsOf) := goodIn_app (goodIn_of _ (by decide +kernel)) ggX7_gain_X7_oathsOf
set_option maxRecDepth 20000 in
theorem ggX7_gain_X7_worthsOf : GoodIn wsX7_gain wsX7_worthsOf := goodIn_r _ [60, 31, 61, 43, 44, 5, 45, 66, 67, 68, 69, 70, 71, 72, 73, 74, 75, 76, 77, 78, 79, 80, 81, 82, 83, 84, 85, 86, 87, 88, 89, 90, 91, 92, 93, 94, 95, 96] (by decide +kernel) (by decide +kernel)
set_option maxRecDepth 20000 in
theorem gX7_gain_X7_worthsOf : GoodIn wsX7_gain (wsV RX7 150 RX7 yX7_worthsOf wsX7_worthsOf) := goodIn_app (goodIn_of _ (by decide +kernel)) ggX7_gain_X7_worthsOf
theorem dX7_gain_0 : decode cX7_gain 0 = .ok (.aload_n 0, 1) := by decide +kernel
theorem dX7_gain_1 : decode cX7_gain 1 = .ok (.invokevirtual 190, 3) := by decide +kernel
theorem dX7_gain_4 : decode cX7_gain 4 = .ok (.aload_n 0, 1) := by decide +kernel
theorem dX7_gain_5 : decode cX7_gain 5 = .ok (.iload_n 1, 1) := by decide +kernel
theorem dX7_gain_6 : decode cX7_gain 6 = .ok (.iload_n 3, 1) := by decide +kernel
theorem dX7_gain_7 : decode cX7_gain 7 = .ok (.invokevirtual 220, 3) := by decide +kernel
theorem dX7_gain_10 : decode cX7_gain 10 = .ok (.aload_n 0, 1) := by decide +kernel
theorem dX7_gain_11 : decode cX7_gain 11 = .ok (.iload_n 2, 1) := by decide +kernel
theorem dX7_gain_12 : decode cX7_gain 12 = .ok (.iload 4, 2) := by decide +kernel
theorem dX7_gain_14 : decode cX7_gain 14 = .ok (.invokevirtual 220, 3) := by decide +kernel
theorem dX7_gain_17 : decode cX7_gain 17 = .ok (.aload_n 0, 1) := by decide +kernel
theorem dX7_gain_18 : decode cX7_gain 18 = .ok (.iconst 1, 1) := by decide +kernel
theorem dX7_gain_19 : decode cX7_gain 19 = .ok (.iconst 1, 1) := by decide +kernel
theorem dX7_gain_20 : decode cX7_gain 20 = .ok (.invokevirtual 172, 3) := by decide +kernel
theorem dX7_gain_23 : decode cX7_gain 23 = .ok (.pop, 1) := by decide +kernel
theorem dX7_gain_24 : decode cX7_gain 24 = .ok (.aload_n 0, 1) := by decide +kernel
theorem dX7_gain_25 : decode cX7_gain 25 = .ok (.aload_n 0, 1) := by decide +kernel
theorem dX7_gain_26 : decode cX7_gain 26 = .ok (.iload_n 1, 1) := by decide +kernel
theorem dX7_gain_27 : decode cX7_gain 27 = .ok (.invokevirtual 160, 3) := by decide +kernel
theorem dX7_gain_30 : decode cX7_gain 30 = .ok (.aload_n 0, 1) := by decide +kernel
theorem dX7_gain_31 : decode cX7_gain 31 = .ok (.getfield 31, 3) := by decide +kernel
theorem dX7_gain_34 : decode cX7_gain 34 = .ok (.bipush 15, 2) := by decide +kernel
theorem dX7_gain_36 : decode cX7_gain 36 = .ok (.iaload, 1) := by decide +kernel
theorem dX7_gain_37 : decode cX7_gain 37 = .ok (.iand, 1) := by decide +kernel
theorem dX7_gain_38 : decode cX7_gain 38 = .ok (.invokevirtual 150, 3) := by decide +kernel
theorem dX7_gain_41 : decode cX7_gain 41 = .ok (.iload_n 3, 1) := by decide +kernel
theorem dX7_gain_42 : decode cX7_gain 42 = .ok (.isub, 1) := by decide +kernel
theorem dX7_gain_43 : decode cX7_gain 43 = .ok (.ireturn, 1) := by decide +kernel
set_option maxRecDepth 20000 in
theorem ggX7_isRest_X7_gain : GoodIn wsX7_isRest wsX7_gain := goodIn_r _ [5, 6, 7, 8, 9, 4, 10, 11, 12, 13, 14, 15, 16, 17, 18, 19, 20, 21, 22, 23, 24, 25, 26, 27, 28, 29, 30, 31, 32, 33, 34, 35, 36, 37, 38, 39, 40, 41, 42, 43, 44, 45, 46, 47, 48, 49, 50, 51, 52, 53, 54, 55, 56, 57, 58, 59, 60, 61, 62, 63, 64, 65, 66, 67, 68, 69, 70, 71, 72, 73, 74, 75, 76, 77, 78, 79, 80, 81, 82, 83, 84, 85, 86, 87, 88, 89, 90, 91, 92, 93, 94, 95, 96, 97, 98, 99, 100] (by decide +kernel) (by decide +kernel)
set_option maxRecDepth 20000 in
theorem gX7_isRest_X7_gain : GoodIn wsX7_isRest (wsV RX7 224 RX7 yX7_gain wsX7_gain) := goodIn_app (goodIn_of _ (by decide +kernel)) ggX7_isRest_X7_gain
theorem dX7_isRest_0 : decode cX7_isRest 0 = .ok (.aload_n 0, 1) := by decide +kernel
theorem dX7_isRest_1 : decode cX7_isRest 1 = .ok (.iload_n 1, 1) := by decide +kernel
theorem dX7_isRest_2 : decode cX7_isRest 2 = .ok (.iload_n 2, 1) := by decide +kernel
theorem dX7_isRest_3 : decode cX7_isRest 3 = .ok (.iconst 1, 1) := by decide +kernel
theorem dX7_isRest_4 : decode cX7_isRest 4 = .ok (.iload_n 3, 1) := by decide +kernel
theorem dX7_isRest_5 : decode cX7_isRest 5 = .ok (.isub, 1) := by decide +kernel
theorem dX7_isRest_6 : decode cX7_isRest 6 = .ok (.iload 4, 2) := by decide +kernel
theorem dX7_isRest_8 : decode cX7_isRest 8 = .ok (.invokevirtual 224, 3) := by decide +kernel
theorem dX7_isRest_11 : decode cX7_isRest 11 = .ok (.aload_n 0, 1) := by decide +kernel
theorem dX7_isRest_12 : decode cX7_isRest 12 = .ok (.iload_n 1, 1) := by decide +kernel
theorem dX7_isRest_13 : decode cX7_isRest 13 = .ok (.iload_n 2, 1) := by decide +kernel
theorem dX7_isRest_14 : decode cX7_isRest 14 = .ok (.iload_n 3, 1) := by decide +kernel
theorem dX7_isRest_15 : decode cX7_isRest 15 = .ok (.iload 4, 2) := by decide +kernel
theorem dX7_isRest_17 : decode cX7_isRest 17 = .ok (.invokevirtual 224, 3) := by decide +kernel
theorem dX7_isRest_20 : decode cX7_isRest 20 = .ok (.if_icmp .gt 30, 3) := by decide +kernel
theorem dX7_isRest_23 : decode cX7_isRest 23 = .ok (.aload_n 0, 1) := by decide +kernel
theorem dX7_isRest_24 : decode cX7_isRest 24 = .ok (.iload_n 2, 1) := by decide +kernel
theorem dX7_isRest_25 : decode cX7_isRest 25 = .ok (.iload_n 1, 1) := by decide +kernel
theorem dX7_isRest_26 : decode cX7_isRest 26 = .ok (.iconst 1, 1) := by decide +kernel
theorem dX7_isRest_27 : decode cX7_isRest 27 = .ok (.iload 4, 2) := by decide +kernel
theorem dX7_isRest_29 : decode cX7_isRest 29 = .ok (.isub, 1) := by decide +kernel
theorem dX7_isRest_30 : decode cX7_isRest 30 = .ok (.iload_n 3, 1) := by decide +kernel
theorem dX7_isRest_31 : decode cX7_isRest 31 = .ok (.invokevirtual 224, 3) := by decide +kernel
theorem dX7_isRest_34 : decode cX7_isRest 34 = .ok (.aload_n 0, 1) := by decide +kernel
theorem dX7_isRest_35 : decode cX7_isRest 35 = .ok (.iload_n 2, 1) := by decide +kernel
theorem dX7_isRest_36 : decode cX7_isRest 36 = .ok (.iload_n 1, 1) := by decide +kernel
theorem dX7_isRest_37 : decode cX7_isRest 37 = .ok (.iload 4, 2) := by decide +kernel
theorem dX7_isRest_39 : decode cX7_isRest 39 = .ok (.iload_n 3, 1) := by decide +kernel
theorem dX7_isRest_40 : decode cX7_isRest 40 = .ok (.invokevirtual 224, 3) := by decide +kernel
theorem dX7_isRest_43 : decode cX7_isRest 43 = .ok (.if_icmp .gt 7, 3) := by decide +kernel
theorem dX7_isRest_46 : decode cX7_isRest 46 = .ok (.iconst 1, 1) := by decide +kernel
theorem dX7_isRest_47 : decode cX7_isRest 47 = .ok (.goto 4, 3) := by decide +kernel
theorem dX7_isRest_50 : decode cX7_isRest 50 = .ok (.iconst 0, 1) := by decide +kernel
theorem dX7_isRest_51 : decode cX7_isRest 51 = .ok (.ireturn, 1) := by decide +kernel
set_option maxRecDepth 20000 in
theorem ggX7_rests_X7_isPerson : GoodIn wsX7_rests wsX7_isPerson := goodIn_r _ [6, 7, 8, 9, 5, 10, 81, 82, 83, 84, 85, 86, 87, 88, 89, 90, 91, 92, 93, 94, 95, 96, 97, 98, 99, 100, 101, 102, 103, 104, 105, 106, 107, 108, 109, 110, 111] (by decide +kernel) (by decide +kernel)
set_option maxRecDepth 20000 in
theorem gX7_rests_X7_isPerson : GoodIn wsX7_rests (wsV RX7 157 RX7 yX7_isPerson wsX7_isPerson) := goodIn_app (goodIn_of _ (by decide +kernel)) ggX7_rests_X7_isPerson
set_option maxRecDepth 20000 in
theorem ggX7_rests_X7_in : GoodIn wsX7_rests wsX7_in := goodIn_r _ [10] (by decide +kernel) (by decide +kernel)
set_option maxRecDepth 20000 in
theorem gX7_rests_X7_in : GoodIn wsX7_rests (va_wsS RX7 67 yX7_in wsX7_in) := goodIn_app (goodIn_of _ (by decide +kernel)) ggX7_rests_X7_in
set_option maxRecDepth 20000 in
theorem ggX7_rests_X7_isRest : GoodIn wsX7_rests wsX7_isRest := goodIn_r _ [14, 15, 16, 17, 5, 18, 19, 20, 21, 22, 23, 24, 25, 26, 27, 1, 28, 29, 30, 31, 32, 33, 34, 35, 36, 37, 38, 39, 40, 41, 42, 43, 44, 45, 46, 47, 48, 49, 50, 51, 52, 53, 7, 54, 55, 56, 57, 58, 59, 60, 61, 62, 63, 64, 65, 66, 67, 68, 69, 70, 71, 72, 73, 74, 75, 76, 77, 78, 79, 80, 81, 82, 83, 84, 85, 86, 87, 88, 89, 90, 91, 92, 93, 94, 95, 96, 97, 98, 99, 100, 101, 102, 103, 104, 105, 106, 107, 108, 109, 110, 111] (by decide +kernel) (by decide +kernel)
set_option maxRecDepth 20000 in
theorem gX7_rests_X7_isRest : GoodIn wsX7_rests (wsV RX7 228 RX7 yX7_isRest wsX7_isRest) := goodIn_app (goodIn_of _ (by decide +kernel)) ggX7_rests_X7_isRest
theorem dX7_rests_0 : decode cX7_rests 0 = .ok (.aload_n 0, 1) := by decide +kernel
theorem dX7_rests_1 : decode cX7_rests 1 = .ok (.iload_n 1, 1) := by decide +kernel
theorem dX7_rests_2 : decode cX7_rests 2 = .ok (.invokevirtual 157, 3) := by decide +kernel
theorem dX7_rests_5 : decode cX7_rests 5 = .ok (.ifCond .eq 11, 3) := by decide +kernel
theorem dX7_rests_8 : decode cX7_rests 8 = .ok (.aload_n 0, 1) := by decide +kernel
theorem dX7_rests_9 : decode cX7_rests 9 = .ok (.iload_n 2, 1) := by decide +kernel
theorem dX7_rests_10 : decode cX7_rests 10 = .ok (.invokevirtual 157, 3) := by decide +kernel
theorem dX7_rests_13 : decode cX7_rests 13 = .ok (.ifCond .ne 5, 3) := by decide +kernel
theorem dX7_rests_16 : decode cX7_rests 16 = .ok (.iconst (-1), 1) := by decide +kernel
theorem dX7_rests_17 : decode cX7_rests 17 = .ok (.ireturn, 1) := by decide +kernel
theorem dX7_rests_18 : decode cX7_rests 18 = .ok (.iload_n 1, 1) := by decide +kernel
theorem dX7_rests_19 : decode cX7_rests 19 = .ok (.iload_n 2, 1) := by decide +kernel
theorem dX7_rests_20 : decode cX7_rests 20 = .ok (.if_icmp .eq 13, 3) := by decide +kernel
theorem dX7_rests_23 : decode cX7_rests 23 = .ok (.iload_n 3, 1) := by decide +kernel
theorem dX7_rests_24 : decode cX7_rests 24 = .ok (.i2l, 1) := by decide +kernel
theorem dX7_rests_25 : decode cX7_rests 25 = .ok (.lconst 0, 1) := by decide +kernel
theorem dX7_rests_26 : decode cX7_rests 26 = .ok (.lconst 1, 1) := by decide +kernel
theorem dX7_rests_27 : decode cX7_rests 27 = .ok (.invokestatic 67, 3) := by decide +kernel
theorem dX7_rests_30 : decode cX7_rests 30 = .ok (.ifCond .ne 6, 3) := by decide +kernel
theorem dX7_rests_33 : decode cX7_rests 33 = .ok (.bipush (-2), 2) := by decide +kernel
theorem dX7_rests_35 : decode cX7_rests 35 = .ok (.ireturn, 1) := by decide +kernel
theorem dX7_rests_36 : decode cX7_rests 36 = .ok (.aload_n 0, 1) := by decide +kernel
theorem dX7_rests_37 : decode cX7_rests 37 = .ok (.getfield 7, 3) := by decide +kernel
theorem dX7_rests_40 : decode cX7_rests 40 = .ok (.iload_n 1, 1) := by decide +kernel
theorem dX7_rests_41 : decode cX7_rests 41 = .ok (.iaload, 1) := by decide +kernel
theorem dX7_rests_42 : decode cX7_rests 42 = .ok (.iconst 2, 1) := by decide +kernel
theorem dX7_rests_43 : decode cX7_rests 43 = .ok (.if_icmp .eq 13, 3) := by decide +kernel
theorem dX7_rests_46 : decode cX7_rests 46 = .ok (.aload_n 0, 1) := by decide +kernel
theorem dX7_rests_47 : decode cX7_rests 47 = .ok (.getfield 7, 3) := by decide +kernel
theorem dX7_rests_50 : decode cX7_rests 50 = .ok (.iload_n 2, 1) := by decide +kernel
theorem dX7_rests_51 : decode cX7_rests 51 = .ok (.iaload, 1) := by decide +kernel
theorem dX7_rests_52 : decode cX7_rests 52 = .ok (.iconst 2, 1) := by decide +kernel
theorem dX7_rests_53 : decode cX7_rests 53 = .ok (.if_icmp .ne 6, 3) := by decide +kernel
theorem dX7_rests_56 : decode cX7_rests 56 = .ok (.bipush (-3), 2) := by decide +kernel
theorem dX7_rests_58 : decode cX7_rests 58 = .ok (.ireturn, 1) := by decide +kernel
theorem dX7_rests_59 : decode cX7_rests 59 = .ok (.iconst 0, 1) := by decide +kernel
theorem dX7_rests_60 : decode cX7_rests 60 = .ok (.istore 4, 2) := by decide +kernel
theorem dX7_rests_62 : decode cX7_rests 62 = .ok (.bipush (-9), 2) := by decide +kernel
theorem dX7_rests_64 : decode cX7_rests 64 = .ok (.istore 5, 2) := by decide +kernel
theorem dX7_rests_66 : decode cX7_rests 66 = .ok (.iconst 0, 1) := by decide +kernel
theorem dX7_rests_67 : decode cX7_rests 67 = .ok (.istore 6, 2) := by decide +kernel
theorem dX7_rests_69 : decode cX7_rests 69 = .ok (.iload 6, 2) := by decide +kernel
theorem dX7_rests_71 : decode cX7_rests 71 = .ok (.iconst 4, 1) := by decide +kernel
theorem dX7_rests_72 : decode cX7_rests 72 = .ok (.if_icmp .ge 53, 3) := by decide +kernel
theorem dX7_rests_75 : decode cX7_rests 75 = .ok (.aload_n 0, 1) := by decide +kernel
theorem dX7_rests_76 : decode cX7_rests 76 = .ok (.iload_n 1, 1) := by decide +kernel
theorem dX7_rests_77 : decode cX7_rests 77 = .ok (.iload_n 2, 1) := by decide +kernel
theorem dX7_rests_78 : decode cX7_rests 78 = .ok (.iload 6, 2) := by decide +kernel
theorem dX7_rests_80 : decode cX7_rests 80 = .ok (.iconst 2, 1) := by decide +kernel
theorem dX7_rests_81 : decode cX7_rests 81 = .ok (.idiv, 1) := by decide +kernel
theorem dX7_rests_82 : decode cX7_rests 82 = .ok (.iload 6, 2) := by decide +kernel
theorem dX7_rests_84 : decode cX7_rests 84 = .ok (.iconst 2, 1) := by decide +kernel
theorem dX7_rests_85 : decode cX7_rests 85 = .ok (.irem, 1) := by decide +kernel
theorem dX7_rests_86 : decode cX7_rests 86 = .ok (.invokevirtual 228, 3) := by decide +kernel
theorem dX7_rests_89 : decode cX7_rests 89 = .ok (.ifCond .eq 30, 3) := by decide +kernel
theorem dX7_rests_92 : decode cX7_rests 92 = .ok (.iload 4, 2) := by decide +kernel
theorem dX7_rests_94 : decode cX7_rests 94 = .ok (.ifCond .ne 18, 3) := by decide +kernel
theorem dX7_rests_97 : decode cX7_rests 97 = .ok (.bipush 10, 2) := by decide +kernel
theorem dX7_rests_99 : decode cX7_rests 99 = .ok (.iload 6, 2) := by decide +kernel
theorem dX7_rests_101 : decode cX7_rests 101 = .ok (.iconst 2, 1) := by decide +kernel
theorem dX7_rests_102 : decode cX7_rests 102 = .ok (.idiv, 1) := by decide +kernel
theorem dX7_rests_103 : decode cX7_rests 103 = .ok (.imul, 1) := by decide +kernel
theorem dX7_rests_104 : decode cX7_rests 104 = .ok (.iload 6, 2) := by decide +kernel
theorem dX7_rests_106 : decode cX7_rests 106 = .ok (.iconst 2, 1) := by decide +kernel
theorem dX7_rests_107 : decode cX7_rests 107 = .ok (.irem, 1) := by decide +kernel
theorem dX7_rests_108 : decode cX7_rests 108 = .ok (.iadd, 1) := by decide +kernel
theorem dX7_rests_109 : decode cX7_rests 109 = .ok (.goto 5, 3) := by decide +kernel
theorem dX7_rests_112 : decode cX7_rests 112 = .ok (.iload 5, 2) := by decide +kernel
theorem dX7_rests_114 : decode cX7_rests 114 = .ok (.istore 5, 2) := by decide +kernel
theorem dX7_rests_116 : decode cX7_rests 116 = .ok (.iinc 4 1, 3) := by decide +kernel
theorem dX7_rests_119 : decode cX7_rests 119 = .ok (.iinc 6 1, 3) := by decide +kernel
theorem dX7_rests_122 : decode cX7_rests 122 = .ok (.goto (-53), 3) := by decide +kernel
theorem dX7_rests_125 : decode cX7_rests 125 = .ok (.iload_n 3, 1) := by decide +kernel
theorem dX7_rests_126 : decode cX7_rests 126 = .ok (.ifCond .ne 8, 3) := by decide +kernel
theorem dX7_rests_129 : decode cX7_rests 129 = .ok (.iload 4, 2) := by decide +kernel
theorem dX7_rests_131 : decode cX7_rests 131 = .ok (.goto 5, 3) := by decide +kernel
theorem dX7_rests_134 : decode cX7_rests 134 = .ok (.iload 5, 2) := by decide +kernel
theorem dX7_rests_136 : decode cX7_rests 136 = .ok (.ireturn, 1) := by decide +kernel
set_option maxRecDepth 20000 in
theorem ggX7_comes_X7_isOath : GoodIn wsX7_comes wsX7_isOath := goodIn_r _ [8, 9, 10, 11, 7, 12, 70, 71, 72, 73, 74, 75, 76, 77, 78, 79, 80, 81, 82, 83, 84, 85, 86, 87, 88, 89, 90, 91, 92, 93, 94, 95, 96, 97, 98, 99, 100] (by decide +kernel) (by decide +kernel)
set_option maxRecDepth 20000 in
theorem gX7_comes_X7_isOath : GoodIn wsX7_comes (wsV RX7 153 RX7 yX7_isOath wsX7_isOath) := goodIn_app (goodIn_of _ (by decide +kernel)) ggX7_comes_X7_isOath
set_option maxRecDepth 20000 in
theorem ggX7_comes_X7_in : GoodIn wsX7_comes wsX7_in := goodIn_r _ [12] (by decide +kernel) (by decide +kernel)
set_option maxRecDepth 20000 in
theorem gX7_comes_X7_in : GoodIn wsX7_comes (va_wsS RX7 67 yX7_in wsX7_in) := goodIn_app (goodIn_of _ (by decide +kernel)) ggX7_comes_X7_in
set_option maxRecDepth 20000 in
theorem ggX7_comes_X7_layTrial : GoodIn wsX7_comes wsX7_layTrial := goodIn_r _ [16, 3, 70, 71, 72, 73, 74, 75, 76, 77, 78, 79, 80, 81, 82, 83, 84, 85, 86, 87, 88, 89, 90, 91, 92, 93, 94, 95, 96, 97, 98, 99, 100] (by decide +kernel) (by decide +kernel)
set_option maxRecDepth 20000 in
theorem gX7_comes_X7_layTrial : GoodIn wsX7_comes (wsV RX7 190 RX7 yX7_layTrial wsX7_layTrial) := goodIn_app (goodIn_of _ (by decide +kernel)) ggX7_comes_X7_layTrial
set_option maxRecDepth 20000 in
theorem ggX7_comes_X7_has : GoodIn wsX7_comes wsX7_has := goodIn_r _ [19] (by decide +kernel) (by decide +kernel)
set_option maxRecDepth 20000 in
theorem gX7_comes_X7_has : GoodIn wsX7_comes (va_wsS RX7 119 yX7_has wsX7_has) := goodIn_app (goodIn_of _ (by decide +kernel)) ggX7_comes_X7_has
set_option maxRecDepth 20000 in
theorem ggX7_comes_X7_passOn : GoodIn wsX7_comes wsX7_passOn := goodIn_r _ [23, 3, 24, 25, 26, 7, 27, 28, 29, 30, 31, 32, 33, 34, 35, 36, 37, 38, 9, 39, 40, 41, 42, 43, 44, 45, 46, 47, 48, 49, 50, 17, 18, 19, 51, 52, 53, 54, 55, 56, 57, 58, 59, 60, 61, 62, 63, 64, 65, 66, 70, 71, 72, 73, 74, 75, 76, 77, 78, 79, 80, 81, 82, 83, 84, 85, 86, 87, 88, 89, 90, 91, 92, 93, 94, 95, 96, 97, 98, 99, 100] (by decide +kernel) (by decide +kernel)
set_option maxRecDepth 20000 in
theorem gX7_comes_X7_passOn : GoodIn wsX7_comes (wsV RX7 172 RX7 yX7_passOn wsX7_passOn) := goodIn_app (goodIn_of _ (by decide +kernel)) ggX7_comes_X7_passOn
set_option maxRecDepth 20000 in
theorem ggX7_comes_X7_common : GoodIn wsX7_comes wsX7_common := goodIn_r _ [69] (by decide +kernel) (by decide +kernel)
set_option maxRecDepth 20000 in
theorem gX7_comes_X7_common : GoodIn wsX7_comes (va_wsS RX7 217 yX7_common wsX7_common) := goodIn_app (goodIn_of _ (by decide +kernel)) ggX7_comes_X7_common
theorem dX7_comes_0 : decode cX7_comes 0 = .ok (.aload_n 0, 1) := by decide +kernel
theorem dX7_comes_1 : decode cX7_comes 1 = .ok (.iload_n 1, 1) := by decide +kernel
theorem dX7_comes_2 : decode cX7_comes 2 = .ok (.invokevirtual 153, 3) := by decide +kernel
theorem dX7_comes_5 : decode cX7_comes 5 = .ok (.ifCond .ne 5, 3) := by decide +kernel
theorem dX7_comes_8 : decode cX7_comes 8 = .ok (.iconst (-1), 1) := by decide +kernel
theorem dX7_comes_9 : decode cX7_comes 9 = .ok (.ireturn, 1) := by decide +kernel
theorem dX7_comes_10 : decode cX7_comes 10 = .ok (.iload_n 2, 1) := by decide +kernel
theorem dX7_comes_11 : decode cX7_comes 11 = .ok (.i2l, 1) := by decide +kernel
theorem dX7_comes_12 : decode cX7_comes 12 = .ok (.lconst 1, 1) := by decide +kernel
theorem dX7_comes_13 : decode cX7_comes 13 = .ok (.ldc2_w 231, 3) := by decide +kernel
theorem dX7_comes_16 : decode cX7_comes 16 = .ok (.invokestatic 67, 3) := by decide +kernel
theorem dX7_comes_19 : decode cX7_comes 19 = .ok (.ifCond .eq 15, 3) := by decide +kernel
theorem dX7_comes_22 : decode cX7_comes 22 = .ok (.iload_n 3, 1) := by decide +kernel
theorem dX7_comes_23 : decode cX7_comes 23 = .ok (.i2l, 1) := by decide +kernel
theorem dX7_comes_24 : decode cX7_comes 24 = .ok (.lconst 0, 1) := by decide +kernel
theorem dX7_comes_25 : decode cX7_comes 25 = .ok (.ldc2_w 233, 3) := by decide +kernel
theorem dX7_comes_28 : decode cX7_comes 28 = .ok (.invokestatic 67, 3) := by decide +kernel
theorem dX7_comes_31 : decode cX7_comes 31 = .ok (.ifCond .ne 6, 3) := by decide +kernel
theorem dX7_comes_34 : decode cX7_comes 34 = .ok (.bipush (-2), 2) := by decide +kernel
theorem dX7_comes_36 : decode cX7_comes 36 = .ok (.ireturn, 1) := by decide +kernel
theorem dX7_comes_37 : decode cX7_comes 37 = .ok (.iconst 0, 1) := by decide +kernel
theorem dX7_comes_38 : decode cX7_comes 38 = .ok (.istore 5, 2) := by decide +kernel
theorem dX7_comes_40 : decode cX7_comes 40 = .ok (.iconst 0, 1) := by decide +kernel
theorem dX7_comes_41 : decode cX7_comes 41 = .ok (.istore 6, 2) := by decide +kernel
theorem dX7_comes_43 : decode cX7_comes 43 = .ok (.iconst 0, 1) := by decide +kernel
theorem dX7_comes_44 : decode cX7_comes 44 = .ok (.istore 7, 2) := by decide +kernel
theorem dX7_comes_46 : decode cX7_comes 46 = .ok (.iload 7, 2) := by decide +kernel
theorem dX7_comes_48 : decode cX7_comes 48 = .ok (.iconst 1, 1) := by decide +kernel
theorem dX7_comes_49 : decode cX7_comes 49 = .ok (.iload_n 2, 1) := by decide +kernel
theorem dX7_comes_50 : decode cX7_comes 50 = .ok (.ishl, 1) := by decide +kernel
theorem dX7_comes_51 : decode cX7_comes 51 = .ok (.if_icmp .ge 107, 3) := by decide +kernel
theorem dX7_comes_54 : decode cX7_comes 54 = .ok (.iconst 1, 1) := by decide +kernel
theorem dX7_comes_55 : decode cX7_comes 55 = .ok (.istore 8, 2) := by decide +kernel
theorem dX7_comes_57 : decode cX7_comes 57 = .ok (.aload_n 0, 1) := by decide +kernel
theorem dX7_comes_58 : decode cX7_comes 58 = .ok (.invokevirtual 190, 3) := by decide +kernel
theorem dX7_comes_61 : decode cX7_comes 61 = .ok (.iconst 0, 1) := by decide +kernel
theorem dX7_comes_62 : decode cX7_comes 62 = .ok (.istore 9, 2) := by decide +kernel
theorem dX7_comes_64 : decode cX7_comes 64 = .ok (.iload 9, 2) := by decide +kernel
theorem dX7_comes_66 : decode cX7_comes 66 = .ok (.iload_n 2, 1) := by decide +kernel
theorem dX7_comes_67 : decode cX7_comes 67 = .ok (.if_icmp .ge 53, 3) := by decide +kernel
theorem dX7_comes_70 : decode cX7_comes 70 = .ok (.iload 8, 2) := by decide +kernel
theorem dX7_comes_72 : decode cX7_comes 72 = .ok (.iload 7, 2) := by decide +kernel
theorem dX7_comes_74 : decode cX7_comes 74 = .ok (.iload 9, 2) := by decide +kernel
theorem dX7_comes_76 : decode cX7_comes 76 = .ok (.invokestatic 119, 3) := by decide +kernel
theorem dX7_comes_79 : decode cX7_comes 79 = .ok (.ifCond .eq 7, 3) := by decide +kernel
theorem dX7_comes_82 : decode cX7_comes 82 = .ok (.iload_n 3, 1) := by decide +kernel
theorem dX7_comes_83 : decode cX7_comes 83 = .ok (.goto 7, 3) := by decide +kernel
theorem dX7_comes_86 : decode cX7_comes 86 = .ok (.bipush 10, 2) := by decide +kernel
theorem dX7_comes_88 : decode cX7_comes 88 = .ok (.iload_n 3, 1) := by decide +kernel
theorem dX7_comes_89 : decode cX7_comes 89 = .ok (.isub, 1) := by decide +kernel
theorem dX7_comes_90 : decode cX7_comes 90 = .ok (.imul, 1) := by decide +kernel
theorem dX7_comes_91 : decode cX7_comes 91 = .ok (.istore 8, 2) := by decide +kernel
theorem dX7_comes_93 : decode cX7_comes 93 = .ok (.aload_n 0, 1) := by decide +kernel
theorem dX7_comes_94 : decode cX7_comes 94 = .ok (.iconst 1, 1) := by decide +kernel
theorem dX7_comes_95 : decode cX7_comes 95 = .ok (.iload 7, 2) := by decide +kernel
theorem dX7_comes_97 : decode cX7_comes 97 = .ok (.iload 9, 2) := by decide +kernel
theorem dX7_comes_99 : decode cX7_comes 99 = .ok (.invokestatic 119, 3) := by decide +kernel
theorem dX7_comes_102 : decode cX7_comes 102 = .ok (.ifCond .ne 7, 3) := by decide +kernel
theorem dX7_comes_105 : decode cX7_comes 105 = .ok (.iconst 1, 1) := by decide +kernel
theorem dX7_comes_106 : decode cX7_comes 106 = .ok (.goto 4, 3) := by decide +kernel
theorem dX7_comes_109 : decode cX7_comes 109 = .ok (.iconst 0, 1) := by decide +kernel
theorem dX7_comes_110 : decode cX7_comes 110 = .ok (.invokevirtual 172, 3) := by decide +kernel
theorem dX7_comes_113 : decode cX7_comes 113 = .ok (.pop, 1) := by decide +kernel
theorem dX7_comes_114 : decode cX7_comes 114 = .ok (.iinc 9 1, 3) := by decide +kernel
theorem dX7_comes_117 : decode cX7_comes 117 = .ok (.goto (-53), 3) := by decide +kernel
theorem dX7_comes_120 : decode cX7_comes 120 = .ok (.iload 6, 2) := by decide +kernel
theorem dX7_comes_122 : decode cX7_comes 122 = .ok (.iload 8, 2) := by decide +kernel
theorem dX7_comes_124 : decode cX7_comes 124 = .ok (.iadd, 1) := by decide +kernel
theorem dX7_comes_125 : decode cX7_comes 125 = .ok (.istore 6, 2) := by decide +kernel
theorem dX7_comes_127 : decode cX7_comes 127 = .ok (.iload 5, 2) := by decide +kernel
theorem dX7_comes_129 : decode cX7_comes 129 = .ok (.aload_n 0, 1) := by decide +kernel
theorem dX7_comes_130 : decode cX7_comes 130 = .ok (.getfield 31, 3) := by decide +kernel
theorem dX7_comes_133 : decode cX7_comes 133 = .ok (.bipush 15, 2) := by decide +kernel
theorem dX7_comes_135 : decode cX7_comes 135 = .ok (.iaload, 1) := by decide +kernel
theorem dX7_comes_136 : decode cX7_comes 136 = .ok (.iload_n 1, 1) := by decide +kernel
theorem dX7_comes_137 : decode cX7_comes 137 = .ok (.invokestatic 119, 3) := by decide +kernel
theorem dX7_comes_140 : decode cX7_comes 140 = .ok (.ifCond .eq 8, 3) := by decide +kernel
theorem dX7_comes_143 : decode cX7_comes 143 = .ok (.iload 8, 2) := by decide +kernel
theorem dX7_comes_145 : decode cX7_comes 145 = .ok (.goto 4, 3) := by decide +kernel
theorem dX7_comes_148 : decode cX7_comes 148 = .ok (.iconst 0, 1) := by decide +kernel
theorem dX7_comes_149 : decode cX7_comes 149 = .ok (.iadd, 1) := by decide +kernel
theorem dX7_comes_150 : decode cX7_comes 150 = .ok (.istore 5, 2) := by decide +kernel
theorem dX7_comes_152 : decode cX7_comes 152 = .ok (.iinc 7 1, 3) := by decide +kernel
theorem dX7_comes_155 : decode cX7_comes 155 = .ok (.goto (-109), 3) := by decide +kernel
theorem dX7_comes_158 : decode cX7_comes 158 = .ok (.iload 5, 2) := by decide +kernel
theorem dX7_comes_160 : decode cX7_comes 160 = .ok (.iload 6, 2) := by decide +kernel
theorem dX7_comes_162 : decode cX7_comes 162 = .ok (.invokestatic 217, 3) := by decide +kernel
theorem dX7_comes_165 : decode cX7_comes 165 = .ok (.istore 7, 2) := by decide +kernel
theorem dX7_comes_167 : decode cX7_comes 167 = .ok (.iload 4, 2) := by decide +kernel
theorem dX7_comes_169 : decode cX7_comes 169 = .ok (.ifCond .eq 11, 3) := by decide +kernel
theorem dX7_comes_172 : decode cX7_comes 172 = .ok (.iload 5, 2) := by decide +kernel
theorem dX7_comes_174 : decode cX7_comes 174 = .ok (.iload 7, 2) := by decide +kernel
theorem dX7_comes_176 : decode cX7_comes 176 = .ok (.idiv, 1) := by decide +kernel
theorem dX7_comes_177 : decode cX7_comes 177 = .ok (.goto 8, 3) := by decide +kernel
theorem dX7_comes_180 : decode cX7_comes 180 = .ok (.iload 6, 2) := by decide +kernel
theorem dX7_comes_182 : decode cX7_comes 182 = .ok (.iload 7, 2) := by decide +kernel
theorem dX7_comes_184 : decode cX7_comes 184 = .ok (.idiv, 1) := by decide +kernel
theorem dX7_comes_185 : decode cX7_comes 185 = .ok (.ireturn, 1) := by decide +kernel
theorem dX7_seed_0 : decode cX7_seed 0 = .ok (.aload_n 0, 1) := by decide +kernel
theorem dX7_seed_1 : decode cX7_seed 1 = .ok (.getfield 235, 3) := by decide +kernel
theorem dX7_seed_4 : decode cX7_seed 4 = .ok (.lstore_n 3, 1) := by decide +kernel
theorem dX7_seed_5 : decode cX7_seed 5 = .ok (.aload_n 0, 1) := by decide +kernel
theorem dX7_seed_6 : decode cX7_seed 6 = .ok (.lload_n 1, 1) := by decide +kernel
theorem dX7_seed_7 : decode cX7_seed 7 = .ok (.putfield 235, 3) := by decide +kernel
theorem dX7_seed_10 : decode cX7_seed 10 = .ok (.lload_n 3, 1) := by decide +kernel
theorem dX7_seed_11 : decode cX7_seed 11 = .ok (.lreturn, 1) := by decide +kernel
set_option maxRecDepth 20000 in
theorem ggX7_years_X7_in : GoodIn wsX7_years wsX7_in := goodIn_r _ [10] (by decide +kernel) (by decide +kernel)
set_option maxRecDepth 20000 in
theorem gX7_years_X7_in : GoodIn wsX7_years (va_wsS RX7 67 yX7_in wsX7_in) := goodIn_app (goodIn_of _ (by decide +kernel)) ggX7_years_X7_in
set_option maxRecDepth 20000 in
theorem ggX7_years_X7_layTrial : GoodIn wsX7_years wsX7_layTrial := goodIn_r _ [14, 6, 94, 95, 96, 97, 98, 99, 100, 101, 102, 103, 104, 105, 106, 107, 108, 109, 110, 111, 112, 113, 114, 115, 116, 117, 118, 119, 120, 121, 122, 123, 124] (by decide +kernel) (by decide +kernel)
set_option maxRecDepth 20000 in
theorem gX7_years_X7_layTrial : GoodIn wsX7_years (wsV RX7 190 RX7 yX7_layTrial wsX7_layTrial) := goodIn_app (goodIn_of _ (by decide +kernel)) ggX7_years_X7_layTrial
set_option maxRecDepth 20000 in
theorem ggX7_years_X7_passOn : GoodIn wsX7_years wsX7_passOn := goodIn_r _ [18, 6, 19, 20, 21, 9, 22, 23, 24, 25, 26, 27, 28, 29, 30, 31, 32, 33, 34, 35, 36, 37, 38, 39, 40, 41, 42, 43, 44, 45, 46, 47, 48, 49, 50, 51, 52, 53, 54, 55, 56, 57, 58, 59, 60, 61, 62, 63, 64, 65, 94, 95, 96, 97, 98, 99, 100, 101, 102, 103, 104, 105, 106, 107, 108, 109, 110, 111, 112, 113, 114, 115, 116, 117, 118, 119, 120, 121, 122, 123, 124] (by decide +kernel) (by decide +kernel)
set_option maxRecDepth 20000 in
theorem gX7_years_X7_passOn : GoodIn wsX7_years (wsV RX7 172 RX7 yX7_passOn wsX7_passOn) := goodIn_app (goodIn_of _ (by decide +kernel)) ggX7_years_X7_passOn
set_option maxRecDepth 20000 in
theorem ggX7_years_X7_tryThing : GoodIn wsX7_years wsX7_tryThing := goodIn_r _ [69, 6, 15, 16, 17, 9, 18, 19, 20, 21, 22, 23, 24, 25, 26, 27, 28, 29, 30, 31, 32, 33, 34, 35, 36, 37, 38, 39, 40, 41, 42, 43, 44, 45, 46, 47, 48, 49, 50, 51, 52, 53, 54, 55, 56, 57, 58, 59, 60, 61, 62, 63, 64, 65, 70, 71, 72, 73, 74, 75, 76, 77, 7, 8, 10, 78, 79, 80, 81, 82, 83, 84, 85, 86, 87, 88, 89, 90, 91, 92, 93, 94, 95, 96, 97, 98, 99, 100, 101, 102, 103, 104, 105, 106, 107, 108, 109, 110, 111, 112, 113, 114, 115, 116, 117, 118, 119, 120, 121, 122, 123, 124] (by decide +kernel) (by decide +kernel)
set_option maxRecDepth 20000 in
theorem gX7_years_X7_tryThing : GoodIn wsX7_years (wsV RX7 204 RX7 yX7_tryThing wsX7_tryThing) := goodIn_app (goodIn_of _ (by decide +kernel)) ggX7_years_X7_tryThing
set_option maxRecDepth 20000 in
theorem ggX7_years_X7_clapOn : GoodIn wsX7_years wsX7_clapOn := goodIn_r _ [33, 6, 34, 35, 36, 37, 38, 39, 40, 9, 41, 42, 43, 44, 45, 46, 47, 48, 49, 50, 51, 52, 53, 54, 55, 56, 57, 58, 59, 60, 94, 95, 96, 97, 98, 99, 100, 101, 102, 103, 104, 105, 106, 107, 108, 109, 110, 111, 112, 113, 114, 115, 116, 117, 118, 119, 120, 121, 122, 123, 124] (by decide +kernel) (by decide +kernel)
set_option maxRecDepth 20000 in
theorem gX7_years_X7_clapOn : GoodIn wsX7_years (wsV RX7 147 RX7 yX7_clapOn wsX7_clapOn) := goodIn_app (goodIn_of _ (by decide +kernel)) ggX7_years_X7_clapOn
set_option maxRecDepth 20000 in
theorem ggX7_years_X7_ones : GoodIn wsX7_years wsX7_ones := goodIn_r _ [60] (by decide +kernel) (by decide +kernel)
set_option maxRecDepth 20000 in
theorem gX7_years_X7_ones : GoodIn wsX7_years (va_wsS RX7 137 yX7_ones wsX7_ones) := goodIn_app (goodIn_of _ (by decide +kernel)) ggX7_years_X7_ones
theorem dX7_years_0 : decode cX7_years 0 = .ok (.iload_n 1, 1) := by decide +kernel
theorem dX7_years_1 : decode cX7_years 1 = .ok (.i2l, 1) := by decide +kernel
theorem dX7_years_2 : decode cX7_years 2 = .ok (.lconst 1, 1) := by decide +kernel
theorem dX7_years_3 : decode cX7_years 3 = .ok (.ldc2_w 188, 3) := by decide +kernel
theorem dX7_years_6 : decode cX7_years 6 = .ok (.invokestatic 67, 3) := by decide +kernel
theorem dX7_years_9 : decode cX7_years 9 = .ok (.ifCond .ne 6, 3) := by decide +kernel
theorem dX7_years_12 : decode cX7_years 12 = .ok (.bipush (-2), 2) := by decide +kernel
theorem dX7_years_14 : decode cX7_years 14 = .ok (.ireturn, 1) := by decide +kernel
theorem dX7_years_15 : decode cX7_years 15 = .ok (.aload_n 0, 1) := by decide +kernel
theorem dX7_years_16 : decode cX7_years 16 = .ok (.invokevirtual 190, 3) := by decide +kernel
theorem dX7_years_19 : decode cX7_years 19 = .ok (.iconst 0, 1) := by decide +kernel
theorem dX7_years_20 : decode cX7_years 20 = .ok (.istore_n 2, 1) := by decide +kernel
theorem dX7_years_21 : decode cX7_years 21 = .ok (.iconst 0, 1) := by decide +kernel
theorem dX7_years_22 : decode cX7_years 22 = .ok (.istore_n 3, 1) := by decide +kernel
theorem dX7_years_23 : decode cX7_years 23 = .ok (.iload_n 3, 1) := by decide +kernel
theorem dX7_years_24 : decode cX7_years 24 = .ok (.iload_n 1, 1) := by decide +kernel
theorem dX7_years_25 : decode cX7_years 25 = .ok (.if_icmp .ge 158, 3) := by decide +kernel
theorem dX7_years_28 : decode cX7_years 28 = .ok (.aload_n 0, 1) := by decide +kernel
theorem dX7_years_29 : decode cX7_years 29 = .ok (.aload_n 0, 1) := by decide +kernel
theorem dX7_years_30 : decode cX7_years 30 = .ok (.getfield 235, 3) := by decide +kernel
theorem dX7_years_33 : decode cX7_years 33 = .ok (.ldc2_w 239, 3) := by decide +kernel
theorem dX7_years_36 : decode cX7_years 36 = .ok (.lmul, 1) := by decide +kernel
theorem dX7_years_37 : decode cX7_years 37 = .ok (.ldc2_w 241, 3) := by decide +kernel
theorem dX7_years_40 : decode cX7_years 40 = .ok (.ladd, 1) := by decide +kernel
theorem dX7_years_41 : decode cX7_years 41 = .ok (.putfield 235, 3) := by decide +kernel
theorem dX7_years_44 : decode cX7_years 44 = .ok (.aload_n 0, 1) := by decide +kernel
theorem dX7_years_45 : decode cX7_years 45 = .ok (.getfield 235, 3) := by decide +kernel
theorem dX7_years_48 : decode cX7_years 48 = .ok (.bipush 33, 2) := by decide +kernel
theorem dX7_years_50 : decode cX7_years 50 = .ok (.lushr, 1) := by decide +kernel
theorem dX7_years_51 : decode cX7_years 51 = .ok (.ldc2_w 243, 3) := by decide +kernel
theorem dX7_years_54 : decode cX7_years 54 = .ok (.lrem, 1) := by decide +kernel
theorem dX7_years_55 : decode cX7_years 55 = .ok (.l2i, 1) := by decide +kernel
theorem dX7_years_56 : decode cX7_years 56 = .ok (.istore 4, 2) := by decide +kernel
theorem dX7_years_58 : decode cX7_years 58 = .ok (.iload 4, 2) := by decide +kernel
theorem dX7_years_60 : decode cX7_years 60 = .ok (.bipush 29, 2) := by decide +kernel
theorem dX7_years_62 : decode cX7_years 62 = .ok (.if_icmp .le 13, 3) := by decide +kernel
theorem dX7_years_65 : decode cX7_years 65 = .ok (.aload_n 0, 1) := by decide +kernel
theorem dX7_years_66 : decode cX7_years 66 = .ok (.iconst 1, 1) := by decide +kernel
theorem dX7_years_67 : decode cX7_years 67 = .ok (.iconst 1, 1) := by decide +kernel
theorem dX7_years_68 : decode cX7_years 68 = .ok (.invokevirtual 172, 3) := by decide +kernel
theorem dX7_years_71 : decode cX7_years 71 = .ok (.pop, 1) := by decide +kernel
theorem dX7_years_72 : decode cX7_years 72 = .ok (.goto 92, 3) := by decide +kernel
theorem dX7_years_75 : decode cX7_years 75 = .ok (.iload 4, 2) := by decide +kernel
theorem dX7_years_77 : decode cX7_years 77 = .ok (.bipush 24, 2) := by decide +kernel
theorem dX7_years_79 : decode cX7_years 79 = .ok (.if_icmp .le 18, 3) := by decide +kernel
theorem dX7_years_82 : decode cX7_years 82 = .ok (.aload_n 0, 1) := by decide +kernel
theorem dX7_years_83 : decode cX7_years 83 = .ok (.iconst 5, 1) := by decide +kernel
theorem dX7_years_84 : decode cX7_years 84 = .ok (.iconst 0, 1) := by decide +kernel
theorem dX7_years_85 : decode cX7_years 85 = .ok (.iload 4, 2) := by decide +kernel
theorem dX7_years_87 : decode cX7_years 87 = .ok (.bipush 25, 2) := by decide +kernel
theorem dX7_years_89 : decode cX7_years 89 = .ok (.isub, 1) := by decide +kernel
theorem dX7_years_90 : decode cX7_years 90 = .ok (.invokevirtual 204, 3) := by decide +kernel
theorem dX7_years_93 : decode cX7_years 93 = .ok (.pop, 1) := by decide +kernel
theorem dX7_years_94 : decode cX7_years 94 = .ok (.goto 70, 3) := by decide +kernel
theorem dX7_years_97 : decode cX7_years 97 = .ok (.iload 4, 2) := by decide +kernel
theorem dX7_years_99 : decode cX7_years 99 = .ok (.bipush 19, 2) := by decide +kernel
theorem dX7_years_101 : decode cX7_years 101 = .ok (.if_icmp .le 18, 3) := by decide +kernel
theorem dX7_years_104 : decode cX7_years 104 = .ok (.aload_n 0, 1) := by decide +kernel
theorem dX7_years_105 : decode cX7_years 105 = .ok (.iconst 2, 1) := by decide +kernel
theorem dX7_years_106 : decode cX7_years 106 = .ok (.iconst 0, 1) := by decide +kernel
theorem dX7_years_107 : decode cX7_years 107 = .ok (.iload 4, 2) := by decide +kernel
theorem dX7_years_109 : decode cX7_years 109 = .ok (.bipush 20, 2) := by decide +kernel
theorem dX7_years_111 : decode cX7_years 111 = .ok (.isub, 1) := by decide +kernel
theorem dX7_years_112 : decode cX7_years 112 = .ok (.invokevirtual 204, 3) := by decide +kernel
theorem dX7_years_115 : decode cX7_years 115 = .ok (.pop, 1) := by decide +kernel
theorem dX7_years_116 : decode cX7_years 116 = .ok (.goto 48, 3) := by decide +kernel
theorem dX7_years_119 : decode cX7_years 119 = .ok (.iload 4, 2) := by decide +kernel
theorem dX7_years_121 : decode cX7_years 121 = .ok (.bipush 9, 2) := by decide +kernel
theorem dX7_years_123 : decode cX7_years 123 = .ok (.if_icmp .le 32, 3) := by decide +kernel
theorem dX7_years_126 : decode cX7_years 126 = .ok (.aload_n 0, 1) := by decide +kernel
theorem dX7_years_127 : decode cX7_years 127 = .ok (.iconst 4, 1) := by decide +kernel
theorem dX7_years_128 : decode cX7_years 128 = .ok (.iload 4, 2) := by decide +kernel
theorem dX7_years_130 : decode cX7_years 130 = .ok (.bipush 10, 2) := by decide +kernel
theorem dX7_years_132 : decode cX7_years 132 = .ok (.isub, 1) := by decide +kernel
theorem dX7_years_133 : decode cX7_years 133 = .ok (.iconst 2, 1) := by decide +kernel
theorem dX7_years_134 : decode cX7_years 134 = .ok (.idiv, 1) := by decide +kernel
theorem dX7_years_135 : decode cX7_years 135 = .ok (.iload 4, 2) := by decide +kernel
theorem dX7_years_137 : decode cX7_years 137 = .ok (.iconst 2, 1) := by decide +kernel
theorem dX7_years_138 : decode cX7_years 138 = .ok (.irem, 1) := by decide +kernel
theorem dX7_years_139 : decode cX7_years 139 = .ok (.ifCond .ne 7, 3) := by decide +kernel
theorem dX7_years_142 : decode cX7_years 142 = .ok (.iconst 0, 1) := by decide +kernel
theorem dX7_years_143 : decode cX7_years 143 = .ok (.goto 5, 3) := by decide +kernel
theorem dX7_years_146 : decode cX7_years 146 = .ok (.bipush 9, 2) := by decide +kernel
theorem dX7_years_148 : decode cX7_years 148 = .ok (.invokevirtual 204, 3) := by decide +kernel
theorem dX7_years_151 : decode cX7_years 151 = .ok (.pop, 1) := by decide +kernel
theorem dX7_years_152 : decode cX7_years 152 = .ok (.goto 12, 3) := by decide +kernel
theorem dX7_years_155 : decode cX7_years 155 = .ok (.aload_n 0, 1) := by decide +kernel
theorem dX7_years_156 : decode cX7_years 156 = .ok (.iconst 1, 1) := by decide +kernel
theorem dX7_years_157 : decode cX7_years 157 = .ok (.iload 4, 2) := by decide +kernel
theorem dX7_years_159 : decode cX7_years 159 = .ok (.iconst 3, 1) := by decide +kernel
theorem dX7_years_160 : decode cX7_years 160 = .ok (.invokevirtual 147, 3) := by decide +kernel
theorem dX7_years_163 : decode cX7_years 163 = .ok (.pop, 1) := by decide +kernel
theorem dX7_years_164 : decode cX7_years 164 = .ok (.iload_n 2, 1) := by decide +kernel
theorem dX7_years_165 : decode cX7_years 165 = .ok (.aload_n 0, 1) := by decide +kernel
theorem dX7_years_166 : decode cX7_years 166 = .ok (.getfield 31, 3) := by decide +kernel
theorem dX7_years_169 : decode cX7_years 169 = .ok (.bipush 15, 2) := by decide +kernel
theorem dX7_years_171 : decode cX7_years 171 = .ok (.iaload, 1) := by decide +kernel
theorem dX7_years_172 : decode cX7_years 172 = .ok (.invokestatic 137, 3) := by decide +kernel
theorem dX7_years_175 : decode cX7_years 175 = .ok (.iadd, 1) := by decide +kernel
theorem dX7_years_176 : decode cX7_years 176 = .ok (.istore_n 2, 1) := by decide +kernel
theorem dX7_years_177 : decode cX7_years 177 = .ok (.iinc 3 1, 3) := by decide +kernel
theorem dX7_years_180 : decode cX7_years 180 = .ok (.goto (-157), 3) := by decide +kernel
theorem dX7_years_183 : decode cX7_years 183 = .ok (.iload_n 2, 1) := by decide +kernel
theorem dX7_years_184 : decode cX7_years 184 = .ok (.ireturn, 1) := by decide +kernel
set_option maxRecDepth 20000 in
theorem ggX7_keep_X7_in : GoodIn wsX7_keep wsX7_in := goodIn_r _ [7] (by decide +kernel) (by decide +kernel)
set_option maxRecDepth 20000 in
theorem gX7_keep_X7_in : GoodIn wsX7_keep (va_wsS RX7 67 yX7_in wsX7_in) := goodIn_app (goodIn_of _ (by decide +kernel)) ggX7_keep_X7_in
theorem dX7_keep_0 : decode cX7_keep 0 = .ok (.iload_n 1, 1) := by decide +kernel
theorem dX7_keep_1 : decode cX7_keep 1 = .ok (.i2l, 1) := by decide +kernel
theorem dX7_keep_2 : decode cX7_keep 2 = .ok (.lconst 0, 1) := by decide +kernel
theorem dX7_keep_3 : decode cX7_keep 3 = .ok (.lconst 1, 1) := by decide +kernel
theorem dX7_keep_4 : decode cX7_keep 4 = .ok (.invokestatic 67, 3) := by decide +kernel
theorem dX7_keep_7 : decode cX7_keep 7 = .ok (.ifCond .ne 5, 3) := by decide +kernel
theorem dX7_keep_10 : decode cX7_keep 10 = .ok (.iconst (-1), 1) := by decide +kernel
theorem dX7_keep_11 : decode cX7_keep 11 = .ok (.ireturn, 1) := by decide +kernel
theorem dX7_keep_12 : decode cX7_keep 12 = .ok (.aload_n 0, 1) := by decide +kernel
theorem dX7_keep_13 : decode cX7_keep 13 = .ok (.getfield 58, 3) := by decide +kernel
theorem dX7_keep_16 : decode cX7_keep 16 = .ok (.iload_n 1, 1) := by decide +kernel
theorem dX7_keep_17 : decode cX7_keep 17 = .ok (.iconst 1, 1) := by decide +kernel
theorem dX7_keep_18 : decode cX7_keep 18 = .ok (.bastore, 1) := by decide +kernel
theorem dX7_keep_19 : decode cX7_keep 19 = .ok (.iconst 0, 1) := by decide +kernel
theorem dX7_keep_20 : decode cX7_keep 20 = .ok (.istore_n 2, 1) := by decide +kernel
theorem dX7_keep_21 : decode cX7_keep 21 = .ok (.iload_n 2, 1) := by decide +kernel
theorem dX7_keep_22 : decode cX7_keep 22 = .ok (.bipush 9, 2) := by decide +kernel
theorem dX7_keep_24 : decode cX7_keep 24 = .ok (.if_icmp .ge 26, 3) := by decide +kernel
theorem dX7_keep_27 : decode cX7_keep 27 = .ok (.aload_n 0, 1) := by decide +kernel
theorem dX7_keep_28 : decode cX7_keep 28 = .ok (.getfield 62, 3) := by decide +kernel
theorem dX7_keep_31 : decode cX7_keep 31 = .ok (.bipush 9, 2) := by decide +kernel
theorem dX7_keep_33 : decode cX7_keep 33 = .ok (.iload_n 1, 1) := by decide +kernel
theorem dX7_keep_34 : decode cX7_keep 34 = .ok (.imul, 1) := by decide +kernel
theorem dX7_keep_35 : decode cX7_keep 35 = .ok (.iload_n 2, 1) := by decide +kernel
theorem dX7_keep_36 : decode cX7_keep 36 = .ok (.iadd, 1) := by decide +kernel
theorem dX7_keep_37 : decode cX7_keep 37 = .ok (.aload_n 0, 1) := by decide +kernel
theorem dX7_keep_38 : decode cX7_keep 38 = .ok (.getfield 31, 3) := by decide +kernel
theorem dX7_keep_41 : decode cX7_keep 41 = .ok (.iload_n 2, 1) := by decide +kernel
theorem dX7_keep_42 : decode cX7_keep 42 = .ok (.iaload, 1) := by decide +kernel
theorem dX7_keep_43 : decode cX7_keep 43 = .ok (.iastore, 1) := by decide +kernel
theorem dX7_keep_44 : decode cX7_keep 44 = .ok (.iinc 2 1, 3) := by decide +kernel
theorem dX7_keep_47 : decode cX7_keep 47 = .ok (.goto (-26), 3) := by decide +kernel
theorem dX7_keep_50 : decode cX7_keep 50 = .ok (.aload_n 0, 1) := by decide +kernel
theorem dX7_keep_51 : decode cX7_keep 51 = .ok (.getfield 31, 3) := by decide +kernel
theorem dX7_keep_54 : decode cX7_keep 54 = .ok (.bipush 8, 2) := by decide +kernel
theorem dX7_keep_56 : decode cX7_keep 56 = .ok (.iaload, 1) := by decide +kernel
theorem dX7_keep_57 : decode cX7_keep 57 = .ok (.ireturn, 1) := by decide +kernel
set_option maxRecDepth 20000 in
theorem ggX7_again_X7_in : GoodIn wsX7_again wsX7_in := goodIn_r _ [8] (by decide +kernel) (by decide +kernel)
set_option maxRecDepth 20000 in
theorem gX7_again_X7_in : GoodIn wsX7_again (va_wsS RX7 67 yX7_in wsX7_in) := goodIn_app (goodIn_of _ (by decide +kernel)) ggX7_again_X7_in
theorem dX7_again_0 : decode cX7_again 0 = .ok (.iload_n 1, 1) := by decide +kernel
theorem dX7_again_1 : decode cX7_again 1 = .ok (.i2l, 1) := by decide +kernel
theorem dX7_again_2 : decode cX7_again 2 = .ok (.lconst 0, 1) := by decide +kernel
theorem dX7_again_3 : decode cX7_again 3 = .ok (.lconst 1, 1) := by decide +kernel
theorem dX7_again_4 : decode cX7_again 4 = .ok (.invokestatic 67, 3) := by decide +kernel
theorem dX7_again_7 : decode cX7_again 7 = .ok (.ifCond .ne 5, 3) := by decide +kernel
theorem dX7_again_10 : decode cX7_again 10 = .ok (.iconst (-1), 1) := by decide +kernel
theorem dX7_again_11 : decode cX7_again 11 = .ok (.ireturn, 1) := by decide +kernel
theorem dX7_again_12 : decode cX7_again 12 = .ok (.aload_n 0, 1) := by decide +kernel
theorem dX7_again_13 : decode cX7_again 13 = .ok (.getfield 58, 3) := by decide +kernel
theorem dX7_again_16 : decode cX7_again 16 = .ok (.iload_n 1, 1) := by decide +kernel
theorem dX7_again_17 : decode cX7_again 17 = .ok (.baload, 1) := by decide +kernel
theorem dX7_again_18 : decode cX7_again 18 = .ok (.ifCond .ne 6, 3) := by decide +kernel
theorem dX7_again_21 : decode cX7_again 21 = .ok (.bipush (-3), 2) := by decide +kernel
theorem dX7_again_23 : decode cX7_again 23 = .ok (.ireturn, 1) := by decide +kernel
theorem dX7_again_24 : decode cX7_again 24 = .ok (.iconst 0, 1) := by decide +kernel
theorem dX7_again_25 : decode cX7_again 25 = .ok (.istore_n 2, 1) := by decide +kernel
theorem dX7_again_26 : decode cX7_again 26 = .ok (.iload_n 2, 1) := by decide +kernel
theorem dX7_again_27 : decode cX7_again 27 = .ok (.bipush 9, 2) := by decide +kernel
theorem dX7_again_29 : decode cX7_again 29 = .ok (.if_icmp .ge 26, 3) := by decide +kernel
theorem dX7_again_32 : decode cX7_again 32 = .ok (.aload_n 0, 1) := by decide +kernel
theorem dX7_again_33 : decode cX7_again 33 = .ok (.getfield 31, 3) := by decide +kernel
theorem dX7_again_36 : decode cX7_again 36 = .ok (.iload_n 2, 1) := by decide +kernel
theorem dX7_again_37 : decode cX7_again 37 = .ok (.aload_n 0, 1) := by decide +kernel
theorem dX7_again_38 : decode cX7_again 38 = .ok (.getfield 62, 3) := by decide +kernel
theorem dX7_again_41 : decode cX7_again 41 = .ok (.bipush 9, 2) := by decide +kernel
theorem dX7_again_43 : decode cX7_again 43 = .ok (.iload_n 1, 1) := by decide +kernel
theorem dX7_again_44 : decode cX7_again 44 = .ok (.imul, 1) := by decide +kernel
theorem dX7_again_45 : decode cX7_again 45 = .ok (.iload_n 2, 1) := by decide +kernel
theorem dX7_again_46 : decode cX7_again 46 = .ok (.iadd, 1) := by decide +kernel
theorem dX7_again_47 : decode cX7_again 47 = .ok (.iaload, 1) := by decide +kernel
theorem dX7_again_48 : decode cX7_again 48 = .ok (.iastore, 1) := by decide +kernel
theorem dX7_again_49 : decode cX7_again 49 = .ok (.iinc 2 1, 3) := by decide +kernel
theorem dX7_again_52 : decode cX7_again 52 = .ok (.goto (-26), 3) := by decide +kernel
theorem dX7_again_55 : decode cX7_again 55 = .ok (.aload_n 0, 1) := by decide +kernel
theorem dX7_again_56 : decode cX7_again 56 = .ok (.iconst 0, 1) := by decide +kernel
theorem dX7_again_57 : decode cX7_again 57 = .ok (.putfield 114, 3) := by decide +kernel
theorem dX7_again_60 : decode cX7_again 60 = .ok (.aload_n 0, 1) := by decide +kernel
theorem dX7_again_61 : decode cX7_again 61 = .ok (.getfield 31, 3) := by decide +kernel
theorem dX7_again_64 : decode cX7_again 64 = .ok (.bipush 8, 2) := by decide +kernel
theorem dX7_again_66 : decode cX7_again 66 = .ok (.iaload, 1) := by decide +kernel
theorem dX7_again_67 : decode cX7_again 67 = .ok (.ireturn, 1) := by decide +kernel
set_option maxRecDepth 20000 in
theorem ggX7_count_X7_hearNow : GoodIn wsX7_count wsX7_hearNow := goodIn_r _ [12, 5, 13, 14, 15, 11, 16, 3, 17, 18, 19, 20, 21, 22, 23, 24, 25, 26, 2, 27, 28, 29, 30, 31, 32, 33, 34, 35, 36, 37, 38, 39, 40, 41, 42, 43, 44, 45, 46, 47, 48, 49, 50, 51, 52, 53, 54, 55, 56, 57, 58, 59, 60, 61, 62, 63, 64, 65, 66, 67, 68] (by decide +kernel) (by decide +kernel)
set_option maxRecDepth 20000 in
theorem gX7_count_X7_hearNow : GoodIn wsX7_count (wsV RX7 163 RX7 yX7_hearNow wsX7_hearNow) := goodIn_app (goodIn_of _ (by decide +kernel)) ggX7_count_X7_hearNow
theorem dX7_count_0 : decode cX7_count 0 = .ok (.iload_n 1, 1) := by decide +kernel
theorem dX7_count_1 : decode cX7_count 1 = .ok (.tableswitch 125 0 10 #[59, 64, 69, 74, 79, 87, 95, 103, 110, 115, 120], 59) := by decide +kernel
theorem dX7_count_60 : decode cX7_count 60 = .ok (.aload_n 0, 1) := by decide +kernel
theorem dX7_count_61 : decode cX7_count 61 = .ok (.getfield 71, 3) := by decide +kernel
theorem dX7_count_64 : decode cX7_count 64 = .ok (.ireturn, 1) := by decide +kernel
theorem dX7_count_65 : decode cX7_count 65 = .ok (.aload_n 0, 1) := by decide +kernel
theorem dX7_count_66 : decode cX7_count 66 = .ok (.getfield 105, 3) := by decide +kernel
theorem dX7_count_69 : decode cX7_count 69 = .ok (.ireturn, 1) := by decide +kernel
theorem dX7_count_70 : decode cX7_count 70 = .ok (.aload_n 0, 1) := by decide +kernel
theorem dX7_count_71 : decode cX7_count 71 = .ok (.getfield 108, 3) := by decide +kernel
theorem dX7_count_74 : decode cX7_count 74 = .ok (.ireturn, 1) := by decide +kernel
theorem dX7_count_75 : decode cX7_count 75 = .ok (.aload_n 0, 1) := by decide +kernel
theorem dX7_count_76 : decode cX7_count 76 = .ok (.getfield 111, 3) := by decide +kernel
theorem dX7_count_79 : decode cX7_count 79 = .ok (.ireturn, 1) := by decide +kernel
theorem dX7_count_80 : decode cX7_count 80 = .ok (.aload_n 0, 1) := by decide +kernel
theorem dX7_count_81 : decode cX7_count 81 = .ok (.getfield 31, 3) := by decide +kernel
theorem dX7_count_84 : decode cX7_count 84 = .ok (.bipush 8, 2) := by decide +kernel
theorem dX7_count_86 : decode cX7_count 86 = .ok (.iaload, 1) := by decide +kernel
theorem dX7_count_87 : decode cX7_count 87 = .ok (.ireturn, 1) := by decide +kernel
theorem dX7_count_88 : decode cX7_count 88 = .ok (.aload_n 0, 1) := by decide +kernel
theorem dX7_count_89 : decode cX7_count 89 = .ok (.getfield 31, 3) := by decide +kernel
theorem dX7_count_92 : decode cX7_count 92 = .ok (.bipush 6, 2) := by decide +kernel
theorem dX7_count_94 : decode cX7_count 94 = .ok (.iaload, 1) := by decide +kernel
theorem dX7_count_95 : decode cX7_count 95 = .ok (.ireturn, 1) := by decide +kernel
theorem dX7_count_96 : decode cX7_count 96 = .ok (.aload_n 0, 1) := by decide +kernel
theorem dX7_count_97 : decode cX7_count 97 = .ok (.getfield 31, 3) := by decide +kernel
theorem dX7_count_100 : decode cX7_count 100 = .ok (.bipush 7, 2) := by decide +kernel
theorem dX7_count_102 : decode cX7_count 102 = .ok (.iaload, 1) := by decide +kernel
theorem dX7_count_103 : decode cX7_count 103 = .ok (.ireturn, 1) := by decide +kernel
theorem dX7_count_104 : decode cX7_count 104 = .ok (.aload_n 0, 1) := by decide +kernel
theorem dX7_count_105 : decode cX7_count 105 = .ok (.getfield 31, 3) := by decide +kernel
theorem dX7_count_108 : decode cX7_count 108 = .ok (.iconst 5, 1) := by decide +kernel
theorem dX7_count_109 : decode cX7_count 109 = .ok (.iaload, 1) := by decide +kernel
theorem dX7_count_110 : decode cX7_count 110 = .ok (.ireturn, 1) := by decide +kernel
theorem dX7_count_111 : decode cX7_count 111 = .ok (.aload_n 0, 1) := by decide +kernel
theorem dX7_count_112 : decode cX7_count 112 = .ok (.invokevirtual 163, 3) := by decide +kernel
theorem dX7_count_115 : decode cX7_count 115 = .ok (.ireturn, 1) := by decide +kernel
theorem dX7_count_116 : decode cX7_count 116 = .ok (.aload_n 0, 1) := by decide +kernel
theorem dX7_count_117 : decode cX7_count 117 = .ok (.getfield 114, 3) := by decide +kernel
theorem dX7_count_120 : decode cX7_count 120 = .ok (.ireturn, 1) := by decide +kernel
theorem dX7_count_121 : decode cX7_count 121 = .ok (.aload_n 0, 1) := by decide +kernel
theorem dX7_count_122 : decode cX7_count 122 = .ok (.getfield 208, 3) := by decide +kernel
theorem dX7_count_125 : decode cX7_count 125 = .ok (.ireturn, 1) := by decide +kernel
theorem dX7_count_126 : decode cX7_count 126 = .ok (.bipush (-2), 2) := by decide +kernel
theorem dX7_count_128 : decode cX7_count 128 = .ok (.ireturn, 1) := by decide +kernel
theorem dJ6_bitCount_0f7a4_0 : decode cJ6_bitCount_0f7a4 0 = .ok (.iload_n 0, 1) := by decide +kernel
theorem dJ6_bitCount_0f7a4_1 : decode cJ6_bitCount_0f7a4 1 = .ok (.iload_n 0, 1) := by decide +kernel
theorem dJ6_bitCount_0f7a4_2 : decode cJ6_bitCount_0f7a4 2 = .ok (.iconst 1, 1) := by decide +kernel
theorem dJ6_bitCount_0f7a4_3 : decode cJ6_bitCount_0f7a4 3 = .ok (.iushr, 1) := by decide +kernel
theorem dJ6_bitCount_0f7a4_4 : decode cJ6_bitCount_0f7a4 4 = .ok (.ldc_w 265, 3) := by decide +kernel
theorem dJ6_bitCount_0f7a4_7 : decode cJ6_bitCount_0f7a4 7 = .ok (.iand, 1) := by decide +kernel
theorem dJ6_bitCount_0f7a4_8 : decode cJ6_bitCount_0f7a4 8 = .ok (.isub, 1) := by decide +kernel
theorem dJ6_bitCount_0f7a4_9 : decode cJ6_bitCount_0f7a4 9 = .ok (.istore_n 0, 1) := by decide +kernel
theorem dJ6_bitCount_0f7a4_10 : decode cJ6_bitCount_0f7a4 10 = .ok (.iload_n 0, 1) := by decide +kernel
theorem dJ6_bitCount_0f7a4_11 : decode cJ6_bitCount_0f7a4 11 = .ok (.ldc_w 266, 3) := by decide +kernel
theorem dJ6_bitCount_0f7a4_14 : decode cJ6_bitCount_0f7a4 14 = .ok (.iand, 1) := by decide +kernel
theorem dJ6_bitCount_0f7a4_15 : decode cJ6_bitCount_0f7a4 15 = .ok (.iload_n 0, 1) := by decide +kernel
theorem dJ6_bitCount_0f7a4_16 : decode cJ6_bitCount_0f7a4 16 = .ok (.iconst 2, 1) := by decide +kernel
theorem dJ6_bitCount_0f7a4_17 : decode cJ6_bitCount_0f7a4 17 = .ok (.iushr, 1) := by decide +kernel
theorem dJ6_bitCount_0f7a4_18 : decode cJ6_bitCount_0f7a4 18 = .ok (.ldc_w 266, 3) := by decide +kernel
theorem dJ6_bitCount_0f7a4_21 : decode cJ6_bitCount_0f7a4 21 = .ok (.iand, 1) := by decide +kernel
theorem dJ6_bitCount_0f7a4_22 : decode cJ6_bitCount_0f7a4 22 = .ok (.iadd, 1) := by decide +kernel
theorem dJ6_bitCount_0f7a4_23 : decode cJ6_bitCount_0f7a4 23 = .ok (.istore_n 0, 1) := by decide +kernel
theorem dJ6_bitCount_0f7a4_24 : decode cJ6_bitCount_0f7a4 24 = .ok (.iload_n 0, 1) := by decide +kernel
theorem dJ6_bitCount_0f7a4_25 : decode cJ6_bitCount_0f7a4 25 = .ok (.iload_n 0, 1) := by decide +kernel
theorem dJ6_bitCount_0f7a4_26 : decode cJ6_bitCount_0f7a4 26 = .ok (.iconst 4, 1) := by decide +kernel
theorem dJ6_bitCount_0f7a4_27 : decode cJ6_bitCount_0f7a4 27 = .ok (.iushr, 1) := by decide +kernel
theorem dJ6_bitCount_0f7a4_28 : decode cJ6_bitCount_0f7a4 28 = .ok (.iadd, 1) := by decide +kernel
theorem dJ6_bitCount_0f7a4_29 : decode cJ6_bitCount_0f7a4 29 = .ok (.ldc_w 267, 3) := by decide +kernel
theorem dJ6_bitCount_0f7a4_32 : decode cJ6_bitCount_0f7a4 32 = .ok (.iand, 1) := by decide +kernel
theorem dJ6_bitCount_0f7a4_33 : decode cJ6_bitCount_0f7a4 33 = .ok (.istore_n 0, 1) := by decide +kernel
theorem dJ6_bitCount_0f7a4_34 : decode cJ6_bitCount_0f7a4 34 = .ok (.iload_n 0, 1) := by decide +kernel
theorem dJ6_bitCount_0f7a4_35 : decode cJ6_bitCount_0f7a4 35 = .ok (.iload_n 0, 1) := by decide +kernel
theorem dJ6_bitCount_0f7a4_36 : decode cJ6_bitCount_0f7a4 36 = .ok (.bipush 8, 2) := by decide +kernel
theorem dJ6_bitCount_0f7a4_38 : decode cJ6_bitCount_0f7a4 38 = .ok (.iushr, 1) := by decide +kernel
theorem dJ6_bitCount_0f7a4_39 : decode cJ6_bitCount_0f7a4 39 = .ok (.iadd, 1) := by decide +kernel
theorem dJ6_bitCount_0f7a4_40 : decode cJ6_bitCount_0f7a4 40 = .ok (.istore_n 0, 1) := by decide +kernel
theorem dJ6_bitCount_0f7a4_41 : decode cJ6_bitCount_0f7a4 41 = .ok (.iload_n 0, 1) := by decide +kernel
theorem dJ6_bitCount_0f7a4_42 : decode cJ6_bitCount_0f7a4 42 = .ok (.iload_n 0, 1) := by decide +kernel
theorem dJ6_bitCount_0f7a4_43 : decode cJ6_bitCount_0f7a4 43 = .ok (.bipush 16, 2) := by decide +kernel
theorem dJ6_bitCount_0f7a4_45 : decode cJ6_bitCount_0f7a4 45 = .ok (.iushr, 1) := by decide +kernel
theorem dJ6_bitCount_0f7a4_46 : decode cJ6_bitCount_0f7a4 46 = .ok (.iadd, 1) := by decide +kernel
theorem dJ6_bitCount_0f7a4_47 : decode cJ6_bitCount_0f7a4 47 = .ok (.istore_n 0, 1) := by decide +kernel
theorem dJ6_bitCount_0f7a4_48 : decode cJ6_bitCount_0f7a4 48 = .ok (.iload_n 0, 1) := by decide +kernel
theorem dJ6_bitCount_0f7a4_49 : decode cJ6_bitCount_0f7a4 49 = .ok (.bipush 63, 2) := by decide +kernel
theorem dJ6_bitCount_0f7a4_51 : decode cJ6_bitCount_0f7a4 51 = .ok (.iand, 1) := by decide +kernel
theorem dJ6_bitCount_0f7a4_52 : decode cJ6_bitCount_0f7a4 52 = .ok (.ireturn, 1) := by decide +kernel
theorem dJ9_floorMod_7cf53_0 : decode cJ9_floorMod_7cf53 0 = .ok (.iload_n 0, 1) := by decide +kernel
theorem dJ9_floorMod_7cf53_1 : decode cJ9_floorMod_7cf53 1 = .ok (.iload_n 1, 1) := by decide +kernel
theorem dJ9_floorMod_7cf53_2 : decode cJ9_floorMod_7cf53 2 = .ok (.irem, 1) := by decide +kernel
theorem dJ9_floorMod_7cf53_3 : decode cJ9_floorMod_7cf53 3 = .ok (.istore_n 2, 1) := by decide +kernel
theorem dJ9_floorMod_7cf53_4 : decode cJ9_floorMod_7cf53 4 = .ok (.iload_n 0, 1) := by decide +kernel
theorem dJ9_floorMod_7cf53_5 : decode cJ9_floorMod_7cf53 5 = .ok (.iload_n 1, 1) := by decide +kernel
theorem dJ9_floorMod_7cf53_6 : decode cJ9_floorMod_7cf53 6 = .ok (.ixor, 1) := by decide +kernel
theorem dJ9_floorMod_7cf53_7 : decode cJ9_floorMod_7cf53 7 = .ok (.ifCond .ge 11, 3) := by decide +kernel
theorem dJ9_floorMod_7cf53_10 : decode cJ9_floorMod_7cf53 10 = .ok (.iload_n 2, 1) := by decide +kernel
theorem dJ9_floorMod_7cf53_11 : decode cJ9_floorMod_7cf53 11 = .ok (.ifCond .eq 7, 3) := by decide +kernel
theorem dJ9_floorMod_7cf53_14 : decode cJ9_floorMod_7cf53 14 = .ok (.iload_n 2, 1) := by decide +kernel
theorem dJ9_floorMod_7cf53_15 : decode cJ9_floorMod_7cf53 15 = .ok (.iload_n 1, 1) := by decide +kernel
theorem dJ9_floorMod_7cf53_16 : decode cJ9_floorMod_7cf53 16 = .ok (.iadd, 1) := by decide +kernel
theorem dJ9_floorMod_7cf53_17 : decode cJ9_floorMod_7cf53 17 = .ok (.ireturn, 1) := by decide +kernel
theorem dJ9_floorMod_7cf53_18 : decode cJ9_floorMod_7cf53 18 = .ok (.iload_n 2, 1) := by decide +kernel
theorem dJ9_floorMod_7cf53_19 : decode cJ9_floorMod_7cf53 19 = .ok (.ireturn, 1) := by decide +kernel
theorem dJ9_max_7cf53_0 : decode cJ9_max_7cf53 0 = .ok (.iload_n 0, 1) := by decide +kernel
theorem dJ9_max_7cf53_1 : decode cJ9_max_7cf53 1 = .ok (.iload_n 1, 1) := by decide +kernel
theorem dJ9_max_7cf53_2 : decode cJ9_max_7cf53 2 = .ok (.if_icmp .lt 7, 3) := by decide +kernel
theorem dJ9_max_7cf53_5 : decode cJ9_max_7cf53 5 = .ok (.iload_n 0, 1) := by decide +kernel
theorem dJ9_max_7cf53_6 : decode cJ9_max_7cf53 6 = .ok (.goto 4, 3) := by decide +kernel
theorem dJ9_max_7cf53_9 : decode cJ9_max_7cf53 9 = .ok (.iload_n 1, 1) := by decide +kernel
theorem dJ9_max_7cf53_10 : decode cJ9_max_7cf53 10 = .ok (.ireturn, 1) := by decide +kernel
theorem dJ9_min_7cf53_0 : decode cJ9_min_7cf53 0 = .ok (.iload_n 0, 1) := by decide +kernel
theorem dJ9_min_7cf53_1 : decode cJ9_min_7cf53 1 = .ok (.iload_n 1, 1) := by decide +kernel
theorem dJ9_min_7cf53_2 : decode cJ9_min_7cf53 2 = .ok (.if_icmp .gt 7, 3) := by decide +kernel
theorem dJ9_min_7cf53_5 : decode cJ9_min_7cf53 5 = .ok (.iload_n 0, 1) := by decide +kernel
theorem dJ9_min_7cf53_6 : decode cJ9_min_7cf53 6 = .ok (.goto 4, 3) := by decide +kernel
theorem dJ9_min_7cf53_9 : decode cJ9_min_7cf53 9 = .ok (.iload_n 1, 1) := by decide +kernel
theorem dJ9_min_7cf53_10 : decode cJ9_min_7cf53 10 = .ok (.ireturn, 1) := by decide +kernel

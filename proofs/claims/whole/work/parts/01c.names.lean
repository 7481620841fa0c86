set_option maxRecDepth 20000 in
theorem ggX6_swear_X4_canSwear : GoodIn wsX6_swear wsX4_canSwear := goodIn_r _ [18, 19, 20, 21, 6, 7, 8, 9, 10, 11, 12, 13, 22, 23, 24, 17, 25, 26, 27, 28, 29, 30, 70, 71, 72, 73, 74, 75, 76, 77, 78, 79, 80, 81, 82, 83, 84, 85, 86] (by decide +kernel) (by decide +kernel)
set_option maxRecDepth 20000 in
theorem gX6_swear_X4_canSwear : GoodIn wsX6_swear (wsV RX6 164 RX4 yX4_canSwear wsX4_canSwear) := goodIn_app (goodIn_of _ (by decide +kernel)) ggX6_swear_X4_canSwear
set_option maxRecDepth 20000 in
theorem ggX6_swear_X0_push : GoodIn wsX6_swear wsX0_push := goodIn_r _ [35, 36, 37, 38, 39, 40, 41, 42, 43, 44, 17, 45, 46, 47, 26, 48, 49, 50, 12, 51, 87, 88, 70, 71, 72, 73, 74, 75] (by decide +kernel) (by decide +kernel)
set_option maxRecDepth 20000 in
theorem gX6_swear_X0_push : GoodIn wsX6_swear (wsV RX6 147 RX0 yX0_push wsX0_push) := goodIn_app (goodIn_of _ (by decide +kernel)) ggX6_swear_X0_push
set_option maxRecDepth 20000 in
theorem ggX6_swear_J6_bitCount_0f7a4 : GoodIn wsX6_swear wsJ6_bitCount_0f7a4 := goodIn_r _ [55, 56, 57, 58] (by decide +kernel) (by decide +kernel)
set_option maxRecDepth 20000 in
theorem gX6_swear_J6_bitCount_0f7a4 : GoodIn wsX6_swear (va_wsS RX6 167 yJ6_bitCount_0f7a4 wsJ6_bitCount_0f7a4) := goodIn_app (goodIn_of _ (by decide +kernel)) ggX6_swear_J6_bitCount_0f7a4
theorem dX6_swear_0 : decode cX6_swear 0 = .ok (.aload_n 0, 1) := by decide +kernel
theorem dX6_swear_1 : decode cX6_swear 1 = .ok (.getfield 32, 3) := by decide +kernel
theorem dX6_swear_4 : decode cX6_swear 4 = .ok (.iload_n 1, 1) := by decide +kernel
theorem dX6_swear_5 : decode cX6_swear 5 = .ok (.invokevirtual 132, 3) := by decide +kernel
theorem dX6_swear_8 : decode cX6_swear 8 = .ok (.ifCond .ne 5, 3) := by decide +kernel
theorem dX6_swear_11 : decode cX6_swear 11 = .ok (.iconst (-1), 1) := by decide +kernel
theorem dX6_swear_12 : decode cX6_swear 12 = .ok (.ireturn, 1) := by decide +kernel
theorem dX6_swear_13 : decode cX6_swear 13 = .ok (.aload_n 0, 1) := by decide +kernel
theorem dX6_swear_14 : decode cX6_swear 14 = .ok (.getfield 40, 3) := by decide +kernel
theorem dX6_swear_17 : decode cX6_swear 17 = .ok (.iload_n 1, 1) := by decide +kernel
theorem dX6_swear_18 : decode cX6_swear 18 = .ok (.invokevirtual 164, 3) := by decide +kernel
theorem dX6_swear_21 : decode cX6_swear 21 = .ok (.ifCond .ne 6, 3) := by decide +kernel
theorem dX6_swear_24 : decode cX6_swear 24 = .ok (.bipush (-3), 2) := by decide +kernel
theorem dX6_swear_26 : decode cX6_swear 26 = .ok (.ireturn, 1) := by decide +kernel
theorem dX6_swear_27 : decode cX6_swear 27 = .ok (.aload_n 0, 1) := by decide +kernel
theorem dX6_swear_28 : decode cX6_swear 28 = .ok (.getfield 50, 3) := by decide +kernel
theorem dX6_swear_31 : decode cX6_swear 31 = .ok (.aload_n 0, 1) := by decide +kernel
theorem dX6_swear_32 : decode cX6_swear 32 = .ok (.getfield 40, 3) := by decide +kernel
theorem dX6_swear_35 : decode cX6_swear 35 = .ok (.invokevirtual 147, 3) := by decide +kernel
theorem dX6_swear_38 : decode cX6_swear 38 = .ok (.aload_n 0, 1) := by decide +kernel
theorem dX6_swear_39 : decode cX6_swear 39 = .ok (.getfield 40, 3) := by decide +kernel
theorem dX6_swear_42 : decode cX6_swear 42 = .ok (.dup, 1) := by decide +kernel
theorem dX6_swear_43 : decode cX6_swear 43 = .ok (.getfield 125, 3) := by decide +kernel
theorem dX6_swear_46 : decode cX6_swear 46 = .ok (.iconst 1, 1) := by decide +kernel
theorem dX6_swear_47 : decode cX6_swear 47 = .ok (.iload_n 1, 1) := by decide +kernel
theorem dX6_swear_48 : decode cX6_swear 48 = .ok (.ishl, 1) := by decide +kernel
theorem dX6_swear_49 : decode cX6_swear 49 = .ok (.ior, 1) := by decide +kernel
theorem dX6_swear_50 : decode cX6_swear 50 = .ok (.putfield 125, 3) := by decide +kernel
theorem dX6_swear_53 : decode cX6_swear 53 = .ok (.aload_n 0, 1) := by decide +kernel
theorem dX6_swear_54 : decode cX6_swear 54 = .ok (.getfield 40, 3) := by decide +kernel
theorem dX6_swear_57 : decode cX6_swear 57 = .ok (.getfield 125, 3) := by decide +kernel
theorem dX6_swear_60 : decode cX6_swear 60 = .ok (.invokestatic 167, 3) := by decide +kernel
theorem dX6_swear_63 : decode cX6_swear 63 = .ok (.ireturn, 1) := by decide +kernel
set_option maxRecDepth 20000 in
theorem ggX6_form_X1_hasOath : GoodIn wsX6_form wsX1_hasOath := goodIn_r _ [8, 9, 10, 11, 12, 74, 75, 76, 77, 78, 79, 80, 81, 82, 83, 84] (by decide +kernel) (by decide +kernel)
set_option maxRecDepth 20000 in
theorem gX6_form_X1_hasOath : GoodIn wsX6_form (wsV RX6 132 RX1 yX1_hasOath wsX1_hasOath) := goodIn_app (goodIn_of _ (by decide +kernel)) ggX6_form_X1_hasOath
set_option maxRecDepth 20000 in
theorem ggX6_form_X4_isSworn : GoodIn wsX6_form wsX4_isSworn := goodIn_r _ [17, 18, 19, 20, 5, 6, 7, 8, 9, 10, 11, 12, 21, 22, 85, 86, 87, 88, 89, 90, 74, 75, 76, 77, 78, 79, 80, 81, 82, 83, 84] (by decide +kernel) (by decide +kernel)
set_option maxRecDepth 20000 in
theorem gX6_form_X4_isSworn : GoodIn wsX6_form (wsV RX6 172 RX4 yX4_isSworn wsX4_isSworn) := goodIn_app (goodIn_of _ (by decide +kernel)) ggX6_form_X4_isSworn
set_option maxRecDepth 20000 in
theorem ggX6_form_X0_push : GoodIn wsX6_form wsX0_push := goodIn_r _ [27, 28, 29, 30, 31, 32, 33, 34, 35, 36, 16, 37, 38, 39, 19, 40, 41, 42, 11, 43, 91, 92, 85, 86, 87, 88, 89, 90] (by decide +kernel) (by decide +kernel)
set_option maxRecDepth 20000 in
theorem gX6_form_X0_push : GoodIn wsX6_form (wsV RX6 147 RX0 yX0_push wsX0_push) := goodIn_app (goodIn_of _ (by decide +kernel)) ggX6_form_X0_push
set_option maxRecDepth 20000 in
theorem ggX6_form_X4_letOff : GoodIn wsX6_form wsX4_letOff := goodIn_r _ [47, 19, 48, 49, 50, 16, 51, 18, 52, 53, 54, 11, 55, 21, 22, 56, 57, 58, 59, 60, 61, 62, 85, 86, 87, 88, 89, 90, 74, 75, 76, 77, 78, 79, 80, 81, 82, 83, 84] (by decide +kernel) (by decide +kernel)
set_option maxRecDepth 20000 in
theorem gX6_form_X4_letOff : GoodIn wsX6_form (wsV RX6 175 RX4 yX4_letOff wsX4_letOff) := goodIn_app (goodIn_of _ (by decide +kernel)) ggX6_form_X4_letOff
theorem dX6_form_0 : decode cX6_form 0 = .ok (.aload_n 0, 1) := by decide +kernel
theorem dX6_form_1 : decode cX6_form 1 = .ok (.getfield 32, 3) := by decide +kernel
theorem dX6_form_4 : decode cX6_form 4 = .ok (.iload_n 1, 1) := by decide +kernel
theorem dX6_form_5 : decode cX6_form 5 = .ok (.invokevirtual 132, 3) := by decide +kernel
theorem dX6_form_8 : decode cX6_form 8 = .ok (.ifCond .ne 5, 3) := by decide +kernel
theorem dX6_form_11 : decode cX6_form 11 = .ok (.iconst (-1), 1) := by decide +kernel
theorem dX6_form_12 : decode cX6_form 12 = .ok (.ireturn, 1) := by decide +kernel
theorem dX6_form_13 : decode cX6_form 13 = .ok (.aload_n 0, 1) := by decide +kernel
theorem dX6_form_14 : decode cX6_form 14 = .ok (.getfield 40, 3) := by decide +kernel
theorem dX6_form_17 : decode cX6_form 17 = .ok (.iload_n 1, 1) := by decide +kernel
theorem dX6_form_18 : decode cX6_form 18 = .ok (.invokevirtual 172, 3) := by decide +kernel
theorem dX6_form_21 : decode cX6_form 21 = .ok (.ifCond .ne 6, 3) := by decide +kernel
theorem dX6_form_24 : decode cX6_form 24 = .ok (.bipush (-3), 2) := by decide +kernel
theorem dX6_form_26 : decode cX6_form 26 = .ok (.ireturn, 1) := by decide +kernel
theorem dX6_form_27 : decode cX6_form 27 = .ok (.aload_n 0, 1) := by decide +kernel
theorem dX6_form_28 : decode cX6_form 28 = .ok (.getfield 50, 3) := by decide +kernel
theorem dX6_form_31 : decode cX6_form 31 = .ok (.aload_n 0, 1) := by decide +kernel
theorem dX6_form_32 : decode cX6_form 32 = .ok (.getfield 40, 3) := by decide +kernel
theorem dX6_form_35 : decode cX6_form 35 = .ok (.invokevirtual 147, 3) := by decide +kernel
theorem dX6_form_38 : decode cX6_form 38 = .ok (.aload_n 0, 1) := by decide +kernel
theorem dX6_form_39 : decode cX6_form 39 = .ok (.getfield 40, 3) := by decide +kernel
theorem dX6_form_42 : decode cX6_form 42 = .ok (.iload_n 1, 1) := by decide +kernel
theorem dX6_form_43 : decode cX6_form 43 = .ok (.invokevirtual 175, 3) := by decide +kernel
theorem dX6_form_46 : decode cX6_form 46 = .ok (.ireturn, 1) := by decide +kernel
set_option maxRecDepth 20000 in
theorem ggX6_move_X1_hasPerson : GoodIn wsX6_move wsX1_hasPerson := goodIn_r _ [8, 9, 10, 11, 12, 59, 60, 61, 62, 63, 64, 65, 66, 67, 68, 69] (by decide +kernel) (by decide +kernel)
set_option maxRecDepth 20000 in
theorem gX6_move_X1_hasPerson : GoodIn wsX6_move (wsV RX6 101 RX1 yX1_hasPerson wsX1_hasPerson) := goodIn_app (goodIn_of _ (by decide +kernel)) ggX6_move_X1_hasPerson
set_option maxRecDepth 20000 in
theorem ggX6_move_X6_isPlace : GoodIn wsX6_move wsX6_isPlace := goodIn_r _ [15, 16, 10, 11, 12] (by decide +kernel) (by decide +kernel)
set_option maxRecDepth 20000 in
theorem gX6_move_X6_isPlace : GoodIn wsX6_move (va_wsS RX6 155 yX6_isPlace wsX6_isPlace) := goodIn_app (goodIn_of _ (by decide +kernel)) ggX6_move_X6_isPlace
set_option maxRecDepth 20000 in
theorem ggX6_move_X4_placeOf : GoodIn wsX6_move wsX4_placeOf := goodIn_r _ [21, 22, 70, 71, 72, 73, 74, 75] (by decide +kernel) (by decide +kernel)
set_option maxRecDepth 20000 in
theorem gX6_move_X4_placeOf : GoodIn wsX6_move (wsV RX6 105 RX4 yX4_placeOf wsX4_placeOf) := goodIn_app (goodIn_of _ (by decide +kernel)) ggX6_move_X4_placeOf
set_option maxRecDepth 20000 in
theorem ggX6_move_X0_push : GoodIn wsX6_move wsX0_push := goodIn_r _ [27, 28, 29, 30, 31, 32, 33, 34, 35, 36, 20, 37, 22, 38, 39, 40, 41, 42, 11, 43, 76, 77, 70, 71, 72, 73, 74, 75] (by decide +kernel) (by decide +kernel)
set_option maxRecDepth 20000 in
theorem gX6_move_X0_push : GoodIn wsX6_move (wsV RX6 147 RX0 yX0_push wsX0_push) := goodIn_app (goodIn_of _ (by decide +kernel)) ggX6_move_X0_push
set_option maxRecDepth 20000 in
theorem ggX6_move_X4_putAt : GoodIn wsX6_move wsX4_putAt := goodIn_r _ [47, 22, 70, 71, 72, 73, 74, 75] (by decide +kernel) (by decide +kernel)
set_option maxRecDepth 20000 in
theorem gX6_move_X4_putAt : GoodIn wsX6_move (wsV RX6 178 RX4 yX4_putAt wsX4_putAt) := goodIn_app (goodIn_of _ (by decide +kernel)) ggX6_move_X4_putAt
theorem dX6_move_0 : decode cX6_move 0 = .ok (.aload_n 0, 1) := by decide +kernel
theorem dX6_move_1 : decode cX6_move 1 = .ok (.getfield 32, 3) := by decide +kernel
theorem dX6_move_4 : decode cX6_move 4 = .ok (.iload_n 1, 1) := by decide +kernel
theorem dX6_move_5 : decode cX6_move 5 = .ok (.invokevirtual 101, 3) := by decide +kernel
theorem dX6_move_8 : decode cX6_move 8 = .ok (.ifCond .eq 10, 3) := by decide +kernel
theorem dX6_move_11 : decode cX6_move 11 = .ok (.iload_n 2, 1) := by decide +kernel
theorem dX6_move_12 : decode cX6_move 12 = .ok (.invokestatic 155, 3) := by decide +kernel
theorem dX6_move_15 : decode cX6_move 15 = .ok (.ifCond .ne 5, 3) := by decide +kernel
theorem dX6_move_18 : decode cX6_move 18 = .ok (.iconst (-1), 1) := by decide +kernel
theorem dX6_move_19 : decode cX6_move 19 = .ok (.ireturn, 1) := by decide +kernel
theorem dX6_move_20 : decode cX6_move 20 = .ok (.aload_n 0, 1) := by decide +kernel
theorem dX6_move_21 : decode cX6_move 21 = .ok (.getfield 40, 3) := by decide +kernel
theorem dX6_move_24 : decode cX6_move 24 = .ok (.iload_n 1, 1) := by decide +kernel
theorem dX6_move_25 : decode cX6_move 25 = .ok (.invokevirtual 105, 3) := by decide +kernel
theorem dX6_move_28 : decode cX6_move 28 = .ok (.istore_n 3, 1) := by decide +kernel
theorem dX6_move_29 : decode cX6_move 29 = .ok (.iload_n 3, 1) := by decide +kernel
theorem dX6_move_30 : decode cX6_move 30 = .ok (.iload_n 2, 1) := by decide +kernel
theorem dX6_move_31 : decode cX6_move 31 = .ok (.if_icmp .ne 6, 3) := by decide +kernel
theorem dX6_move_34 : decode cX6_move 34 = .ok (.bipush (-3), 2) := by decide +kernel
theorem dX6_move_36 : decode cX6_move 36 = .ok (.ireturn, 1) := by decide +kernel
theorem dX6_move_37 : decode cX6_move 37 = .ok (.aload_n 0, 1) := by decide +kernel
theorem dX6_move_38 : decode cX6_move 38 = .ok (.getfield 50, 3) := by decide +kernel
theorem dX6_move_41 : decode cX6_move 41 = .ok (.aload_n 0, 1) := by decide +kernel
theorem dX6_move_42 : decode cX6_move 42 = .ok (.getfield 40, 3) := by decide +kernel
theorem dX6_move_45 : decode cX6_move 45 = .ok (.invokevirtual 147, 3) := by decide +kernel
theorem dX6_move_48 : decode cX6_move 48 = .ok (.aload_n 0, 1) := by decide +kernel
theorem dX6_move_49 : decode cX6_move 49 = .ok (.getfield 40, 3) := by decide +kernel
theorem dX6_move_52 : decode cX6_move 52 = .ok (.iload_n 1, 1) := by decide +kernel
theorem dX6_move_53 : decode cX6_move 53 = .ok (.iload_n 2, 1) := by decide +kernel
theorem dX6_move_54 : decode cX6_move 54 = .ok (.invokevirtual 178, 3) := by decide +kernel
theorem dX6_move_57 : decode cX6_move 57 = .ok (.iload_n 3, 1) := by decide +kernel
theorem dX6_move_58 : decode cX6_move 58 = .ok (.ireturn, 1) := by decide +kernel
set_option maxRecDepth 20000 in
theorem ggX6_wool_X1_hasPerson : GoodIn wsX6_wool wsX1_hasPerson := goodIn_r _ [9, 10, 11, 12, 13, 69, 70, 71, 72, 73, 74, 75, 76, 77, 78, 79] (by decide +kernel) (by decide +kernel)
set_option maxRecDepth 20000 in
theorem gX6_wool_X1_hasPerson : GoodIn wsX6_wool (wsV RX6 101 RX1 yX1_hasPerson wsX1_hasPerson) := goodIn_app (goodIn_of _ (by decide +kernel)) ggX6_wool_X1_hasPerson
set_option maxRecDepth 20000 in
theorem ggX6_wool_X1_canTurnWool : GoodIn wsX6_wool wsX1_canTurnWool := goodIn_r _ [17, 18, 19, 20, 8, 21, 22, 23, 6, 7, 9, 10, 11, 12, 13, 24, 25, 69, 70, 71, 72, 73, 74, 75, 76, 77, 78, 79] (by decide +kernel) (by decide +kernel)
set_option maxRecDepth 20000 in
theorem gX6_wool_X1_canTurnWool : GoodIn wsX6_wool (wsV RX6 182 RX1 yX1_canTurnWool wsX1_canTurnWool) := goodIn_app (goodIn_of _ (by decide +kernel)) ggX6_wool_X1_canTurnWool
set_option maxRecDepth 20000 in
theorem ggX6_wool_X0_push : GoodIn wsX6_wool wsX0_push := goodIn_r _ [30, 31, 32, 33, 34, 35, 36, 37, 38, 39, 40, 41, 42, 43, 44, 45, 46, 47, 12, 48, 80, 81, 63, 64, 65, 66, 67, 68] (by decide +kernel) (by decide +kernel)
set_option maxRecDepth 20000 in
theorem gX6_wool_X0_push : GoodIn wsX6_wool (wsV RX6 147 RX0 yX0_push wsX0_push) := goodIn_app (goodIn_of _ (by decide +kernel)) ggX6_wool_X0_push
set_option maxRecDepth 20000 in
theorem ggX6_wool_X6_bit : GoodIn wsX6_wool wsX6_bit := goodIn_r _ [51] (by decide +kernel) (by decide +kernel)
set_option maxRecDepth 20000 in
theorem gX6_wool_X6_bit : GoodIn wsX6_wool (va_wsS RX6 118 yX6_bit wsX6_bit) := goodIn_app (goodIn_of _ (by decide +kernel)) ggX6_wool_X6_bit
theorem dX6_wool_0 : decode cX6_wool 0 = .ok (.aload_n 0, 1) := by decide +kernel
theorem dX6_wool_1 : decode cX6_wool 1 = .ok (.getfield 32, 3) := by decide +kernel
theorem dX6_wool_4 : decode cX6_wool 4 = .ok (.iload_n 1, 1) := by decide +kernel
theorem dX6_wool_5 : decode cX6_wool 5 = .ok (.invokevirtual 101, 3) := by decide +kernel
theorem dX6_wool_8 : decode cX6_wool 8 = .ok (.ifCond .ne 5, 3) := by decide +kernel
theorem dX6_wool_11 : decode cX6_wool 11 = .ok (.iconst (-1), 1) := by decide +kernel
theorem dX6_wool_12 : decode cX6_wool 12 = .ok (.ireturn, 1) := by decide +kernel
theorem dX6_wool_13 : decode cX6_wool 13 = .ok (.aload_n 0, 1) := by decide +kernel
theorem dX6_wool_14 : decode cX6_wool 14 = .ok (.getfield 32, 3) := by decide +kernel
theorem dX6_wool_17 : decode cX6_wool 17 = .ok (.iload_n 1, 1) := by decide +kernel
theorem dX6_wool_18 : decode cX6_wool 18 = .ok (.invokevirtual 182, 3) := by decide +kernel
theorem dX6_wool_21 : decode cX6_wool 21 = .ok (.ifCond .ne 6, 3) := by decide +kernel
theorem dX6_wool_24 : decode cX6_wool 24 = .ok (.bipush (-3), 2) := by decide +kernel
theorem dX6_wool_26 : decode cX6_wool 26 = .ok (.ireturn, 1) := by decide +kernel
theorem dX6_wool_27 : decode cX6_wool 27 = .ok (.aload_n 0, 1) := by decide +kernel
theorem dX6_wool_28 : decode cX6_wool 28 = .ok (.getfield 50, 3) := by decide +kernel
theorem dX6_wool_31 : decode cX6_wool 31 = .ok (.aload_n 0, 1) := by decide +kernel
theorem dX6_wool_32 : decode cX6_wool 32 = .ok (.getfield 40, 3) := by decide +kernel
theorem dX6_wool_35 : decode cX6_wool 35 = .ok (.invokevirtual 147, 3) := by decide +kernel
theorem dX6_wool_38 : decode cX6_wool 38 = .ok (.aload_n 0, 1) := by decide +kernel
theorem dX6_wool_39 : decode cX6_wool 39 = .ok (.getfield 40, 3) := by decide +kernel
theorem dX6_wool_42 : decode cX6_wool 42 = .ok (.dup, 1) := by decide +kernel
theorem dX6_wool_43 : decode cX6_wool 43 = .ok (.getfield 115, 3) := by decide +kernel
theorem dX6_wool_46 : decode cX6_wool 46 = .ok (.iconst 1, 1) := by decide +kernel
theorem dX6_wool_47 : decode cX6_wool 47 = .ok (.iload_n 1, 1) := by decide +kernel
theorem dX6_wool_48 : decode cX6_wool 48 = .ok (.ishl, 1) := by decide +kernel
theorem dX6_wool_49 : decode cX6_wool 49 = .ok (.ixor, 1) := by decide +kernel
theorem dX6_wool_50 : decode cX6_wool 50 = .ok (.putfield 115, 3) := by decide +kernel
theorem dX6_wool_53 : decode cX6_wool 53 = .ok (.aload_n 0, 1) := by decide +kernel
theorem dX6_wool_54 : decode cX6_wool 54 = .ok (.getfield 40, 3) := by decide +kernel
theorem dX6_wool_57 : decode cX6_wool 57 = .ok (.getfield 115, 3) := by decide +kernel
theorem dX6_wool_60 : decode cX6_wool 60 = .ok (.iload_n 1, 1) := by decide +kernel
theorem dX6_wool_61 : decode cX6_wool 61 = .ok (.invokestatic 118, 3) := by decide +kernel
theorem dX6_wool_64 : decode cX6_wool 64 = .ok (.ireturn, 1) := by decide +kernel
set_option maxRecDepth 20000 in
theorem ggX6_undo_X0_pop : GoodIn wsX6_undo wsX0_pop := goodIn_r _ [8, 9, 10, 11, 12, 13, 14, 15, 16, 17, 18, 19, 20, 21, 22, 23, 35, 36, 37, 38, 39, 40, 41, 42] (by decide +kernel) (by decide +kernel)
set_option maxRecDepth 20000 in
theorem gX6_undo_X0_pop : GoodIn wsX6_undo (wsV RX6 185 RX0 yX0_pop wsX0_pop) := goodIn_app (goodIn_of _ (by decide +kernel)) ggX6_undo_X0_pop
theorem dX6_undo_0 : decode cX6_undo 0 = .ok (.aload_n 0, 1) := by decide +kernel
theorem dX6_undo_1 : decode cX6_undo 1 = .ok (.getfield 50, 3) := by decide +kernel
theorem dX6_undo_4 : decode cX6_undo 4 = .ok (.getfield 91, 3) := by decide +kernel
theorem dX6_undo_7 : decode cX6_undo 7 = .ok (.ifCond .ne 6, 3) := by decide +kernel
theorem dX6_undo_10 : decode cX6_undo 10 = .ok (.bipush (-3), 2) := by decide +kernel
theorem dX6_undo_12 : decode cX6_undo 12 = .ok (.ireturn, 1) := by decide +kernel
theorem dX6_undo_13 : decode cX6_undo 13 = .ok (.aload_n 0, 1) := by decide +kernel
theorem dX6_undo_14 : decode cX6_undo 14 = .ok (.getfield 50, 3) := by decide +kernel
theorem dX6_undo_17 : decode cX6_undo 17 = .ok (.aload_n 0, 1) := by decide +kernel
theorem dX6_undo_18 : decode cX6_undo 18 = .ok (.getfield 40, 3) := by decide +kernel
theorem dX6_undo_21 : decode cX6_undo 21 = .ok (.invokevirtual 185, 3) := by decide +kernel
theorem dX6_undo_24 : decode cX6_undo 24 = .ok (.ireturn, 1) := by decide +kernel
set_option maxRecDepth 20000 in
theorem ggX6_later_X6_within : GoodIn wsX6_later wsX6_within := goodIn_r _ [8] (by decide +kernel) (by decide +kernel)
set_option maxRecDepth 20000 in
theorem gX6_later_X6_within : GoodIn wsX6_later (va_wsS RX6 73 yX6_within wsX6_within) := goodIn_app (goodIn_of _ (by decide +kernel)) ggX6_later_X6_within
set_option maxRecDepth 20000 in
theorem ggX6_later_X4_copyFrom : GoodIn wsX6_later wsX4_copyFrom := goodIn_r _ [13, 14, 15, 16, 17, 18, 107, 108, 109, 110, 111, 112] (by decide +kernel) (by decide +kernel)
set_option maxRecDepth 20000 in
theorem gX6_later_X4_copyFrom : GoodIn wsX6_later (wsV RX6 189 RX4 yX4_copyFrom wsX4_copyFrom) := goodIn_app (goodIn_of _ (by decide +kernel)) ggX6_later_X4_copyFrom
set_option maxRecDepth 20000 in
theorem ggX6_later_X4_passDays : GoodIn wsX6_later wsX4_passDays := goodIn_r _ [22, 23, 24, 25, 12, 26, 17, 27, 16, 28, 29, 30, 31, 18, 32, 33, 34, 35, 36, 37, 38, 39, 40, 41, 42, 43, 44, 45, 46, 47, 48, 49, 50, 51, 7, 52, 53, 54, 55, 56, 57, 15, 58, 59, 60, 61, 62, 14, 63, 64, 65, 66, 67, 68, 69, 70, 71, 72, 73, 74, 75, 76, 77, 78, 79, 80, 81, 82, 83, 84, 85, 86, 87, 88, 89, 90, 91, 92, 93, 94, 95, 107, 108, 109, 110, 111, 112, 113, 114, 115, 116, 117, 118, 119, 120, 121, 122, 123] (by decide +kernel) (by decide +kernel)
set_option maxRecDepth 20000 in
theorem gX6_later_X4_passDays : GoodIn wsX6_later (wsV RX6 192 RX4 yX4_passDays wsX4_passDays) := goodIn_app (goodIn_of _ (by decide +kernel)) ggX6_later_X4_passDays
theorem dX6_later_0 : decode cX6_later 0 = .ok (.iload_n 1, 1) := by decide +kernel
theorem dX6_later_1 : decode cX6_later 1 = .ok (.iconst 0, 1) := by decide +kernel
theorem dX6_later_2 : decode cX6_later 2 = .ok (.bipush 30, 2) := by decide +kernel
theorem dX6_later_4 : decode cX6_later 4 = .ok (.invokestatic 73, 3) := by decide +kernel
theorem dX6_later_7 : decode cX6_later 7 = .ok (.ifCond .eq 12, 3) := by decide +kernel
theorem dX6_later_10 : decode cX6_later 10 = .ok (.iload_n 2, 1) := by decide +kernel
theorem dX6_later_11 : decode cX6_later 11 = .ok (.iconst 0, 1) := by decide +kernel
theorem dX6_later_12 : decode cX6_later 12 = .ok (.iconst 1, 1) := by decide +kernel
theorem dX6_later_13 : decode cX6_later 13 = .ok (.invokestatic 73, 3) := by decide +kernel
theorem dX6_later_16 : decode cX6_later 16 = .ok (.ifCond .ne 6, 3) := by decide +kernel
theorem dX6_later_19 : decode cX6_later 19 = .ok (.bipush (-2), 2) := by decide +kernel
theorem dX6_later_21 : decode cX6_later 21 = .ok (.ireturn, 1) := by decide +kernel
theorem dX6_later_22 : decode cX6_later 22 = .ok (.aload_n 0, 1) := by decide +kernel
theorem dX6_later_23 : decode cX6_later 23 = .ok (.getfield 44, 3) := by decide +kernel
theorem dX6_later_26 : decode cX6_later 26 = .ok (.aload_n 0, 1) := by decide +kernel
theorem dX6_later_27 : decode cX6_later 27 = .ok (.getfield 40, 3) := by decide +kernel
theorem dX6_later_30 : decode cX6_later 30 = .ok (.invokevirtual 189, 3) := by decide +kernel
theorem dX6_later_33 : decode cX6_later 33 = .ok (.aload_n 0, 1) := by decide +kernel
theorem dX6_later_34 : decode cX6_later 34 = .ok (.getfield 44, 3) := by decide +kernel
theorem dX6_later_37 : decode cX6_later 37 = .ok (.iload_n 1, 1) := by decide +kernel
theorem dX6_later_38 : decode cX6_later 38 = .ok (.invokevirtual 192, 3) := by decide +kernel
theorem dX6_later_41 : decode cX6_later 41 = .ok (.iload_n 2, 1) := by decide +kernel
theorem dX6_later_42 : decode cX6_later 42 = .ok (.ifCond .ne 13, 3) := by decide +kernel
theorem dX6_later_45 : decode cX6_later 45 = .ok (.aload_n 0, 1) := by decide +kernel
theorem dX6_later_46 : decode cX6_later 46 = .ok (.getfield 44, 3) := by decide +kernel
theorem dX6_later_49 : decode cX6_later 49 = .ok (.getfield 125, 3) := by decide +kernel
theorem dX6_later_52 : decode cX6_later 52 = .ok (.goto 10, 3) := by decide +kernel
theorem dX6_later_55 : decode cX6_later 55 = .ok (.aload_n 0, 1) := by decide +kernel
theorem dX6_later_56 : decode cX6_later 56 = .ok (.getfield 44, 3) := by decide +kernel
theorem dX6_later_59 : decode cX6_later 59 = .ok (.getfield 196, 3) := by decide +kernel
theorem dX6_later_62 : decode cX6_later 62 = .ok (.ireturn, 1) := by decide +kernel
set_option maxRecDepth 20000 in
theorem ggX6_lasts_X1_hasOath : GoodIn wsX6_lasts wsX1_hasOath := goodIn_r _ [8, 9, 10, 11, 12, 110, 111, 112, 113, 114, 115, 116, 117, 118, 119, 120] (by decide +kernel) (by decide +kernel)
set_option maxRecDepth 20000 in
theorem gX6_lasts_X1_hasOath : GoodIn wsX6_lasts (wsV RX6 132 RX1 yX1_hasOath wsX1_hasOath) := goodIn_app (goodIn_of _ (by decide +kernel)) ggX6_lasts_X1_hasOath
set_option maxRecDepth 20000 in
theorem ggX6_lasts_X4_isSworn : GoodIn wsX6_lasts wsX4_isSworn := goodIn_r _ [17, 18, 19, 20, 5, 6, 7, 8, 9, 10, 11, 12, 21, 22, 121, 122, 123, 124, 125, 126, 110, 111, 112, 113, 114, 115, 116, 117, 118, 119, 120] (by decide +kernel) (by decide +kernel)
set_option maxRecDepth 20000 in
theorem gX6_lasts_X4_isSworn : GoodIn wsX6_lasts (wsV RX6 172 RX4 yX4_isSworn wsX4_isSworn) := goodIn_app (goodIn_of _ (by decide +kernel)) ggX6_lasts_X4_isSworn
set_option maxRecDepth 20000 in
theorem ggX6_lasts_X4_copyFrom : GoodIn wsX6_lasts wsX4_copyFrom := goodIn_r _ [26, 27, 28, 19, 29, 30, 121, 122, 123, 124, 125, 126] (by decide +kernel) (by decide +kernel)
set_option maxRecDepth 20000 in
theorem gX6_lasts_X4_copyFrom : GoodIn wsX6_lasts (wsV RX6 189 RX4 yX4_copyFrom wsX4_copyFrom) := goodIn_app (goodIn_of _ (by decide +kernel)) ggX6_lasts_X4_copyFrom
set_option maxRecDepth 20000 in
theorem ggX6_lasts_X4_passDay : GoodIn wsX6_lasts wsX4_passDay := goodIn_r _ [34, 29, 18, 19, 35, 36, 37, 38, 30, 39, 40, 41, 16, 42, 43, 44, 45, 46, 47, 7, 48, 49, 50, 51, 52, 53, 54, 55, 56, 57, 11, 58, 59, 60, 61, 62, 63, 28, 64, 65, 66, 67, 68, 27, 21, 22, 69, 70, 71, 72, 73, 74, 75, 76, 77, 78, 79, 80, 81, 82, 83, 84, 85, 86, 87, 88, 89, 90, 91, 92, 93, 94, 95, 96, 97, 9, 98, 121, 122, 123, 124, 125, 126, 110, 111, 112, 113, 114, 115, 116, 117, 118, 119, 120] (by decide +kernel) (by decide +kernel)
set_option maxRecDepth 20000 in
theorem gX6_lasts_X4_passDay : GoodIn wsX6_lasts (wsV RX6 151 RX4 yX4_passDay wsX4_passDay) := goodIn_app (goodIn_of _ (by decide +kernel)) ggX6_lasts_X4_passDay
theorem dX6_lasts_0 : decode cX6_lasts 0 = .ok (.aload_n 0, 1) := by decide +kernel
theorem dX6_lasts_1 : decode cX6_lasts 1 = .ok (.getfield 32, 3) := by decide +kernel
theorem dX6_lasts_4 : decode cX6_lasts 4 = .ok (.iload_n 1, 1) := by decide +kernel
theorem dX6_lasts_5 : decode cX6_lasts 5 = .ok (.invokevirtual 132, 3) := by decide +kernel
theorem dX6_lasts_8 : decode cX6_lasts 8 = .ok (.ifCond .ne 5, 3) := by decide +kernel
theorem dX6_lasts_11 : decode cX6_lasts 11 = .ok (.iconst (-1), 1) := by decide +kernel
theorem dX6_lasts_12 : decode cX6_lasts 12 = .ok (.ireturn, 1) := by decide +kernel
theorem dX6_lasts_13 : decode cX6_lasts 13 = .ok (.aload_n 0, 1) := by decide +kernel
theorem dX6_lasts_14 : decode cX6_lasts 14 = .ok (.getfield 40, 3) := by decide +kernel
theorem dX6_lasts_17 : decode cX6_lasts 17 = .ok (.iload_n 1, 1) := by decide +kernel
theorem dX6_lasts_18 : decode cX6_lasts 18 = .ok (.invokevirtual 172, 3) := by decide +kernel
theorem dX6_lasts_21 : decode cX6_lasts 21 = .ok (.ifCond .ne 6, 3) := by decide +kernel
theorem dX6_lasts_24 : decode cX6_lasts 24 = .ok (.bipush (-3), 2) := by decide +kernel
theorem dX6_lasts_26 : decode cX6_lasts 26 = .ok (.ireturn, 1) := by decide +kernel
theorem dX6_lasts_27 : decode cX6_lasts 27 = .ok (.aload_n 0, 1) := by decide +kernel
theorem dX6_lasts_28 : decode cX6_lasts 28 = .ok (.getfield 44, 3) := by decide +kernel
theorem dX6_lasts_31 : decode cX6_lasts 31 = .ok (.aload_n 0, 1) := by decide +kernel
theorem dX6_lasts_32 : decode cX6_lasts 32 = .ok (.getfield 40, 3) := by decide +kernel
theorem dX6_lasts_35 : decode cX6_lasts 35 = .ok (.invokevirtual 189, 3) := by decide +kernel
theorem dX6_lasts_38 : decode cX6_lasts 38 = .ok (.iconst 1, 1) := by decide +kernel
theorem dX6_lasts_39 : decode cX6_lasts 39 = .ok (.istore_n 2, 1) := by decide +kernel
theorem dX6_lasts_40 : decode cX6_lasts 40 = .ok (.iload_n 2, 1) := by decide +kernel
theorem dX6_lasts_41 : decode cX6_lasts 41 = .ok (.bipush 30, 2) := by decide +kernel
theorem dX6_lasts_43 : decode cX6_lasts 43 = .ok (.if_icmp .gt 31, 3) := by decide +kernel
theorem dX6_lasts_46 : decode cX6_lasts 46 = .ok (.aload_n 0, 1) := by decide +kernel
theorem dX6_lasts_47 : decode cX6_lasts 47 = .ok (.getfield 44, 3) := by decide +kernel
theorem dX6_lasts_50 : decode cX6_lasts 50 = .ok (.iconst 1, 1) := by decide +kernel
theorem dX6_lasts_51 : decode cX6_lasts 51 = .ok (.invokevirtual 151, 3) := by decide +kernel
theorem dX6_lasts_54 : decode cX6_lasts 54 = .ok (.pop, 1) := by decide +kernel
theorem dX6_lasts_55 : decode cX6_lasts 55 = .ok (.aload_n 0, 1) := by decide +kernel
theorem dX6_lasts_56 : decode cX6_lasts 56 = .ok (.getfield 44, 3) := by decide +kernel
theorem dX6_lasts_59 : decode cX6_lasts 59 = .ok (.iload_n 1, 1) := by decide +kernel
theorem dX6_lasts_60 : decode cX6_lasts 60 = .ok (.invokevirtual 172, 3) := by decide +kernel
theorem dX6_lasts_63 : decode cX6_lasts 63 = .ok (.ifCond .ne 5, 3) := by decide +kernel
theorem dX6_lasts_66 : decode cX6_lasts 66 = .ok (.iload_n 2, 1) := by decide +kernel
theorem dX6_lasts_67 : decode cX6_lasts 67 = .ok (.ireturn, 1) := by decide +kernel
theorem dX6_lasts_68 : decode cX6_lasts 68 = .ok (.iinc 2 1, 3) := by decide +kernel
theorem dX6_lasts_71 : decode cX6_lasts 71 = .ok (.goto (-31), 3) := by decide +kernel
theorem dX6_lasts_74 : decode cX6_lasts 74 = .ok (.bipush (-9), 2) := by decide +kernel
theorem dX6_lasts_76 : decode cX6_lasts 76 = .ok (.ireturn, 1) := by decide +kernel
set_option maxRecDepth 20000 in
theorem ggX6_best_X1_hasPerson : GoodIn wsX6_best wsX1_hasPerson := goodIn_r _ [9, 10, 11, 12, 13, 122, 123, 124, 125, 126, 127, 128, 129, 130, 131, 132] (by decide +kernel) (by decide +kernel)
set_option maxRecDepth 20000 in
theorem gX6_best_X1_hasPerson : GoodIn wsX6_best (wsV RX6 101 RX1 yX1_hasPerson wsX1_hasPerson) := goodIn_app (goodIn_of _ (by decide +kernel)) ggX6_best_X1_hasPerson
set_option maxRecDepth 20000 in
theorem ggX6_best_X6_within : GoodIn wsX6_best wsX6_within := goodIn_r _ [13] (by decide +kernel) (by decide +kernel)
set_option maxRecDepth 20000 in
theorem gX6_best_X6_within : GoodIn wsX6_best (va_wsS RX6 73 yX6_within wsX6_within) := goodIn_app (goodIn_of _ (by decide +kernel)) ggX6_best_X6_within
set_option maxRecDepth 20000 in
theorem ggX6_best_X4_copyFrom : GoodIn wsX6_best wsX4_copyFrom := goodIn_r _ [19, 20, 21, 22, 23, 24, 116, 117, 118, 119, 120, 121] (by decide +kernel) (by decide +kernel)
set_option maxRecDepth 20000 in
theorem gX6_best_X4_copyFrom : GoodIn wsX6_best (wsV RX6 189 RX4 yX4_copyFrom wsX4_copyFrom) := goodIn_app (goodIn_of _ (by decide +kernel)) ggX6_best_X4_copyFrom
set_option maxRecDepth 20000 in
theorem ggX6_best_X4_putAt : GoodIn wsX6_best wsX4_putAt := goodIn_r _ [28, 20, 116, 117, 118, 119, 120, 121] (by decide +kernel) (by decide +kernel)
set_option maxRecDepth 20000 in
theorem gX6_best_X4_putAt : GoodIn wsX6_best (wsV RX6 178 RX4 yX4_putAt wsX4_putAt) := goodIn_app (goodIn_of _ (by decide +kernel)) ggX6_best_X4_putAt
set_option maxRecDepth 20000 in
theorem ggX6_best_X4_passDays : GoodIn wsX6_best wsX4_passDays := goodIn_r _ [32, 33, 34, 35, 18, 36, 23, 37, 22, 38, 39, 40, 41, 24, 42, 43, 44, 45, 46, 47, 48, 49, 50, 8, 51, 52, 53, 54, 55, 56, 57, 58, 59, 60, 12, 61, 62, 63, 64, 65, 66, 21, 67, 68, 69, 70, 71, 20, 72, 73, 74, 75, 76, 77, 78, 79, 80, 81, 82, 83, 84, 85, 86, 87, 88, 89, 90, 91, 92, 93, 94, 95, 96, 97, 98, 99, 100, 101, 102, 103, 104, 116, 117, 118, 119, 120, 121, 122, 123, 124, 125, 126, 127, 128, 129, 130, 131, 132] (by decide +kernel) (by decide +kernel)
set_option maxRecDepth 20000 in
theorem gX6_best_X4_passDays : GoodIn wsX6_best (wsV RX6 192 RX4 yX4_passDays wsX4_passDays) := goodIn_app (goodIn_of _ (by decide +kernel)) ggX6_best_X4_passDays
theorem dX6_best_0 : decode cX6_best 0 = .ok (.aload_n 0, 1) := by decide +kernel
theorem dX6_best_1 : decode cX6_best 1 = .ok (.getfield 32, 3) := by decide +kernel
theorem dX6_best_4 : decode cX6_best 4 = .ok (.iload_n 1, 1) := by decide +kernel
theorem dX6_best_5 : decode cX6_best 5 = .ok (.invokevirtual 101, 3) := by decide +kernel
theorem dX6_best_8 : decode cX6_best 8 = .ok (.ifCond .ne 5, 3) := by decide +kernel
theorem dX6_best_11 : decode cX6_best 11 = .ok (.iconst (-1), 1) := by decide +kernel
theorem dX6_best_12 : decode cX6_best 12 = .ok (.ireturn, 1) := by decide +kernel
theorem dX6_best_13 : decode cX6_best 13 = .ok (.iload_n 2, 1) := by decide +kernel
theorem dX6_best_14 : decode cX6_best 14 = .ok (.iconst 1, 1) := by decide +kernel
theorem dX6_best_15 : decode cX6_best 15 = .ok (.bipush 9, 2) := by decide +kernel
theorem dX6_best_17 : decode cX6_best 17 = .ok (.invokestatic 73, 3) := by decide +kernel
theorem dX6_best_20 : decode cX6_best 20 = .ok (.ifCond .eq 12, 3) := by decide +kernel
theorem dX6_best_23 : decode cX6_best 23 = .ok (.iload_n 3, 1) := by decide +kernel
theorem dX6_best_24 : decode cX6_best 24 = .ok (.iconst 0, 1) := by decide +kernel
theorem dX6_best_25 : decode cX6_best 25 = .ok (.iconst 1, 1) := by decide +kernel
theorem dX6_best_26 : decode cX6_best 26 = .ok (.invokestatic 73, 3) := by decide +kernel
theorem dX6_best_29 : decode cX6_best 29 = .ok (.ifCond .ne 6, 3) := by decide +kernel
theorem dX6_best_32 : decode cX6_best 32 = .ok (.bipush (-2), 2) := by decide +kernel
theorem dX6_best_34 : decode cX6_best 34 = .ok (.ireturn, 1) := by decide +kernel
theorem dX6_best_35 : decode cX6_best 35 = .ok (.iconst 0, 1) := by decide +kernel
theorem dX6_best_36 : decode cX6_best 36 = .ok (.istore 4, 2) := by decide +kernel
theorem dX6_best_38 : decode cX6_best 38 = .ok (.iconst (-1), 1) := by decide +kernel
theorem dX6_best_39 : decode cX6_best 39 = .ok (.istore 5, 2) := by decide +kernel
theorem dX6_best_41 : decode cX6_best 41 = .ok (.iconst 0, 1) := by decide +kernel
theorem dX6_best_42 : decode cX6_best 42 = .ok (.istore 6, 2) := by decide +kernel
theorem dX6_best_44 : decode cX6_best 44 = .ok (.iload 6, 2) := by decide +kernel
theorem dX6_best_46 : decode cX6_best 46 = .ok (.bipush 9, 2) := by decide +kernel
theorem dX6_best_48 : decode cX6_best 48 = .ok (.if_icmp .gt 63, 3) := by decide +kernel
theorem dX6_best_51 : decode cX6_best 51 = .ok (.aload_n 0, 1) := by decide +kernel
theorem dX6_best_52 : decode cX6_best 52 = .ok (.getfield 44, 3) := by decide +kernel
theorem dX6_best_55 : decode cX6_best 55 = .ok (.aload_n 0, 1) := by decide +kernel
theorem dX6_best_56 : decode cX6_best 56 = .ok (.getfield 40, 3) := by decide +kernel
theorem dX6_best_59 : decode cX6_best 59 = .ok (.invokevirtual 189, 3) := by decide +kernel
theorem dX6_best_62 : decode cX6_best 62 = .ok (.aload_n 0, 1) := by decide +kernel
theorem dX6_best_63 : decode cX6_best 63 = .ok (.getfield 44, 3) := by decide +kernel
theorem dX6_best_66 : decode cX6_best 66 = .ok (.iload_n 1, 1) := by decide +kernel
theorem dX6_best_67 : decode cX6_best 67 = .ok (.iload 6, 2) := by decide +kernel
theorem dX6_best_69 : decode cX6_best 69 = .ok (.invokevirtual 178, 3) := by decide +kernel
theorem dX6_best_72 : decode cX6_best 72 = .ok (.aload_n 0, 1) := by decide +kernel
theorem dX6_best_73 : decode cX6_best 73 = .ok (.getfield 44, 3) := by decide +kernel
theorem dX6_best_76 : decode cX6_best 76 = .ok (.iload_n 2, 1) := by decide +kernel
theorem dX6_best_77 : decode cX6_best 77 = .ok (.invokevirtual 192, 3) := by decide +kernel
theorem dX6_best_80 : decode cX6_best 80 = .ok (.aload_n 0, 1) := by decide +kernel
theorem dX6_best_81 : decode cX6_best 81 = .ok (.getfield 44, 3) := by decide +kernel
theorem dX6_best_84 : decode cX6_best 84 = .ok (.getfield 196, 3) := by decide +kernel
theorem dX6_best_87 : decode cX6_best 87 = .ok (.iload 5, 2) := by decide +kernel
theorem dX6_best_89 : decode cX6_best 89 = .ok (.if_icmp .le 16, 3) := by decide +kernel
theorem dX6_best_92 : decode cX6_best 92 = .ok (.aload_n 0, 1) := by decide +kernel
theorem dX6_best_93 : decode cX6_best 93 = .ok (.getfield 44, 3) := by decide +kernel
theorem dX6_best_96 : decode cX6_best 96 = .ok (.getfield 196, 3) := by decide +kernel
theorem dX6_best_99 : decode cX6_best 99 = .ok (.istore 5, 2) := by decide +kernel
theorem dX6_best_101 : decode cX6_best 101 = .ok (.iload 6, 2) := by decide +kernel
theorem dX6_best_103 : decode cX6_best 103 = .ok (.istore 4, 2) := by decide +kernel
theorem dX6_best_105 : decode cX6_best 105 = .ok (.iinc 6 1, 3) := by decide +kernel
theorem dX6_best_108 : decode cX6_best 108 = .ok (.goto (-64), 3) := by decide +kernel
theorem dX6_best_111 : decode cX6_best 111 = .ok (.iload_n 3, 1) := by decide +kernel
theorem dX6_best_112 : decode cX6_best 112 = .ok (.ifCond .ne 8, 3) := by decide +kernel
theorem dX6_best_115 : decode cX6_best 115 = .ok (.iload 4, 2) := by decide +kernel
theorem dX6_best_117 : decode cX6_best 117 = .ok (.goto 5, 3) := by decide +kernel
theorem dX6_best_120 : decode cX6_best 120 = .ok (.iload 5, 2) := by decide +kernel
theorem dX6_best_122 : decode cX6_best 122 = .ok (.ireturn, 1) := by decide +kernel
set_option maxRecDepth 20000 in
theorem ggX6_frees_X6_within : GoodIn wsX6_frees wsX6_within := goodIn_r _ [9] (by decide +kernel) (by decide +kernel)
set_option maxRecDepth 20000 in
theorem gX6_frees_X6_within : GoodIn wsX6_frees (va_wsS RX6 73 yX6_within wsX6_within) := goodIn_app (goodIn_of _ (by decide +kernel)) ggX6_frees_X6_within
set_option maxRecDepth 20000 in
theorem ggX6_frees_X4_copyFrom : GoodIn wsX6_frees wsX4_copyFrom := goodIn_r _ [14, 15, 16, 17, 18, 19, 82, 83, 84, 85, 86, 87] (by decide +kernel) (by decide +kernel)
set_option maxRecDepth 20000 in
theorem gX6_frees_X4_copyFrom : GoodIn wsX6_frees (wsV RX6 189 RX4 yX4_copyFrom wsX4_copyFrom) := goodIn_app (goodIn_of _ (by decide +kernel)) ggX6_frees_X4_copyFrom
set_option maxRecDepth 20000 in
theorem ggX6_frees_X4_hearers : GoodIn wsX6_frees wsX4_hearers := goodIn_r _ [23, 24, 25, 16, 26, 27, 28, 29, 13, 30, 15, 31, 8, 32, 33, 34, 35, 36, 82, 83, 84, 85, 86, 87, 71, 72, 73, 74, 75, 76, 77, 78, 79, 80, 81] (by decide +kernel) (by decide +kernel)
set_option maxRecDepth 20000 in
theorem gX6_frees_X4_hearers : GoodIn wsX6_frees (wsV RX6 158 RX4 yX4_hearers wsX4_hearers) := goodIn_app (goodIn_of _ (by decide +kernel)) ggX6_frees_X4_hearers
set_option maxRecDepth 20000 in
theorem ggX6_frees_X4_freeBy : GoodIn wsX6_frees wsX4_freeBy := goodIn_r _ [40, 17, 24, 41, 42, 43, 44, 13, 45, 46, 47, 26, 35, 8, 36, 31, 32, 48, 49, 50, 51, 52, 53, 54, 55, 56, 57, 58, 59, 82, 83, 84, 85, 86, 87, 71, 72, 73, 74, 75, 76, 77, 78, 79, 80, 81] (by decide +kernel) (by decide +kernel)
set_option maxRecDepth 20000 in
theorem gX6_frees_X4_freeBy : GoodIn wsX6_frees (wsV RX6 161 RX4 yX4_freeBy wsX4_freeBy) := goodIn_app (goodIn_of _ (by decide +kernel)) ggX6_frees_X4_freeBy
theorem dX6_frees_0 : decode cX6_frees 0 = .ok (.iload_n 1, 1) := by decide +kernel
theorem dX6_frees_1 : decode cX6_frees 1 = .ok (.iconst 0, 1) := by decide +kernel
theorem dX6_frees_2 : decode cX6_frees 2 = .ok (.iconst 1, 1) := by decide +kernel
theorem dX6_frees_3 : decode cX6_frees 3 = .ok (.aload_n 0, 1) := by decide +kernel
theorem dX6_frees_4 : decode cX6_frees 4 = .ok (.getfield 32, 3) := by decide +kernel
theorem dX6_frees_7 : decode cX6_frees 7 = .ok (.getfield 98, 3) := by decide +kernel
theorem dX6_frees_10 : decode cX6_frees 10 = .ok (.ishl, 1) := by decide +kernel
theorem dX6_frees_11 : decode cX6_frees 11 = .ok (.iconst 1, 1) := by decide +kernel
theorem dX6_frees_12 : decode cX6_frees 12 = .ok (.isub, 1) := by decide +kernel
theorem dX6_frees_13 : decode cX6_frees 13 = .ok (.invokestatic 73, 3) := by decide +kernel
theorem dX6_frees_16 : decode cX6_frees 16 = .ok (.ifCond .eq 12, 3) := by decide +kernel
theorem dX6_frees_19 : decode cX6_frees 19 = .ok (.iload_n 2, 1) := by decide +kernel
theorem dX6_frees_20 : decode cX6_frees 20 = .ok (.iconst 0, 1) := by decide +kernel
theorem dX6_frees_21 : decode cX6_frees 21 = .ok (.iconst 1, 1) := by decide +kernel
theorem dX6_frees_22 : decode cX6_frees 22 = .ok (.invokestatic 73, 3) := by decide +kernel
theorem dX6_frees_25 : decode cX6_frees 25 = .ok (.ifCond .ne 6, 3) := by decide +kernel
theorem dX6_frees_28 : decode cX6_frees 28 = .ok (.bipush (-2), 2) := by decide +kernel
theorem dX6_frees_30 : decode cX6_frees 30 = .ok (.ireturn, 1) := by decide +kernel
theorem dX6_frees_31 : decode cX6_frees 31 = .ok (.iconst 0, 1) := by decide +kernel
theorem dX6_frees_32 : decode cX6_frees 32 = .ok (.istore_n 3, 1) := by decide +kernel
theorem dX6_frees_33 : decode cX6_frees 33 = .ok (.iload_n 3, 1) := by decide +kernel
theorem dX6_frees_34 : decode cX6_frees 34 = .ok (.bipush 9, 2) := by decide +kernel
theorem dX6_frees_36 : decode cX6_frees 36 = .ok (.if_icmp .gt 77, 3) := by decide +kernel
theorem dX6_frees_39 : decode cX6_frees 39 = .ok (.iconst 0, 1) := by decide +kernel
theorem dX6_frees_40 : decode cX6_frees 40 = .ok (.istore 4, 2) := by decide +kernel
theorem dX6_frees_42 : decode cX6_frees 42 = .ok (.iload 4, 2) := by decide +kernel
theorem dX6_frees_44 : decode cX6_frees 44 = .ok (.bipush 9, 2) := by decide +kernel
theorem dX6_frees_46 : decode cX6_frees 46 = .ok (.if_icmp .gt 61, 3) := by decide +kernel
theorem dX6_frees_49 : decode cX6_frees 49 = .ok (.aload_n 0, 1) := by decide +kernel
theorem dX6_frees_50 : decode cX6_frees 50 = .ok (.getfield 44, 3) := by decide +kernel
theorem dX6_frees_53 : decode cX6_frees 53 = .ok (.aload_n 0, 1) := by decide +kernel
theorem dX6_frees_54 : decode cX6_frees 54 = .ok (.getfield 40, 3) := by decide +kernel
theorem dX6_frees_57 : decode cX6_frees 57 = .ok (.invokevirtual 189, 3) := by decide +kernel
theorem dX6_frees_60 : decode cX6_frees 60 = .ok (.aload_n 0, 1) := by decide +kernel
theorem dX6_frees_61 : decode cX6_frees 61 = .ok (.getfield 44, 3) := by decide +kernel
theorem dX6_frees_64 : decode cX6_frees 64 = .ok (.aload_n 0, 1) := by decide +kernel
theorem dX6_frees_65 : decode cX6_frees 65 = .ok (.getfield 44, 3) := by decide +kernel
theorem dX6_frees_68 : decode cX6_frees 68 = .ok (.iload 4, 2) := by decide +kernel
theorem dX6_frees_70 : decode cX6_frees 70 = .ok (.iload_n 3, 1) := by decide +kernel
theorem dX6_frees_71 : decode cX6_frees 71 = .ok (.invokevirtual 158, 3) := by decide +kernel
theorem dX6_frees_74 : decode cX6_frees 74 = .ok (.invokevirtual 161, 3) := by decide +kernel
theorem dX6_frees_77 : decode cX6_frees 77 = .ok (.pop, 1) := by decide +kernel
theorem dX6_frees_78 : decode cX6_frees 78 = .ok (.aload_n 0, 1) := by decide +kernel
theorem dX6_frees_79 : decode cX6_frees 79 = .ok (.getfield 44, 3) := by decide +kernel
theorem dX6_frees_82 : decode cX6_frees 82 = .ok (.getfield 125, 3) := by decide +kernel
theorem dX6_frees_85 : decode cX6_frees 85 = .ok (.iload_n 1, 1) := by decide +kernel
theorem dX6_frees_86 : decode cX6_frees 86 = .ok (.iand, 1) := by decide +kernel
theorem dX6_frees_87 : decode cX6_frees 87 = .ok (.ifCond .ne 14, 3) := by decide +kernel
theorem dX6_frees_90 : decode cX6_frees 90 = .ok (.iload_n 2, 1) := by decide +kernel
theorem dX6_frees_91 : decode cX6_frees 91 = .ok (.ifCond .ne 7, 3) := by decide +kernel
theorem dX6_frees_94 : decode cX6_frees 94 = .ok (.iload_n 3, 1) := by decide +kernel
theorem dX6_frees_95 : decode cX6_frees 95 = .ok (.goto 5, 3) := by decide +kernel
theorem dX6_frees_98 : decode cX6_frees 98 = .ok (.iload 4, 2) := by decide +kernel
theorem dX6_frees_100 : decode cX6_frees 100 = .ok (.ireturn, 1) := by decide +kernel
theorem dX6_frees_101 : decode cX6_frees 101 = .ok (.iinc 4 1, 3) := by decide +kernel
theorem dX6_frees_104 : decode cX6_frees 104 = .ok (.goto (-62), 3) := by decide +kernel
theorem dX6_frees_107 : decode cX6_frees 107 = .ok (.iinc 3 1, 3) := by decide +kernel
theorem dX6_frees_110 : decode cX6_frees 110 = .ok (.goto (-77), 3) := by decide +kernel
theorem dX6_frees_113 : decode cX6_frees 113 = .ok (.bipush (-9), 2) := by decide +kernel
theorem dX6_frees_115 : decode cX6_frees 115 = .ok (.ireturn, 1) := by decide +kernel
set_option maxRecDepth 20000 in
theorem ggX6_judge_X6_within : GoodIn wsX6_judge wsX6_within := goodIn_r _ [6] (by decide +kernel) (by decide +kernel)
set_option maxRecDepth 20000 in
theorem gX6_judge_X6_within : GoodIn wsX6_judge (va_wsS RX6 73 yX6_within wsX6_within) := goodIn_app (goodIn_of _ (by decide +kernel)) ggX6_judge_X6_within
set_option maxRecDepth 20000 in
theorem ggX6_judge_X6_thousands : GoodIn wsX6_judge wsX6_thousands := goodIn_r _ [9, 10] (by decide +kernel) (by decide +kernel)
set_option maxRecDepth 20000 in
theorem gX6_judge_X6_thousands : GoodIn wsX6_judge (va_wsS RX6 199 yX6_thousands wsX6_thousands) := goodIn_app (goodIn_of _ (by decide +kernel)) ggX6_judge_X6_thousands
set_option maxRecDepth 20000 in
theorem ggX6_judge_X4_copyFrom : GoodIn wsX6_judge wsX4_copyFrom := goodIn_r _ [15, 16, 17, 18, 19, 20, 170, 171, 172, 173, 174, 175] (by decide +kernel) (by decide +kernel)
set_option maxRecDepth 20000 in
theorem gX6_judge_X4_copyFrom : GoodIn wsX6_judge (wsV RX6 189 RX4 yX4_copyFrom wsX4_copyFrom) := goodIn_app (goodIn_of _ (by decide +kernel)) ggX6_judge_X4_copyFrom
set_option maxRecDepth 20000 in
theorem ggX6_judge_X6_figuresAt : GoodIn wsX6_judge wsX6_figuresAt := goodIn_r _ [23, 10] (by decide +kernel) (by decide +kernel)
set_option maxRecDepth 20000 in
theorem gX6_judge_X6_figuresAt : GoodIn wsX6_judge (va_wsS RX6 203 yX6_figuresAt wsX6_figuresAt) := goodIn_app (goodIn_of _ (by decide +kernel)) ggX6_judge_X6_figuresAt
set_option maxRecDepth 20000 in
theorem ggX6_judge_X6_canHappen : GoodIn wsX6_judge wsX6_canHappen := goodIn_r _ [27, 1, 28, 29, 30, 14, 31, 32, 33, 17, 34, 35, 36, 37, 38, 16, 39, 5, 40, 41, 42, 43, 44, 45, 46, 47, 48, 18, 49, 50, 51, 52, 53, 54, 55, 56, 57, 58, 59, 60, 61, 62, 63, 64, 65, 66, 67, 68, 69, 70, 71, 72, 73, 74, 75, 76, 77, 4, 6, 78, 79, 80, 81, 82, 83, 84, 85, 86, 87, 88, 89, 19, 90, 91, 92, 93, 20, 94, 95, 96, 97, 98, 99, 100, 101, 102, 103, 104, 105, 106, 107, 108, 109, 110, 111, 112, 113, 114, 115, 116, 117, 118, 119, 120, 121, 122, 123, 124, 125, 126, 127, 128, 129, 130, 131, 132, 133, 134, 135, 136, 137, 138, 139, 140, 141, 142, 143, 144, 145, 146, 147, 148, 149, 150, 151, 152, 153, 154, 155, 156, 157, 158, 159, 160, 161, 162, 163, 164, 165, 166, 167, 168, 169, 170, 171, 172, 173, 174, 175, 176, 177, 178, 179, 180, 181, 182, 183, 184, 185, 186] (by decide +kernel) (by decide +kernel)
set_option maxRecDepth 20000 in
theorem gX6_judge_X6_canHappen : GoodIn wsX6_judge (wsV RX6 207 RX6 yX6_canHappen wsX6_canHappen) := goodIn_app (goodIn_of _ (by decide +kernel)) ggX6_judge_X6_canHappen
theorem dX6_judge_0 : decode cX6_judge 0 = .ok (.iload_n 1, 1) := by decide +kernel
theorem dX6_judge_1 : decode cX6_judge 1 = .ok (.iconst 1, 1) := by decide +kernel
theorem dX6_judge_2 : decode cX6_judge 2 = .ok (.iconst 4, 1) := by decide +kernel
theorem dX6_judge_3 : decode cX6_judge 3 = .ok (.invokestatic 73, 3) := by decide +kernel
theorem dX6_judge_6 : decode cX6_judge 6 = .ok (.ifCond .eq 18, 3) := by decide +kernel
theorem dX6_judge_9 : decode cX6_judge 9 = .ok (.lload_n 2, 1) := by decide +kernel
theorem dX6_judge_10 : decode cX6_judge 10 = .ok (.lconst 0, 1) := by decide +kernel
theorem dX6_judge_11 : decode cX6_judge 11 = .ok (.lcmp, 1) := by decide +kernel
theorem dX6_judge_12 : decode cX6_judge 12 = .ok (.ifCond .lt 12, 3) := by decide +kernel
theorem dX6_judge_15 : decode cX6_judge 15 = .ok (.lload_n 2, 1) := by decide +kernel
theorem dX6_judge_16 : decode cX6_judge 16 = .ok (.iload_n 1, 1) := by decide +kernel
theorem dX6_judge_17 : decode cX6_judge 17 = .ok (.invokestatic 199, 3) := by decide +kernel
theorem dX6_judge_20 : decode cX6_judge 20 = .ok (.lcmp, 1) := by decide +kernel
theorem dX6_judge_21 : decode cX6_judge 21 = .ok (.ifCond .lt 6, 3) := by decide +kernel
theorem dX6_judge_24 : decode cX6_judge 24 = .ok (.bipush (-2), 2) := by decide +kernel
theorem dX6_judge_26 : decode cX6_judge 26 = .ok (.ireturn, 1) := by decide +kernel
theorem dX6_judge_27 : decode cX6_judge 27 = .ok (.aload_n 0, 1) := by decide +kernel
theorem dX6_judge_28 : decode cX6_judge 28 = .ok (.getfield 44, 3) := by decide +kernel
theorem dX6_judge_31 : decode cX6_judge 31 = .ok (.aload_n 0, 1) := by decide +kernel
theorem dX6_judge_32 : decode cX6_judge 32 = .ok (.getfield 40, 3) := by decide +kernel
theorem dX6_judge_35 : decode cX6_judge 35 = .ok (.invokevirtual 189, 3) := by decide +kernel
theorem dX6_judge_38 : decode cX6_judge 38 = .ok (.iconst 0, 1) := by decide +kernel
theorem dX6_judge_39 : decode cX6_judge 39 = .ok (.istore 4, 2) := by decide +kernel
theorem dX6_judge_41 : decode cX6_judge 41 = .ok (.iload 4, 2) := by decide +kernel
theorem dX6_judge_43 : decode cX6_judge 43 = .ok (.iload_n 1, 1) := by decide +kernel
theorem dX6_judge_44 : decode cX6_judge 44 = .ok (.if_icmp .ge 49, 3) := by decide +kernel
theorem dX6_judge_47 : decode cX6_judge 47 = .ok (.lload_n 2, 1) := by decide +kernel
theorem dX6_judge_48 : decode cX6_judge 48 = .ok (.iload_n 1, 1) := by decide +kernel
theorem dX6_judge_49 : decode cX6_judge 49 = .ok (.iconst 1, 1) := by decide +kernel
theorem dX6_judge_50 : decode cX6_judge 50 = .ok (.isub, 1) := by decide +kernel
theorem dX6_judge_51 : decode cX6_judge 51 = .ok (.iload 4, 2) := by decide +kernel
theorem dX6_judge_53 : decode cX6_judge 53 = .ok (.isub, 1) := by decide +kernel
theorem dX6_judge_54 : decode cX6_judge 54 = .ok (.invokestatic 203, 3) := by decide +kernel
theorem dX6_judge_57 : decode cX6_judge 57 = .ok (.istore 5, 2) := by decide +kernel
theorem dX6_judge_59 : decode cX6_judge 59 = .ok (.aload_n 0, 1) := by decide +kernel
theorem dX6_judge_60 : decode cX6_judge 60 = .ok (.iload 5, 2) := by decide +kernel
theorem dX6_judge_62 : decode cX6_judge 62 = .ok (.bipush 100, 2) := by decide +kernel
theorem dX6_judge_64 : decode cX6_judge 64 = .ok (.idiv, 1) := by decide +kernel
theorem dX6_judge_65 : decode cX6_judge 65 = .ok (.iload 5, 2) := by decide +kernel
theorem dX6_judge_67 : decode cX6_judge 67 = .ok (.bipush 10, 2) := by decide +kernel
theorem dX6_judge_69 : decode cX6_judge 69 = .ok (.idiv, 1) := by decide +kernel
theorem dX6_judge_70 : decode cX6_judge 70 = .ok (.bipush 10, 2) := by decide +kernel
theorem dX6_judge_72 : decode cX6_judge 72 = .ok (.irem, 1) := by decide +kernel
theorem dX6_judge_73 : decode cX6_judge 73 = .ok (.iload 5, 2) := by decide +kernel
theorem dX6_judge_75 : decode cX6_judge 75 = .ok (.bipush 10, 2) := by decide +kernel
theorem dX6_judge_77 : decode cX6_judge 77 = .ok (.irem, 1) := by decide +kernel
theorem dX6_judge_78 : decode cX6_judge 78 = .ok (.invokevirtual 207, 3) := by decide +kernel
theorem dX6_judge_81 : decode cX6_judge 81 = .ok (.ifCond .ne 6, 3) := by decide +kernel
theorem dX6_judge_84 : decode cX6_judge 84 = .ok (.iload 4, 2) := by decide +kernel
theorem dX6_judge_86 : decode cX6_judge 86 = .ok (.ireturn, 1) := by decide +kernel
theorem dX6_judge_87 : decode cX6_judge 87 = .ok (.iinc 4 1, 3) := by decide +kernel
theorem dX6_judge_90 : decode cX6_judge 90 = .ok (.goto (-49), 3) := by decide +kernel
theorem dX6_judge_93 : decode cX6_judge 93 = .ok (.bipush (-9), 2) := by decide +kernel
theorem dX6_judge_95 : decode cX6_judge 95 = .ok (.ireturn, 1) := by decide +kernel
set_option maxRecDepth 20000 in
theorem ggX6_hear_X6_isPlace : GoodIn wsX6_hear wsX6_isPlace := goodIn_r _ [6, 7, 8, 5, 9] (by decide +kernel) (by decide +kernel)
set_option maxRecDepth 20000 in
theorem gX6_hear_X6_isPlace : GoodIn wsX6_hear (va_wsS RX6 155 yX6_isPlace wsX6_isPlace) := goodIn_app (goodIn_of _ (by decide +kernel)) ggX6_hear_X6_isPlace
set_option maxRecDepth 20000 in
theorem ggX6_hear_X6_within : GoodIn wsX6_hear wsX6_within := goodIn_r _ [9] (by decide +kernel) (by decide +kernel)
set_option maxRecDepth 20000 in
theorem gX6_hear_X6_within : GoodIn wsX6_hear (va_wsS RX6 73 yX6_within wsX6_within) := goodIn_app (goodIn_of _ (by decide +kernel)) ggX6_hear_X6_within
set_option maxRecDepth 20000 in
theorem ggX6_hear_X2_add : GoodIn wsX6_hear wsX2_add := goodIn_r _ [14, 15, 16, 17, 18, 19, 5, 20, 32, 33, 34, 35] (by decide +kernel) (by decide +kernel)
set_option maxRecDepth 20000 in
theorem gX6_hear_X2_add : GoodIn wsX6_hear (wsV RX6 211 RX2 yX2_add wsX2_add) := goodIn_app (goodIn_of _ (by decide +kernel)) ggX6_hear_X2_add
theorem dX6_hear_0 : decode cX6_hear 0 = .ok (.iload_n 1, 1) := by decide +kernel
theorem dX6_hear_1 : decode cX6_hear 1 = .ok (.invokestatic 155, 3) := by decide +kernel
theorem dX6_hear_4 : decode cX6_hear 4 = .ok (.ifCond .ne 5, 3) := by decide +kernel
theorem dX6_hear_7 : decode cX6_hear 7 = .ok (.iconst (-1), 1) := by decide +kernel
theorem dX6_hear_8 : decode cX6_hear 8 = .ok (.ireturn, 1) := by decide +kernel
theorem dX6_hear_9 : decode cX6_hear 9 = .ok (.iload_n 2, 1) := by decide +kernel
theorem dX6_hear_10 : decode cX6_hear 10 = .ok (.iconst 0, 1) := by decide +kernel
theorem dX6_hear_11 : decode cX6_hear 11 = .ok (.iconst 1, 1) := by decide +kernel
theorem dX6_hear_12 : decode cX6_hear 12 = .ok (.invokestatic 73, 3) := by decide +kernel
theorem dX6_hear_15 : decode cX6_hear 15 = .ok (.ifCond .eq 12, 3) := by decide +kernel
theorem dX6_hear_18 : decode cX6_hear 18 = .ok (.iload_n 3, 1) := by decide +kernel
theorem dX6_hear_19 : decode cX6_hear 19 = .ok (.iconst 0, 1) := by decide +kernel
theorem dX6_hear_20 : decode cX6_hear 20 = .ok (.iconst 1, 1) := by decide +kernel
theorem dX6_hear_21 : decode cX6_hear 21 = .ok (.invokestatic 73, 3) := by decide +kernel
theorem dX6_hear_24 : decode cX6_hear 24 = .ok (.ifCond .ne 6, 3) := by decide +kernel
theorem dX6_hear_27 : decode cX6_hear 27 = .ok (.bipush (-2), 2) := by decide +kernel
theorem dX6_hear_29 : decode cX6_hear 29 = .ok (.ireturn, 1) := by decide +kernel
theorem dX6_hear_30 : decode cX6_hear 30 = .ok (.aload_n 0, 1) := by decide +kernel
theorem dX6_hear_31 : decode cX6_hear 31 = .ok (.getfield 57, 3) := by decide +kernel
theorem dX6_hear_34 : decode cX6_hear 34 = .ok (.getfield 210, 3) := by decide +kernel
theorem dX6_hear_37 : decode cX6_hear 37 = .ok (.bipush 6, 2) := by decide +kernel
theorem dX6_hear_39 : decode cX6_hear 39 = .ok (.if_icmp .lt 6, 3) := by decide +kernel
theorem dX6_hear_42 : decode cX6_hear 42 = .ok (.bipush (-4), 2) := by decide +kernel
theorem dX6_hear_44 : decode cX6_hear 44 = .ok (.ireturn, 1) := by decide +kernel
theorem dX6_hear_45 : decode cX6_hear 45 = .ok (.aload_n 0, 1) := by decide +kernel
theorem dX6_hear_46 : decode cX6_hear 46 = .ok (.getfield 57, 3) := by decide +kernel
theorem dX6_hear_49 : decode cX6_hear 49 = .ok (.iload_n 1, 1) := by decide +kernel
theorem dX6_hear_50 : decode cX6_hear 50 = .ok (.iload_n 2, 1) := by decide +kernel
theorem dX6_hear_51 : decode cX6_hear 51 = .ok (.iload_n 3, 1) := by decide +kernel
theorem dX6_hear_52 : decode cX6_hear 52 = .ok (.invokevirtual 211, 3) := by decide +kernel
theorem dX6_hear_55 : decode cX6_hear 55 = .ok (.ireturn, 1) := by decide +kernel
theorem dX6_unhear_0 : decode cX6_unhear 0 = .ok (.aload_n 0, 1) := by decide +kernel
theorem dX6_unhear_1 : decode cX6_unhear 1 = .ok (.getfield 57, 3) := by decide +kernel
theorem dX6_unhear_4 : decode cX6_unhear 4 = .ok (.getfield 210, 3) := by decide +kernel
theorem dX6_unhear_7 : decode cX6_unhear 7 = .ok (.istore_n 1, 1) := by decide +kernel
theorem dX6_unhear_8 : decode cX6_unhear 8 = .ok (.aload_n 0, 1) := by decide +kernel
theorem dX6_unhear_9 : decode cX6_unhear 9 = .ok (.getfield 57, 3) := by decide +kernel
theorem dX6_unhear_12 : decode cX6_unhear 12 = .ok (.iconst 0, 1) := by decide +kernel
theorem dX6_unhear_13 : decode cX6_unhear 13 = .ok (.putfield 210, 3) := by decide +kernel
theorem dX6_unhear_16 : decode cX6_unhear 16 = .ok (.iload_n 1, 1) := by decide +kernel
theorem dX6_unhear_17 : decode cX6_unhear 17 = .ok (.ireturn, 1) := by decide +kernel
set_option maxRecDepth 20000 in
theorem ggX6_which_X6_within : GoodIn wsX6_which wsX6_within := goodIn_r _ [5] (by decide +kernel) (by decide +kernel)
set_option maxRecDepth 20000 in
theorem gX6_which_X6_within : GoodIn wsX6_which (va_wsS RX6 73 yX6_within wsX6_within) := goodIn_app (goodIn_of _ (by decide +kernel)) ggX6_which_X6_within
set_option maxRecDepth 20000 in
theorem ggX6_which_X2_fits : GoodIn wsX6_which wsX2_fits := goodIn_r _ [10, 11, 12, 13, 14, 15, 4, 16, 17, 18, 30, 31, 32, 33] (by decide +kernel) (by decide +kernel)
set_option maxRecDepth 20000 in
theorem gX6_which_X2_fits : GoodIn wsX6_which (wsV RX6 214 RX2 yX2_fits wsX2_fits) := goodIn_app (goodIn_of _ (by decide +kernel)) ggX6_which_X2_fits
theorem dX6_which_0 : decode cX6_which 0 = .ok (.iload_n 1, 1) := by decide +kernel
theorem dX6_which_1 : decode cX6_which 1 = .ok (.iconst 0, 1) := by decide +kernel
theorem dX6_which_2 : decode cX6_which 2 = .ok (.iconst 1, 1) := by decide +kernel
theorem dX6_which_3 : decode cX6_which 3 = .ok (.invokestatic 73, 3) := by decide +kernel
theorem dX6_which_6 : decode cX6_which 6 = .ok (.ifCond .ne 6, 3) := by decide +kernel
theorem dX6_which_9 : decode cX6_which 9 = .ok (.bipush (-2), 2) := by decide +kernel
theorem dX6_which_11 : decode cX6_which 11 = .ok (.ireturn, 1) := by decide +kernel
theorem dX6_which_12 : decode cX6_which 12 = .ok (.iconst 0, 1) := by decide +kernel
theorem dX6_which_13 : decode cX6_which 13 = .ok (.istore_n 2, 1) := by decide +kernel
theorem dX6_which_14 : decode cX6_which 14 = .ok (.bipush (-9), 2) := by decide +kernel
theorem dX6_which_16 : decode cX6_which 16 = .ok (.istore_n 3, 1) := by decide +kernel
theorem dX6_which_17 : decode cX6_which 17 = .ok (.iconst 0, 1) := by decide +kernel
theorem dX6_which_18 : decode cX6_which 18 = .ok (.istore 4, 2) := by decide +kernel
theorem dX6_which_20 : decode cX6_which 20 = .ok (.iload 4, 2) := by decide +kernel
theorem dX6_which_22 : decode cX6_which 22 = .ok (.bipush 100, 2) := by decide +kernel
theorem dX6_which_24 : decode cX6_which 24 = .ok (.if_icmp .ge 45, 3) := by decide +kernel
theorem dX6_which_27 : decode cX6_which 27 = .ok (.aload_n 0, 1) := by decide +kernel
theorem dX6_which_28 : decode cX6_which 28 = .ok (.getfield 57, 3) := by decide +kernel
theorem dX6_which_31 : decode cX6_which 31 = .ok (.iload 4, 2) := by decide +kernel
theorem dX6_which_33 : decode cX6_which 33 = .ok (.bipush 10, 2) := by decide +kernel
theorem dX6_which_35 : decode cX6_which 35 = .ok (.idiv, 1) := by decide +kernel
theorem dX6_which_36 : decode cX6_which 36 = .ok (.iload 4, 2) := by decide +kernel
theorem dX6_which_38 : decode cX6_which 38 = .ok (.bipush 10, 2) := by decide +kernel
theorem dX6_which_40 : decode cX6_which 40 = .ok (.irem, 1) := by decide +kernel
theorem dX6_which_41 : decode cX6_which 41 = .ok (.invokevirtual 214, 3) := by decide +kernel
theorem dX6_which_44 : decode cX6_which 44 = .ok (.ifCond .eq 19, 3) := by decide +kernel
theorem dX6_which_47 : decode cX6_which 47 = .ok (.iinc 2 1, 3) := by decide +kernel
theorem dX6_which_50 : decode cX6_which 50 = .ok (.iload_n 3, 1) := by decide +kernel
theorem dX6_which_51 : decode cX6_which 51 = .ok (.bipush (-9), 2) := by decide +kernel
theorem dX6_which_53 : decode cX6_which 53 = .ok (.if_icmp .ne 8, 3) := by decide +kernel
theorem dX6_which_56 : decode cX6_which 56 = .ok (.iload 4, 2) := by decide +kernel
theorem dX6_which_58 : decode cX6_which 58 = .ok (.goto 4, 3) := by decide +kernel
theorem dX6_which_61 : decode cX6_which 61 = .ok (.iload_n 3, 1) := by decide +kernel
theorem dX6_which_62 : decode cX6_which 62 = .ok (.istore_n 3, 1) := by decide +kernel
theorem dX6_which_63 : decode cX6_which 63 = .ok (.iinc 4 1, 3) := by decide +kernel
theorem dX6_which_66 : decode cX6_which 66 = .ok (.goto (-46), 3) := by decide +kernel
theorem dX6_which_69 : decode cX6_which 69 = .ok (.iload_n 1, 1) := by decide +kernel
theorem dX6_which_70 : decode cX6_which 70 = .ok (.ifCond .ne 7, 3) := by decide +kernel
theorem dX6_which_73 : decode cX6_which 73 = .ok (.iload_n 2, 1) := by decide +kernel
theorem dX6_which_74 : decode cX6_which 74 = .ok (.goto 4, 3) := by decide +kernel
theorem dX6_which_77 : decode cX6_which 77 = .ok (.iload_n 3, 1) := by decide +kernel
theorem dX6_which_78 : decode cX6_which 78 = .ok (.ireturn, 1) := by decide +kernel
set_option maxRecDepth 20000 in
theorem ggX6_share_X1_hasPerson : GoodIn wsX6_share wsX1_hasPerson := goodIn_r _ [8, 9, 10, 11, 12, 56, 57, 58, 59, 60, 61, 62, 63, 64, 65, 66] (by decide +kernel) (by decide +kernel)
set_option maxRecDepth 20000 in
theorem gX6_share_X1_hasPerson : GoodIn wsX6_share (wsV RX6 101 RX1 yX1_hasPerson wsX1_hasPerson) := goodIn_app (goodIn_of _ (by decide +kernel)) ggX6_share_X1_hasPerson
set_option maxRecDepth 20000 in
theorem ggX6_share_X1_oathsOf : GoodIn wsX6_share wsX1_oathsOf := goodIn_r _ [16, 17, 18, 19, 20, 11, 21, 56, 57, 58, 59, 60, 61, 62, 63, 64, 65, 66] (by decide +kernel) (by decide +kernel)
set_option maxRecDepth 20000 in
theorem gX6_share_X1_oathsOf : GoodIn wsX6_share (wsV RX6 122 RX1 yX1_oathsOf wsX1_oathsOf) := goodIn_app (goodIn_of _ (by decide +kernel)) ggX6_share_X1_oathsOf
set_option maxRecDepth 20000 in
theorem ggX6_share_X1_worthOf : GoodIn wsX6_share wsX1_worthOf := goodIn_r _ [25, 17, 26, 27, 11, 28, 20, 21, 56, 57, 58, 59, 60, 61, 62, 63, 64, 65, 66] (by decide +kernel) (by decide +kernel)
set_option maxRecDepth 20000 in
theorem gX6_share_X1_worthOf : GoodIn wsX6_share (wsV RX6 218 RX1 yX1_worthOf wsX1_worthOf) := goodIn_app (goodIn_of _ (by decide +kernel)) ggX6_share_X1_worthOf
set_option maxRecDepth 20000 in
theorem ggX6_share_X6_fraction : GoodIn wsX6_share wsX6_fraction := goodIn_r _ [31, 32, 33, 34, 35, 36, 37, 11, 38] (by decide +kernel) (by decide +kernel)
set_option maxRecDepth 20000 in
theorem gX6_share_X6_fraction : GoodIn wsX6_share (va_wsS RX6 221 yX6_fraction wsX6_fraction) := goodIn_app (goodIn_of _ (by decide +kernel)) ggX6_share_X6_fraction
theorem dX6_share_0 : decode cX6_share 0 = .ok (.aload_n 0, 1) := by decide +kernel
theorem dX6_share_1 : decode cX6_share 1 = .ok (.getfield 32, 3) := by decide +kernel
theorem dX6_share_4 : decode cX6_share 4 = .ok (.iload_n 1, 1) := by decide +kernel
theorem dX6_share_5 : decode cX6_share 5 = .ok (.invokevirtual 101, 3) := by decide +kernel
theorem dX6_share_8 : decode cX6_share 8 = .ok (.ifCond .ne 5, 3) := by decide +kernel
theorem dX6_share_11 : decode cX6_share 11 = .ok (.iconst (-1), 1) := by decide +kernel
theorem dX6_share_12 : decode cX6_share 12 = .ok (.ireturn, 1) := by decide +kernel
theorem dX6_share_13 : decode cX6_share 13 = .ok (.aload_n 0, 1) := by decide +kernel
theorem dX6_share_14 : decode cX6_share 14 = .ok (.getfield 32, 3) := by decide +kernel
theorem dX6_share_17 : decode cX6_share 17 = .ok (.aload_n 0, 1) := by decide +kernel
theorem dX6_share_18 : decode cX6_share 18 = .ok (.getfield 32, 3) := by decide +kernel
theorem dX6_share_21 : decode cX6_share 21 = .ok (.iload_n 1, 1) := by decide +kernel
theorem dX6_share_22 : decode cX6_share 22 = .ok (.invokevirtual 122, 3) := by decide +kernel
theorem dX6_share_25 : decode cX6_share 25 = .ok (.aload_n 0, 1) := by decide +kernel
theorem dX6_share_26 : decode cX6_share 26 = .ok (.getfield 40, 3) := by decide +kernel
theorem dX6_share_29 : decode cX6_share 29 = .ok (.getfield 125, 3) := by decide +kernel
theorem dX6_share_32 : decode cX6_share 32 = .ok (.iand, 1) := by decide +kernel
theorem dX6_share_33 : decode cX6_share 33 = .ok (.invokevirtual 218, 3) := by decide +kernel
theorem dX6_share_36 : decode cX6_share 36 = .ok (.iconst 2, 1) := by decide +kernel
theorem dX6_share_37 : decode cX6_share 37 = .ok (.iload_n 2, 1) := by decide +kernel
theorem dX6_share_38 : decode cX6_share 38 = .ok (.invokestatic 221, 3) := by decide +kernel
theorem dX6_share_41 : decode cX6_share 41 = .ok (.ireturn, 1) := by decide +kernel
set_option maxRecDepth 20000 in
theorem ggX6_rests_X1_hasPerson : GoodIn wsX6_rests wsX1_hasPerson := goodIn_r _ [6, 7, 8, 9, 10, 134, 135, 136, 137, 138, 139, 140, 141, 142, 143, 144] (by decide +kernel) (by decide +kernel)
set_option maxRecDepth 20000 in
theorem gX6_rests_X1_hasPerson : GoodIn wsX6_rests (wsV RX6 101 RX1 yX1_hasPerson wsX1_hasPerson) := goodIn_app (goodIn_of _ (by decide +kernel)) ggX6_rests_X1_hasPerson
set_option maxRecDepth 20000 in
theorem ggX6_rests_X6_within : GoodIn wsX6_rests wsX6_within := goodIn_r _ [10] (by decide +kernel) (by decide +kernel)
set_option maxRecDepth 20000 in
theorem gX6_rests_X6_within : GoodIn wsX6_rests (va_wsS RX6 73 yX6_within wsX6_within) := goodIn_app (goodIn_of _ (by decide +kernel)) ggX6_rests_X6_within
set_option maxRecDepth 20000 in
theorem ggX6_rests_X1_isOf : GoodIn wsX6_rests wsX1_isOf := goodIn_r _ [15, 16, 17, 3, 4, 5, 6, 7, 8, 9, 10, 18, 19, 134, 135, 136, 137, 138, 139, 140, 141, 142, 143, 144] (by decide +kernel) (by decide +kernel)
set_option maxRecDepth 20000 in
theorem gX6_rests_X1_isOf : GoodIn wsX6_rests (wsV RX6 225 RX1 yX1_isOf wsX1_isOf) := goodIn_app (goodIn_of _ (by decide +kernel)) ggX6_rests_X1_isOf
set_option maxRecDepth 20000 in
theorem ggX6_rests_X6_isBest : GoodIn wsX6_rests wsX6_isBest := goodIn_r _ [23, 24, 25, 26, 9, 27, 28, 29, 1, 30, 31, 32, 33, 34, 35, 36, 37, 38, 39, 40, 41, 42, 43, 44, 45, 46, 13, 14, 5, 15, 16, 17, 3, 4, 6, 7, 8, 10, 18, 19, 47, 48, 49, 50, 51, 52, 53, 54, 55, 56, 57, 58, 59, 60, 61, 62, 63, 64, 65, 66, 67, 68, 69, 70, 71, 72, 73, 74, 75, 76, 77, 78, 79, 80, 81, 82, 83, 84, 85, 86, 87, 88, 89, 90, 91, 92, 93, 94, 95, 96, 97, 98, 99, 100, 101, 102, 103, 104, 105, 106, 107, 108, 109, 110, 111, 112, 113, 114, 115, 116, 117, 118, 119, 120, 121, 122, 123, 124, 125, 126, 127, 128, 129, 130, 131, 132, 133, 145, 146, 147, 148, 149, 150, 134, 135, 136, 137, 138, 139, 140, 141, 142, 143, 144] (by decide +kernel) (by decide +kernel)
set_option maxRecDepth 20000 in
theorem gX6_rests_X6_isBest : GoodIn wsX6_rests (wsV RX6 228 RX6 yX6_isBest wsX6_isBest) := goodIn_app (goodIn_of _ (by decide +kernel)) ggX6_rests_X6_isBest
theorem dX6_rests_0 : decode cX6_rests 0 = .ok (.aload_n 0, 1) := by decide +kernel
theorem dX6_rests_1 : decode cX6_rests 1 = .ok (.getfield 32, 3) := by decide +kernel
theorem dX6_rests_4 : decode cX6_rests 4 = .ok (.iload_n 1, 1) := by decide +kernel
theorem dX6_rests_5 : decode cX6_rests 5 = .ok (.invokevirtual 101, 3) := by decide +kernel
theorem dX6_rests_8 : decode cX6_rests 8 = .ok (.ifCond .eq 14, 3) := by decide +kernel
theorem dX6_rests_11 : decode cX6_rests 11 = .ok (.aload_n 0, 1) := by decide +kernel
theorem dX6_rests_12 : decode cX6_rests 12 = .ok (.getfield 32, 3) := by decide +kernel
theorem dX6_rests_15 : decode cX6_rests 15 = .ok (.iload_n 2, 1) := by decide +kernel
theorem dX6_rests_16 : decode cX6_rests 16 = .ok (.invokevirtual 101, 3) := by decide +kernel
theorem dX6_rests_19 : decode cX6_rests 19 = .ok (.ifCond .ne 5, 3) := by decide +kernel
theorem dX6_rests_22 : decode cX6_rests 22 = .ok (.iconst (-1), 1) := by decide +kernel
theorem dX6_rests_23 : decode cX6_rests 23 = .ok (.ireturn, 1) := by decide +kernel
theorem dX6_rests_24 : decode cX6_rests 24 = .ok (.iload_n 1, 1) := by decide +kernel
theorem dX6_rests_25 : decode cX6_rests 25 = .ok (.iload_n 2, 1) := by decide +kernel
theorem dX6_rests_26 : decode cX6_rests 26 = .ok (.if_icmp .eq 12, 3) := by decide +kernel
theorem dX6_rests_29 : decode cX6_rests 29 = .ok (.iload_n 3, 1) := by decide +kernel
theorem dX6_rests_30 : decode cX6_rests 30 = .ok (.iconst 0, 1) := by decide +kernel
theorem dX6_rests_31 : decode cX6_rests 31 = .ok (.iconst 1, 1) := by decide +kernel
theorem dX6_rests_32 : decode cX6_rests 32 = .ok (.invokestatic 73, 3) := by decide +kernel
theorem dX6_rests_35 : decode cX6_rests 35 = .ok (.ifCond .ne 6, 3) := by decide +kernel
theorem dX6_rests_38 : decode cX6_rests 38 = .ok (.bipush (-2), 2) := by decide +kernel
theorem dX6_rests_40 : decode cX6_rests 40 = .ok (.ireturn, 1) := by decide +kernel
theorem dX6_rests_41 : decode cX6_rests 41 = .ok (.aload_n 0, 1) := by decide +kernel
theorem dX6_rests_42 : decode cX6_rests 42 = .ok (.getfield 32, 3) := by decide +kernel
theorem dX6_rests_45 : decode cX6_rests 45 = .ok (.iload_n 1, 1) := by decide +kernel
theorem dX6_rests_46 : decode cX6_rests 46 = .ok (.iconst 2, 1) := by decide +kernel
theorem dX6_rests_47 : decode cX6_rests 47 = .ok (.invokevirtual 225, 3) := by decide +kernel
theorem dX6_rests_50 : decode cX6_rests 50 = .ok (.ifCond .ne 15, 3) := by decide +kernel
theorem dX6_rests_53 : decode cX6_rests 53 = .ok (.aload_n 0, 1) := by decide +kernel
theorem dX6_rests_54 : decode cX6_rests 54 = .ok (.getfield 32, 3) := by decide +kernel
theorem dX6_rests_57 : decode cX6_rests 57 = .ok (.iload_n 2, 1) := by decide +kernel
theorem dX6_rests_58 : decode cX6_rests 58 = .ok (.iconst 2, 1) := by decide +kernel
theorem dX6_rests_59 : decode cX6_rests 59 = .ok (.invokevirtual 225, 3) := by decide +kernel
theorem dX6_rests_62 : decode cX6_rests 62 = .ok (.ifCond .eq 6, 3) := by decide +kernel
theorem dX6_rests_65 : decode cX6_rests 65 = .ok (.bipush (-3), 2) := by decide +kernel
theorem dX6_rests_67 : decode cX6_rests 67 = .ok (.ireturn, 1) := by decide +kernel
theorem dX6_rests_68 : decode cX6_rests 68 = .ok (.iconst 0, 1) := by decide +kernel
theorem dX6_rests_69 : decode cX6_rests 69 = .ok (.istore 4, 2) := by decide +kernel
theorem dX6_rests_71 : decode cX6_rests 71 = .ok (.bipush (-9), 2) := by decide +kernel
theorem dX6_rests_73 : decode cX6_rests 73 = .ok (.istore 5, 2) := by decide +kernel
theorem dX6_rests_75 : decode cX6_rests 75 = .ok (.iconst 0, 1) := by decide +kernel
theorem dX6_rests_76 : decode cX6_rests 76 = .ok (.istore 6, 2) := by decide +kernel
theorem dX6_rests_78 : decode cX6_rests 78 = .ok (.iload 6, 2) := by decide +kernel
theorem dX6_rests_80 : decode cX6_rests 80 = .ok (.iconst 4, 1) := by decide +kernel
theorem dX6_rests_81 : decode cX6_rests 81 = .ok (.if_icmp .ge 72, 3) := by decide +kernel
theorem dX6_rests_84 : decode cX6_rests 84 = .ok (.iload 6, 2) := by decide +kernel
theorem dX6_rests_86 : decode cX6_rests 86 = .ok (.iconst 2, 1) := by decide +kernel
theorem dX6_rests_87 : decode cX6_rests 87 = .ok (.idiv, 1) := by decide +kernel
theorem dX6_rests_88 : decode cX6_rests 88 = .ok (.istore 7, 2) := by decide +kernel
theorem dX6_rests_90 : decode cX6_rests 90 = .ok (.iload 6, 2) := by decide +kernel
theorem dX6_rests_92 : decode cX6_rests 92 = .ok (.iconst 2, 1) := by decide +kernel
theorem dX6_rests_93 : decode cX6_rests 93 = .ok (.irem, 1) := by decide +kernel
theorem dX6_rests_94 : decode cX6_rests 94 = .ok (.istore 8, 2) := by decide +kernel
theorem dX6_rests_96 : decode cX6_rests 96 = .ok (.aload_n 0, 1) := by decide +kernel
theorem dX6_rests_97 : decode cX6_rests 97 = .ok (.iload_n 1, 1) := by decide +kernel
theorem dX6_rests_98 : decode cX6_rests 98 = .ok (.iload 7, 2) := by decide +kernel
theorem dX6_rests_100 : decode cX6_rests 100 = .ok (.iload_n 2, 1) := by decide +kernel
theorem dX6_rests_101 : decode cX6_rests 101 = .ok (.iload 8, 2) := by decide +kernel
theorem dX6_rests_103 : decode cX6_rests 103 = .ok (.invokevirtual 228, 3) := by decide +kernel
theorem dX6_rests_106 : decode cX6_rests 106 = .ok (.ifCond .eq 41, 3) := by decide +kernel
theorem dX6_rests_109 : decode cX6_rests 109 = .ok (.aload_n 0, 1) := by decide +kernel
theorem dX6_rests_110 : decode cX6_rests 110 = .ok (.iload_n 2, 1) := by decide +kernel
theorem dX6_rests_111 : decode cX6_rests 111 = .ok (.iload 8, 2) := by decide +kernel
theorem dX6_rests_113 : decode cX6_rests 113 = .ok (.iload_n 1, 1) := by decide +kernel
theorem dX6_rests_114 : decode cX6_rests 114 = .ok (.iload 7, 2) := by decide +kernel
theorem dX6_rests_116 : decode cX6_rests 116 = .ok (.invokevirtual 228, 3) := by decide +kernel
theorem dX6_rests_119 : decode cX6_rests 119 = .ok (.ifCond .eq 28, 3) := by decide +kernel
theorem dX6_rests_122 : decode cX6_rests 122 = .ok (.iinc 4 1, 3) := by decide +kernel
theorem dX6_rests_125 : decode cX6_rests 125 = .ok (.iload 5, 2) := by decide +kernel
theorem dX6_rests_127 : decode cX6_rests 127 = .ok (.bipush (-9), 2) := by decide +kernel
theorem dX6_rests_129 : decode cX6_rests 129 = .ok (.if_icmp .ne 14, 3) := by decide +kernel
theorem dX6_rests_132 : decode cX6_rests 132 = .ok (.bipush 10, 2) := by decide +kernel
theorem dX6_rests_134 : decode cX6_rests 134 = .ok (.iload 7, 2) := by decide +kernel
theorem dX6_rests_136 : decode cX6_rests 136 = .ok (.imul, 1) := by decide +kernel
theorem dX6_rests_137 : decode cX6_rests 137 = .ok (.iload 8, 2) := by decide +kernel
theorem dX6_rests_139 : decode cX6_rests 139 = .ok (.iadd, 1) := by decide +kernel
theorem dX6_rests_140 : decode cX6_rests 140 = .ok (.goto 5, 3) := by decide +kernel
theorem dX6_rests_143 : decode cX6_rests 143 = .ok (.iload 5, 2) := by decide +kernel
theorem dX6_rests_145 : decode cX6_rests 145 = .ok (.istore 5, 2) := by decide +kernel
theorem dX6_rests_147 : decode cX6_rests 147 = .ok (.iinc 6 1, 3) := by decide +kernel
theorem dX6_rests_150 : decode cX6_rests 150 = .ok (.goto (-72), 3) := by decide +kernel
theorem dX6_rests_153 : decode cX6_rests 153 = .ok (.iload_n 3, 1) := by decide +kernel
theorem dX6_rests_154 : decode cX6_rests 154 = .ok (.ifCond .ne 8, 3) := by decide +kernel
theorem dX6_rests_157 : decode cX6_rests 157 = .ok (.iload 4, 2) := by decide +kernel
theorem dX6_rests_159 : decode cX6_rests 159 = .ok (.goto 5, 3) := by decide +kernel
theorem dX6_rests_162 : decode cX6_rests 162 = .ok (.iload 5, 2) := by decide +kernel
theorem dX6_rests_164 : decode cX6_rests 164 = .ok (.ireturn, 1) := by decide +kernel
set_option maxRecDepth 20000 in
theorem ggX6_comes_X1_hasOath : GoodIn wsX6_comes wsX1_hasOath := goodIn_r _ [6, 7, 8, 9, 10, 123, 124, 125, 126, 127, 128, 129, 130, 131, 132, 133] (by decide +kernel) (by decide +kernel)
set_option maxRecDepth 20000 in
theorem gX6_comes_X1_hasOath : GoodIn wsX6_comes (wsV RX6 132 RX1 yX1_hasOath wsX1_hasOath) := goodIn_app (goodIn_of _ (by decide +kernel)) ggX6_comes_X1_hasOath
set_option maxRecDepth 20000 in
theorem ggX6_comes_X6_within : GoodIn wsX6_comes wsX6_within := goodIn_r _ [10] (by decide +kernel) (by decide +kernel)
set_option maxRecDepth 20000 in
theorem gX6_comes_X6_within : GoodIn wsX6_comes (va_wsS RX6 73 yX6_within wsX6_within) := goodIn_app (goodIn_of _ (by decide +kernel)) ggX6_comes_X6_within
set_option maxRecDepth 20000 in
theorem ggX6_comes_X6_weightIfSworn : GoodIn wsX6_comes wsX6_weightIfSworn := goodIn_r _ [15, 16, 17, 18, 19, 20, 21, 22, 23, 24, 25, 26, 27, 28, 29, 9, 30, 31, 32, 33, 34, 35, 36, 37, 38, 39, 40, 41, 42, 43, 44, 45, 46, 47, 48, 5, 49, 50, 51, 52, 53, 54, 55, 56, 57, 58, 59, 60, 61, 62, 63, 64, 65, 66, 67, 68, 69, 70, 71, 72, 73, 74, 75, 76, 77, 78, 79, 80, 81, 82, 83, 84, 85, 86, 87, 88, 89, 90, 91, 92, 93, 94, 95, 96, 97, 98, 7, 99, 100, 101, 102, 103, 104, 3, 4, 6, 8, 10, 112, 113, 114, 115, 116, 117, 118, 119, 120, 121, 122, 134, 135, 136, 137, 138, 139, 123, 124, 125, 126, 127, 128, 129, 130, 131, 132, 133] (by decide +kernel) (by decide +kernel)
set_option maxRecDepth 20000 in
theorem gX6_comes_X6_weightIfSworn : GoodIn wsX6_comes (wsV RX6 232 RX6 yX6_weightIfSworn wsX6_weightIfSworn) := goodIn_app (goodIn_of _ (by decide +kernel)) ggX6_comes_X6_weightIfSworn
set_option maxRecDepth 20000 in
theorem ggX6_comes_X6_fraction : GoodIn wsX6_comes wsX6_fraction := goodIn_r _ [107, 108, 52, 38, 53, 109, 110, 9, 111] (by decide +kernel) (by decide +kernel)
set_option maxRecDepth 20000 in
theorem gX6_comes_X6_fraction : GoodIn wsX6_comes (va_wsS RX6 221 yX6_fraction wsX6_fraction) := goodIn_app (goodIn_of _ (by decide +kernel)) ggX6_comes_X6_fraction
theorem dX6_comes_0 : decode cX6_comes 0 = .ok (.aload_n 0, 1) := by decide +kernel
theorem dX6_comes_1 : decode cX6_comes 1 = .ok (.getfield 32, 3) := by decide +kernel
theorem dX6_comes_4 : decode cX6_comes 4 = .ok (.iload_n 1, 1) := by decide +kernel
theorem dX6_comes_5 : decode cX6_comes 5 = .ok (.invokevirtual 132, 3) := by decide +kernel
theorem dX6_comes_8 : decode cX6_comes 8 = .ok (.ifCond .ne 5, 3) := by decide +kernel
theorem dX6_comes_11 : decode cX6_comes 11 = .ok (.iconst (-1), 1) := by decide +kernel
theorem dX6_comes_12 : decode cX6_comes 12 = .ok (.ireturn, 1) := by decide +kernel
theorem dX6_comes_13 : decode cX6_comes 13 = .ok (.iload_n 2, 1) := by decide +kernel
theorem dX6_comes_14 : decode cX6_comes 14 = .ok (.iconst 1, 1) := by decide +kernel
theorem dX6_comes_15 : decode cX6_comes 15 = .ok (.bipush 6, 2) := by decide +kernel
theorem dX6_comes_17 : decode cX6_comes 17 = .ok (.invokestatic 73, 3) := by decide +kernel
theorem dX6_comes_20 : decode cX6_comes 20 = .ok (.ifCond .eq 13, 3) := by decide +kernel
theorem dX6_comes_23 : decode cX6_comes 23 = .ok (.iload_n 3, 1) := by decide +kernel
theorem dX6_comes_24 : decode cX6_comes 24 = .ok (.iconst 0, 1) := by decide +kernel
theorem dX6_comes_25 : decode cX6_comes 25 = .ok (.bipush 10, 2) := by decide +kernel
theorem dX6_comes_27 : decode cX6_comes 27 = .ok (.invokestatic 73, 3) := by decide +kernel
theorem dX6_comes_30 : decode cX6_comes 30 = .ok (.ifCond .ne 6, 3) := by decide +kernel
theorem dX6_comes_33 : decode cX6_comes 33 = .ok (.bipush (-2), 2) := by decide +kernel
theorem dX6_comes_35 : decode cX6_comes 35 = .ok (.ireturn, 1) := by decide +kernel
theorem dX6_comes_36 : decode cX6_comes 36 = .ok (.iconst 1, 1) := by decide +kernel
theorem dX6_comes_37 : decode cX6_comes 37 = .ok (.istore 5, 2) := by decide +kernel
theorem dX6_comes_39 : decode cX6_comes 39 = .ok (.iconst 0, 1) := by decide +kernel
theorem dX6_comes_40 : decode cX6_comes 40 = .ok (.istore 6, 2) := by decide +kernel
theorem dX6_comes_42 : decode cX6_comes 42 = .ok (.iload 6, 2) := by decide +kernel
theorem dX6_comes_44 : decode cX6_comes 44 = .ok (.iload_n 2, 1) := by decide +kernel
theorem dX6_comes_45 : decode cX6_comes 45 = .ok (.if_icmp .ge 16, 3) := by decide +kernel
theorem dX6_comes_48 : decode cX6_comes 48 = .ok (.iload 5, 2) := by decide +kernel
theorem dX6_comes_50 : decode cX6_comes 50 = .ok (.bipush 10, 2) := by decide +kernel
theorem dX6_comes_52 : decode cX6_comes 52 = .ok (.imul, 1) := by decide +kernel
theorem dX6_comes_53 : decode cX6_comes 53 = .ok (.istore 5, 2) := by decide +kernel
theorem dX6_comes_55 : decode cX6_comes 55 = .ok (.iinc 6 1, 3) := by decide +kernel
theorem dX6_comes_58 : decode cX6_comes 58 = .ok (.goto (-16), 3) := by decide +kernel
theorem dX6_comes_61 : decode cX6_comes 61 = .ok (.iconst 0, 1) := by decide +kernel
theorem dX6_comes_62 : decode cX6_comes 62 = .ok (.istore 6, 2) := by decide +kernel
theorem dX6_comes_64 : decode cX6_comes 64 = .ok (.iconst 0, 1) := by decide +kernel
theorem dX6_comes_65 : decode cX6_comes 65 = .ok (.istore 7, 2) := by decide +kernel
theorem dX6_comes_67 : decode cX6_comes 67 = .ok (.iload 7, 2) := by decide +kernel
theorem dX6_comes_69 : decode cX6_comes 69 = .ok (.iconst 1, 1) := by decide +kernel
theorem dX6_comes_70 : decode cX6_comes 70 = .ok (.iload_n 2, 1) := by decide +kernel
theorem dX6_comes_71 : decode cX6_comes 71 = .ok (.ishl, 1) := by decide +kernel
theorem dX6_comes_72 : decode cX6_comes 72 = .ok (.if_icmp .ge 23, 3) := by decide +kernel
theorem dX6_comes_75 : decode cX6_comes 75 = .ok (.iload 6, 2) := by decide +kernel
theorem dX6_comes_77 : decode cX6_comes 77 = .ok (.aload_n 0, 1) := by decide +kernel
theorem dX6_comes_78 : decode cX6_comes 78 = .ok (.iload_n 1, 1) := by decide +kernel
theorem dX6_comes_79 : decode cX6_comes 79 = .ok (.iload_n 2, 1) := by decide +kernel
theorem dX6_comes_80 : decode cX6_comes 80 = .ok (.iload_n 3, 1) := by decide +kernel
theorem dX6_comes_81 : decode cX6_comes 81 = .ok (.iload 7, 2) := by decide +kernel
theorem dX6_comes_83 : decode cX6_comes 83 = .ok (.invokevirtual 232, 3) := by decide +kernel
theorem dX6_comes_86 : decode cX6_comes 86 = .ok (.iadd, 1) := by decide +kernel
theorem dX6_comes_87 : decode cX6_comes 87 = .ok (.istore 6, 2) := by decide +kernel
theorem dX6_comes_89 : decode cX6_comes 89 = .ok (.iinc 7 1, 3) := by decide +kernel
theorem dX6_comes_92 : decode cX6_comes 92 = .ok (.goto (-25), 3) := by decide +kernel
theorem dX6_comes_95 : decode cX6_comes 95 = .ok (.iload 6, 2) := by decide +kernel
theorem dX6_comes_97 : decode cX6_comes 97 = .ok (.iload 5, 2) := by decide +kernel
theorem dX6_comes_99 : decode cX6_comes 99 = .ok (.iload 4, 2) := by decide +kernel
theorem dX6_comes_101 : decode cX6_comes 101 = .ok (.invokestatic 221, 3) := by decide +kernel
theorem dX6_comes_104 : decode cX6_comes 104 = .ok (.ireturn, 1) := by decide +kernel
theorem dX6_seed_0 : decode cX6_seed 0 = .ok (.aload_n 0, 1) := by decide +kernel
theorem dX6_seed_1 : decode cX6_seed 1 = .ok (.getfield 69, 3) := by decide +kernel
theorem dX6_seed_4 : decode cX6_seed 4 = .ok (.lstore_n 3, 1) := by decide +kernel
theorem dX6_seed_5 : decode cX6_seed 5 = .ok (.aload_n 0, 1) := by decide +kernel
theorem dX6_seed_6 : decode cX6_seed 6 = .ok (.lload_n 1, 1) := by decide +kernel
theorem dX6_seed_7 : decode cX6_seed 7 = .ok (.putfield 69, 3) := by decide +kernel
theorem dX6_seed_10 : decode cX6_seed 10 = .ok (.lload_n 3, 1) := by decide +kernel
theorem dX6_seed_11 : decode cX6_seed 11 = .ok (.lreturn, 1) := by decide +kernel
set_option maxRecDepth 20000 in
theorem ggX6_years_X6_within : GoodIn wsX6_years wsX6_within := goodIn_r _ [11] (by decide +kernel) (by decide +kernel)
set_option maxRecDepth 20000 in
theorem gX6_years_X6_within : GoodIn wsX6_years (va_wsS RX6 73 yX6_within wsX6_within) := goodIn_app (goodIn_of _ (by decide +kernel)) ggX6_years_X6_within
set_option maxRecDepth 20000 in
theorem ggX6_years_X4_copyFrom : GoodIn wsX6_years wsX4_copyFrom := goodIn_r _ [16, 17, 18, 19, 20, 21, 156, 157, 158, 159, 160, 161] (by decide +kernel) (by decide +kernel)
set_option maxRecDepth 20000 in
theorem gX6_years_X4_copyFrom : GoodIn wsX6_years (wsV RX6 189 RX4 yX4_copyFrom wsX4_copyFrom) := goodIn_app (goodIn_of _ (by decide +kernel)) ggX6_years_X4_copyFrom
set_option maxRecDepth 20000 in
theorem ggX6_years_X6_chanceUpon : GoodIn wsX6_years wsX6_chanceUpon := goodIn_r _ [25, 1, 26, 27, 28, 15, 29, 30, 31, 18, 32, 33, 34, 35, 36, 17, 37, 10, 38, 39, 40, 41, 42, 43, 44, 45, 46, 19, 47, 48, 49, 50, 51, 52, 53, 54, 55, 56, 57, 58, 59, 60, 61, 62, 63, 64, 65, 66, 67, 68, 69, 70, 71, 72, 73, 74, 75, 9, 11, 76, 77, 78, 79, 80, 81, 82, 83, 84, 85, 86, 87, 88, 89, 90, 91, 92, 93, 94, 95, 96, 97, 98, 99, 100, 101, 102, 103, 104, 105, 106, 107, 108, 109, 110, 111, 112, 113, 114, 20, 115, 116, 117, 118, 21, 119, 120, 121, 122, 123, 124, 125, 126, 127, 128, 129, 130, 131, 132, 133, 134, 135, 136, 137, 138, 139, 140, 141, 142, 143, 145, 146, 147, 148, 149, 150, 151, 152, 153, 154, 155, 156, 157, 158, 159, 160, 161, 162, 163, 164, 165, 166, 167, 168, 169, 170, 171, 172] (by decide +kernel) (by decide +kernel)
set_option maxRecDepth 20000 in
theorem gX6_years_X6_chanceUpon : GoodIn wsX6_years (wsV RX6 242 RX6 yX6_chanceUpon wsX6_chanceUpon) := goodIn_app (goodIn_of _ (by decide +kernel)) ggX6_years_X6_chanceUpon
set_option maxRecDepth 20000 in
theorem ggX6_years_J6_bitCount_0f7a4 : GoodIn wsX6_years wsJ6_bitCount_0f7a4 := goodIn_r _ [62, 63, 64, 65] (by decide +kernel) (by decide +kernel)
set_option maxRecDepth 20000 in
theorem gX6_years_J6_bitCount_0f7a4 : GoodIn wsX6_years (va_wsS RX6 167 yJ6_bitCount_0f7a4 wsJ6_bitCount_0f7a4) := goodIn_app (goodIn_of _ (by decide +kernel)) ggX6_years_J6_bitCount_0f7a4
theorem dX6_years_0 : decode cX6_years 0 = .ok (.iload_n 1, 1) := by decide +kernel
theorem dX6_years_1 : decode cX6_years 1 = .ok (.iconst 1, 1) := by decide +kernel
theorem dX6_years_2 : decode cX6_years 2 = .ok (.bipush 30, 2) := by decide +kernel
theorem dX6_years_4 : decode cX6_years 4 = .ok (.invokestatic 73, 3) := by decide +kernel
theorem dX6_years_7 : decode cX6_years 7 = .ok (.ifCond .ne 6, 3) := by decide +kernel
theorem dX6_years_10 : decode cX6_years 10 = .ok (.bipush (-2), 2) := by decide +kernel
theorem dX6_years_12 : decode cX6_years 12 = .ok (.ireturn, 1) := by decide +kernel
theorem dX6_years_13 : decode cX6_years 13 = .ok (.aload_n 0, 1) := by decide +kernel
theorem dX6_years_14 : decode cX6_years 14 = .ok (.getfield 44, 3) := by decide +kernel
theorem dX6_years_17 : decode cX6_years 17 = .ok (.aload_n 0, 1) := by decide +kernel
theorem dX6_years_18 : decode cX6_years 18 = .ok (.getfield 40, 3) := by decide +kernel
theorem dX6_years_21 : decode cX6_years 21 = .ok (.invokevirtual 189, 3) := by decide +kernel
theorem dX6_years_24 : decode cX6_years 24 = .ok (.iconst 0, 1) := by decide +kernel
theorem dX6_years_25 : decode cX6_years 25 = .ok (.istore_n 2, 1) := by decide +kernel
theorem dX6_years_26 : decode cX6_years 26 = .ok (.iconst 0, 1) := by decide +kernel
theorem dX6_years_27 : decode cX6_years 27 = .ok (.istore_n 3, 1) := by decide +kernel
theorem dX6_years_28 : decode cX6_years 28 = .ok (.iload_n 3, 1) := by decide +kernel
theorem dX6_years_29 : decode cX6_years 29 = .ok (.iload_n 1, 1) := by decide +kernel
theorem dX6_years_30 : decode cX6_years 30 = .ok (.if_icmp .ge 54, 3) := by decide +kernel
theorem dX6_years_33 : decode cX6_years 33 = .ok (.aload_n 0, 1) := by decide +kernel
theorem dX6_years_34 : decode cX6_years 34 = .ok (.aload_n 0, 1) := by decide +kernel
theorem dX6_years_35 : decode cX6_years 35 = .ok (.getfield 69, 3) := by decide +kernel
theorem dX6_years_38 : decode cX6_years 38 = .ok (.ldc2_w 236, 3) := by decide +kernel
theorem dX6_years_41 : decode cX6_years 41 = .ok (.lmul, 1) := by decide +kernel
theorem dX6_years_42 : decode cX6_years 42 = .ok (.ldc2_w 238, 3) := by decide +kernel
theorem dX6_years_45 : decode cX6_years 45 = .ok (.ladd, 1) := by decide +kernel
theorem dX6_years_46 : decode cX6_years 46 = .ok (.putfield 69, 3) := by decide +kernel
theorem dX6_years_49 : decode cX6_years 49 = .ok (.aload_n 0, 1) := by decide +kernel
theorem dX6_years_50 : decode cX6_years 50 = .ok (.aload_n 0, 1) := by decide +kernel
theorem dX6_years_51 : decode cX6_years 51 = .ok (.getfield 69, 3) := by decide +kernel
theorem dX6_years_54 : decode cX6_years 54 = .ok (.bipush 33, 2) := by decide +kernel
theorem dX6_years_56 : decode cX6_years 56 = .ok (.lushr, 1) := by decide +kernel
theorem dX6_years_57 : decode cX6_years 57 = .ok (.ldc2_w 240, 3) := by decide +kernel
theorem dX6_years_60 : decode cX6_years 60 = .ok (.lrem, 1) := by decide +kernel
theorem dX6_years_61 : decode cX6_years 61 = .ok (.l2i, 1) := by decide +kernel
theorem dX6_years_62 : decode cX6_years 62 = .ok (.invokevirtual 242, 3) := by decide +kernel
theorem dX6_years_65 : decode cX6_years 65 = .ok (.iload_n 2, 1) := by decide +kernel
theorem dX6_years_66 : decode cX6_years 66 = .ok (.aload_n 0, 1) := by decide +kernel
theorem dX6_years_67 : decode cX6_years 67 = .ok (.getfield 44, 3) := by decide +kernel
theorem dX6_years_70 : decode cX6_years 70 = .ok (.getfield 125, 3) := by decide +kernel
theorem dX6_years_73 : decode cX6_years 73 = .ok (.invokestatic 167, 3) := by decide +kernel
theorem dX6_years_76 : decode cX6_years 76 = .ok (.iadd, 1) := by decide +kernel
theorem dX6_years_77 : decode cX6_years 77 = .ok (.istore_n 2, 1) := by decide +kernel
theorem dX6_years_78 : decode cX6_years 78 = .ok (.iinc 3 1, 3) := by decide +kernel
theorem dX6_years_81 : decode cX6_years 81 = .ok (.goto (-53), 3) := by decide +kernel
theorem dX6_years_84 : decode cX6_years 84 = .ok (.iload_n 2, 1) := by decide +kernel
theorem dX6_years_85 : decode cX6_years 85 = .ok (.ireturn, 1) := by decide +kernel
set_option maxRecDepth 20000 in
theorem ggX6_keep_X6_within : GoodIn wsX6_keep wsX6_within := goodIn_r _ [8] (by decide +kernel) (by decide +kernel)
set_option maxRecDepth 20000 in
theorem gX6_keep_X6_within : GoodIn wsX6_keep (va_wsS RX6 73 yX6_within wsX6_within) := goodIn_app (goodIn_of _ (by decide +kernel)) ggX6_keep_X6_within
set_option maxRecDepth 20000 in
theorem ggX6_keep_X4_saveTo : GoodIn wsX6_keep wsX4_saveTo := goodIn_r _ [13, 14, 15, 16, 17, 18, 19, 7, 20, 32, 33, 34, 35, 36, 37] (by decide +kernel) (by decide +kernel)
set_option maxRecDepth 20000 in
theorem gX6_keep_X4_saveTo : GoodIn wsX6_keep (wsV RX6 245 RX4 yX4_saveTo wsX4_saveTo) := goodIn_app (goodIn_of _ (by decide +kernel)) ggX6_keep_X4_saveTo
theorem dX6_keep_0 : decode cX6_keep 0 = .ok (.iload_n 1, 1) := by decide +kernel
theorem dX6_keep_1 : decode cX6_keep 1 = .ok (.iconst 0, 1) := by decide +kernel
theorem dX6_keep_2 : decode cX6_keep 2 = .ok (.iconst 1, 1) := by decide +kernel
theorem dX6_keep_3 : decode cX6_keep 3 = .ok (.invokestatic 73, 3) := by decide +kernel
theorem dX6_keep_6 : decode cX6_keep 6 = .ok (.ifCond .ne 5, 3) := by decide +kernel
theorem dX6_keep_9 : decode cX6_keep 9 = .ok (.iconst (-1), 1) := by decide +kernel
theorem dX6_keep_10 : decode cX6_keep 10 = .ok (.ireturn, 1) := by decide +kernel
theorem dX6_keep_11 : decode cX6_keep 11 = .ok (.aload_n 0, 1) := by decide +kernel
theorem dX6_keep_12 : decode cX6_keep 12 = .ok (.getfield 40, 3) := by decide +kernel
theorem dX6_keep_15 : decode cX6_keep 15 = .ok (.aload_n 0, 1) := by decide +kernel
theorem dX6_keep_16 : decode cX6_keep 16 = .ok (.getfield 61, 3) := by decide +kernel
theorem dX6_keep_19 : decode cX6_keep 19 = .ok (.iload_n 1, 1) := by decide +kernel
theorem dX6_keep_20 : decode cX6_keep 20 = .ok (.invokevirtual 245, 3) := by decide +kernel
theorem dX6_keep_23 : decode cX6_keep 23 = .ok (.aload_n 0, 1) := by decide +kernel
theorem dX6_keep_24 : decode cX6_keep 24 = .ok (.dup, 1) := by decide +kernel
theorem dX6_keep_25 : decode cX6_keep 25 = .ok (.getfield 65, 3) := by decide +kernel
theorem dX6_keep_28 : decode cX6_keep 28 = .ok (.iconst 1, 1) := by decide +kernel
theorem dX6_keep_29 : decode cX6_keep 29 = .ok (.iload_n 1, 1) := by decide +kernel
theorem dX6_keep_30 : decode cX6_keep 30 = .ok (.ishl, 1) := by decide +kernel
theorem dX6_keep_31 : decode cX6_keep 31 = .ok (.ior, 1) := by decide +kernel
theorem dX6_keep_32 : decode cX6_keep 32 = .ok (.putfield 65, 3) := by decide +kernel
theorem dX6_keep_35 : decode cX6_keep 35 = .ok (.aload_n 0, 1) := by decide +kernel
theorem dX6_keep_36 : decode cX6_keep 36 = .ok (.getfield 40, 3) := by decide +kernel
theorem dX6_keep_39 : decode cX6_keep 39 = .ok (.getfield 249, 3) := by decide +kernel
theorem dX6_keep_42 : decode cX6_keep 42 = .ok (.ireturn, 1) := by decide +kernel
set_option maxRecDepth 20000 in
theorem ggX6_again_X6_within : GoodIn wsX6_again wsX6_within := goodIn_r _ [10] (by decide +kernel) (by decide +kernel)
set_option maxRecDepth 20000 in
theorem gX6_again_X6_within : GoodIn wsX6_again (va_wsS RX6 73 yX6_within wsX6_within) := goodIn_app (goodIn_of _ (by decide +kernel)) ggX6_again_X6_within
set_option maxRecDepth 20000 in
theorem ggX6_again_X6_bit : GoodIn wsX6_again wsX6_bit := goodIn_r _ [13] (by decide +kernel) (by decide +kernel)
set_option maxRecDepth 20000 in
theorem gX6_again_X6_bit : GoodIn wsX6_again (va_wsS RX6 118 yX6_bit wsX6_bit) := goodIn_app (goodIn_of _ (by decide +kernel)) ggX6_again_X6_bit
set_option maxRecDepth 20000 in
theorem ggX6_again_X4_loadFrom : GoodIn wsX6_again wsX4_loadFrom := goodIn_r _ [18, 19, 20, 21, 22, 23, 24, 9, 25, 39, 40, 41, 42, 43, 44] (by decide +kernel) (by decide +kernel)
set_option maxRecDepth 20000 in
theorem gX6_again_X4_loadFrom : GoodIn wsX6_again (wsV RX6 252 RX4 yX4_loadFrom wsX4_loadFrom) := goodIn_app (goodIn_of _ (by decide +kernel)) ggX6_again_X4_loadFrom
theorem dX6_again_0 : decode cX6_again 0 = .ok (.iload_n 1, 1) := by decide +kernel
theorem dX6_again_1 : decode cX6_again 1 = .ok (.iconst 0, 1) := by decide +kernel
theorem dX6_again_2 : decode cX6_again 2 = .ok (.iconst 1, 1) := by decide +kernel
theorem dX6_again_3 : decode cX6_again 3 = .ok (.invokestatic 73, 3) := by decide +kernel
theorem dX6_again_6 : decode cX6_again 6 = .ok (.ifCond .ne 5, 3) := by decide +kernel
theorem dX6_again_9 : decode cX6_again 9 = .ok (.iconst (-1), 1) := by decide +kernel
theorem dX6_again_10 : decode cX6_again 10 = .ok (.ireturn, 1) := by decide +kernel
theorem dX6_again_11 : decode cX6_again 11 = .ok (.aload_n 0, 1) := by decide +kernel
theorem dX6_again_12 : decode cX6_again 12 = .ok (.getfield 65, 3) := by decide +kernel
theorem dX6_again_15 : decode cX6_again 15 = .ok (.iload_n 1, 1) := by decide +kernel
theorem dX6_again_16 : decode cX6_again 16 = .ok (.invokestatic 118, 3) := by decide +kernel
theorem dX6_again_19 : decode cX6_again 19 = .ok (.ifCond .ne 6, 3) := by decide +kernel
theorem dX6_again_22 : decode cX6_again 22 = .ok (.bipush (-3), 2) := by decide +kernel
theorem dX6_again_24 : decode cX6_again 24 = .ok (.ireturn, 1) := by decide +kernel
theorem dX6_again_25 : decode cX6_again 25 = .ok (.aload_n 0, 1) := by decide +kernel
theorem dX6_again_26 : decode cX6_again 26 = .ok (.getfield 40, 3) := by decide +kernel
theorem dX6_again_29 : decode cX6_again 29 = .ok (.aload_n 0, 1) := by decide +kernel
theorem dX6_again_30 : decode cX6_again 30 = .ok (.getfield 61, 3) := by decide +kernel
theorem dX6_again_33 : decode cX6_again 33 = .ok (.iload_n 1, 1) := by decide +kernel
theorem dX6_again_34 : decode cX6_again 34 = .ok (.invokevirtual 252, 3) := by decide +kernel
theorem dX6_again_37 : decode cX6_again 37 = .ok (.aload_n 0, 1) := by decide +kernel
theorem dX6_again_38 : decode cX6_again 38 = .ok (.getfield 50, 3) := by decide +kernel
theorem dX6_again_41 : decode cX6_again 41 = .ok (.iconst 0, 1) := by decide +kernel
theorem dX6_again_42 : decode cX6_again 42 = .ok (.putfield 91, 3) := by decide +kernel
theorem dX6_again_45 : decode cX6_again 45 = .ok (.aload_n 0, 1) := by decide +kernel
theorem dX6_again_46 : decode cX6_again 46 = .ok (.getfield 40, 3) := by decide +kernel
theorem dX6_again_49 : decode cX6_again 49 = .ok (.getfield 249, 3) := by decide +kernel
theorem dX6_again_52 : decode cX6_again 52 = .ok (.ireturn, 1) := by decide +kernel
set_option maxRecDepth 20000 in
theorem ggX6_count_X4_skyHearers : GoodIn wsX6_count wsX4_skyHearers := goodIn_r _ [20, 21, 22, 23, 24, 25, 26, 27, 28, 29, 30, 31, 32, 33, 34, 35, 36, 37, 38, 39, 40, 41, 42, 43, 44, 19, 45, 46, 47, 48, 49, 50, 51, 52, 53, 54, 55, 56, 57, 82, 83, 84, 85, 86, 87, 71, 72, 73, 74, 75, 76, 77, 78, 79, 80, 81] (by decide +kernel) (by decide +kernel)
set_option maxRecDepth 20000 in
theorem gX6_count_X4_skyHearers : GoodIn wsX6_count (wsV RX6 128 RX4 yX4_skyHearers wsX4_skyHearers) := goodIn_app (goodIn_of _ (by decide +kernel)) ggX6_count_X4_skyHearers
theorem dX6_count_0 : decode cX6_count 0 = .ok (.iload_n 1, 1) := by decide +kernel
theorem dX6_count_1 : decode cX6_count 1 = .ok (.tableswitch 147 0 10 #[59, 67, 75, 83, 91, 99, 107, 115, 123, 131, 139], 59) := by decide +kernel
theorem dX6_count_60 : decode cX6_count 60 = .ok (.aload_n 0, 1) := by decide +kernel
theorem dX6_count_61 : decode cX6_count 61 = .ok (.getfield 10, 3) := by decide +kernel
theorem dX6_count_64 : decode cX6_count 64 = .ok (.getfield 77, 3) := by decide +kernel
theorem dX6_count_67 : decode cX6_count 67 = .ok (.ireturn, 1) := by decide +kernel
theorem dX6_count_68 : decode cX6_count 68 = .ok (.aload_n 0, 1) := by decide +kernel
theorem dX6_count_69 : decode cX6_count 69 = .ok (.getfield 32, 3) := by decide +kernel
theorem dX6_count_72 : decode cX6_count 72 = .ok (.getfield 92, 3) := by decide +kernel
theorem dX6_count_75 : decode cX6_count 75 = .ok (.ireturn, 1) := by decide +kernel
theorem dX6_count_76 : decode cX6_count 76 = .ok (.aload_n 0, 1) := by decide +kernel
theorem dX6_count_77 : decode cX6_count 77 = .ok (.getfield 32, 3) := by decide +kernel
theorem dX6_count_80 : decode cX6_count 80 = .ok (.getfield 95, 3) := by decide +kernel
theorem dX6_count_83 : decode cX6_count 83 = .ok (.ireturn, 1) := by decide +kernel
theorem dX6_count_84 : decode cX6_count 84 = .ok (.aload_n 0, 1) := by decide +kernel
theorem dX6_count_85 : decode cX6_count 85 = .ok (.getfield 32, 3) := by decide +kernel
theorem dX6_count_88 : decode cX6_count 88 = .ok (.getfield 98, 3) := by decide +kernel
theorem dX6_count_91 : decode cX6_count 91 = .ok (.ireturn, 1) := by decide +kernel
theorem dX6_count_92 : decode cX6_count 92 = .ok (.aload_n 0, 1) := by decide +kernel
theorem dX6_count_93 : decode cX6_count 93 = .ok (.getfield 40, 3) := by decide +kernel
theorem dX6_count_96 : decode cX6_count 96 = .ok (.getfield 249, 3) := by decide +kernel
theorem dX6_count_99 : decode cX6_count 99 = .ok (.ireturn, 1) := by decide +kernel
theorem dX6_count_100 : decode cX6_count 100 = .ok (.aload_n 0, 1) := by decide +kernel
theorem dX6_count_101 : decode cX6_count 101 = .ok (.getfield 40, 3) := by decide +kernel
theorem dX6_count_104 : decode cX6_count 104 = .ok (.getfield 125, 3) := by decide +kernel
theorem dX6_count_107 : decode cX6_count 107 = .ok (.ireturn, 1) := by decide +kernel
theorem dX6_count_108 : decode cX6_count 108 = .ok (.aload_n 0, 1) := by decide +kernel
theorem dX6_count_109 : decode cX6_count 109 = .ok (.getfield 40, 3) := by decide +kernel
theorem dX6_count_112 : decode cX6_count 112 = .ok (.getfield 196, 3) := by decide +kernel
theorem dX6_count_115 : decode cX6_count 115 = .ok (.ireturn, 1) := by decide +kernel
theorem dX6_count_116 : decode cX6_count 116 = .ok (.aload_n 0, 1) := by decide +kernel
theorem dX6_count_117 : decode cX6_count 117 = .ok (.getfield 40, 3) := by decide +kernel
theorem dX6_count_120 : decode cX6_count 120 = .ok (.getfield 115, 3) := by decide +kernel
theorem dX6_count_123 : decode cX6_count 123 = .ok (.ireturn, 1) := by decide +kernel
theorem dX6_count_124 : decode cX6_count 124 = .ok (.aload_n 0, 1) := by decide +kernel
theorem dX6_count_125 : decode cX6_count 125 = .ok (.getfield 40, 3) := by decide +kernel
theorem dX6_count_128 : decode cX6_count 128 = .ok (.invokevirtual 128, 3) := by decide +kernel
theorem dX6_count_131 : decode cX6_count 131 = .ok (.ireturn, 1) := by decide +kernel
theorem dX6_count_132 : decode cX6_count 132 = .ok (.aload_n 0, 1) := by decide +kernel
theorem dX6_count_133 : decode cX6_count 133 = .ok (.getfield 50, 3) := by decide +kernel
theorem dX6_count_136 : decode cX6_count 136 = .ok (.getfield 91, 3) := by decide +kernel
theorem dX6_count_139 : decode cX6_count 139 = .ok (.ireturn, 1) := by decide +kernel
theorem dX6_count_140 : decode cX6_count 140 = .ok (.aload_n 0, 1) := by decide +kernel
theorem dX6_count_141 : decode cX6_count 141 = .ok (.getfield 57, 3) := by decide +kernel
theorem dX6_count_144 : decode cX6_count 144 = .ok (.getfield 210, 3) := by decide +kernel
theorem dX6_count_147 : decode cX6_count 147 = .ok (.ireturn, 1) := by decide +kernel
theorem dX6_count_148 : decode cX6_count 148 = .ok (.bipush (-2), 2) := by decide +kernel
theorem dX6_count_150 : decode cX6_count 150 = .ok (.ireturn, 1) := by decide +kernel
set_option maxRecDepth 20000 in
theorem ggX6_canHappen_X4_hearers : GoodIn wsX6_canHappen wsX4_hearers := goodIn_r _ [6, 7, 8, 9, 10, 11, 12, 13, 5, 14, 15, 16, 17, 18, 19, 20, 21, 22, 153, 154, 155, 156, 157, 158, 159, 160, 161, 162, 163, 164, 165, 166, 167, 168, 169] (by decide +kernel) (by decide +kernel)
set_option maxRecDepth 20000 in
theorem gX6_canHappen_X4_hearers : GoodIn wsX6_canHappen (wsV RX6 158 RX4 yX4_hearers wsX4_hearers) := goodIn_app (goodIn_of _ (by decide +kernel)) ggX6_canHappen_X4_hearers
set_option maxRecDepth 20000 in
theorem ggX6_canHappen_X4_freeBy : GoodIn wsX6_canHappen wsX4_freeBy := goodIn_r _ [26, 27, 7, 28, 29, 30, 31, 5, 32, 33, 34, 10, 21, 17, 22, 16, 18, 35, 36, 37, 38, 39, 40, 41, 42, 43, 44, 45, 46, 153, 154, 155, 156, 157, 158, 159, 160, 161, 162, 163, 164, 165, 166, 167, 168, 169] (by decide +kernel) (by decide +kernel)
set_option maxRecDepth 20000 in
theorem gX6_canHappen_X4_freeBy : GoodIn wsX6_canHappen (wsV RX6 161 RX4 yX4_freeBy wsX4_freeBy) := goodIn_app (goodIn_of _ (by decide +kernel)) ggX6_canHappen_X4_freeBy
set_option maxRecDepth 20000 in
theorem ggX6_canHappen_X4_tryMove : GoodIn wsX6_canHappen wsX4_tryMove := goodIn_r _ [50, 7, 51, 52, 53, 54, 55, 56, 57, 17, 58, 11, 12, 13, 5, 14, 15, 59, 60, 61, 62, 153, 154, 155, 156, 157, 158, 159, 160, 161, 162, 163, 164, 165, 166, 167, 168, 169] (by decide +kernel) (by decide +kernel)
set_option maxRecDepth 20000 in
theorem gX6_canHappen_X4_tryMove : GoodIn wsX6_canHappen (wsV RX6 255 RX4 yX4_tryMove wsX4_tryMove) := goodIn_app (goodIn_of _ (by decide +kernel)) ggX6_canHappen_X4_tryMove
set_option maxRecDepth 20000 in
theorem ggX6_canHappen_X4_passDays : GoodIn wsX6_canHappen wsX4_passDays := goodIn_r _ [66, 67, 68, 69, 5, 70, 71, 7, 27, 72, 73, 74, 75, 76, 77, 78, 79, 80, 81, 82, 83, 84, 85, 54, 86, 87, 88, 89, 90, 91, 92, 93, 94, 21, 17, 22, 95, 3, 4, 6, 8, 9, 10, 11, 12, 13, 14, 15, 16, 18, 19, 20, 96, 24, 25, 26, 28, 29, 30, 31, 32, 33, 34, 35, 36, 37, 38, 39, 40, 41, 42, 43, 44, 45, 46, 97, 98, 99, 100, 101, 102, 153, 154, 155, 156, 157, 158, 159, 160, 161, 162, 163, 164, 165, 166, 167, 168, 169] (by decide +kernel) (by decide +kernel)
set_option maxRecDepth 20000 in
theorem gX6_canHappen_X4_passDays : GoodIn wsX6_canHappen (wsV RX6 192 RX4 yX4_passDays wsX4_passDays) := goodIn_app (goodIn_of _ (by decide +kernel)) ggX6_canHappen_X4_passDays
set_option maxRecDepth 20000 in
theorem ggX6_canHappen_X4_trySwear : GoodIn wsX6_canHappen wsX4_trySwear := goodIn_r _ [106, 27, 107, 108, 109, 5, 110, 7, 39, 111, 112, 113, 54, 114, 101, 57, 17, 58, 115, 116, 117, 118, 16, 18, 21, 22, 153, 154, 155, 156, 157, 158, 159, 160, 161, 162, 163, 164, 165, 166, 167, 168, 169] (by decide +kernel) (by decide +kernel)
set_option maxRecDepth 20000 in
theorem gX6_canHappen_X4_trySwear : GoodIn wsX6_canHappen (wsV RX6 258 RX4 yX4_trySwear wsX4_trySwear) := goodIn_app (goodIn_of _ (by decide +kernel)) ggX6_canHappen_X4_trySwear
set_option maxRecDepth 20000 in
theorem ggX6_canHappen_X4_tryLetOff : GoodIn wsX6_canHappen wsX4_tryLetOff := goodIn_r _ [122, 115, 116, 117, 5, 118, 7, 27, 111, 112, 113, 54, 114, 101, 57, 17, 58, 16, 18, 123, 124, 125, 126, 35, 36, 37, 38, 28, 39, 21, 22, 40, 41, 42, 43, 44, 45, 46, 153, 154, 155, 156, 157, 158, 159, 160, 161, 162, 163, 164, 165, 166, 167, 168, 169] (by decide +kernel) (by decide +kernel)
set_option maxRecDepth 20000 in
theorem gX6_canHappen_X4_tryLetOff : GoodIn wsX6_canHappen (wsV RX6 261 RX4 yX4_tryLetOff wsX4_tryLetOff) := goodIn_app (goodIn_of _ (by decide +kernel)) ggX6_canHappen_X4_tryLetOff
set_option maxRecDepth 20000 in
theorem ggX6_canHappen_X4_tryWool : GoodIn wsX6_canHappen wsX4_tryWool := goodIn_r _ [130, 7, 9, 131, 132, 133, 54, 134, 135, 136, 137, 138, 139, 140, 52, 53, 55, 56, 57, 17, 58, 21, 22, 153, 154, 155, 156, 157, 158, 159, 160, 161, 162, 163, 164, 165, 166, 167, 168, 169] (by decide +kernel) (by decide +kernel)
set_option maxRecDepth 20000 in
theorem gX6_canHappen_X4_tryWool : GoodIn wsX6_canHappen (wsV RX6 264 RX4 yX4_tryWool wsX4_tryWool) := goodIn_app (goodIn_of _ (by decide +kernel)) ggX6_canHappen_X4_tryWool
set_option maxRecDepth 20000 in
theorem ggX6_canHappen_X4_isSworn : GoodIn wsX6_canHappen wsX4_isSworn := goodIn_r _ [118, 7, 27, 111, 112, 113, 54, 114, 101, 57, 17, 58, 16, 18, 153, 154, 155, 156, 157, 158, 159, 160, 161, 162, 163, 164, 165, 166, 167, 168, 169] (by decide +kernel) (by decide +kernel)
set_option maxRecDepth 20000 in
theorem gX6_canHappen_X4_isSworn : GoodIn wsX6_canHappen (wsV RX6 172 RX4 yX4_isSworn wsX4_isSworn) := goodIn_app (goodIn_of _ (by decide +kernel)) ggX6_canHappen_X4_isSworn
theorem dX6_canHappen_0 : decode cX6_canHappen 0 = .ok (.iload_n 1, 1) := by decide +kernel
theorem dX6_canHappen_1 : decode cX6_canHappen 1 = .ok (.iconst 1, 1) := by decide +kernel
theorem dX6_canHappen_2 : decode cX6_canHappen 2 = .ok (.if_icmp .ne 22, 3) := by decide +kernel
theorem dX6_canHappen_5 : decode cX6_canHappen 5 = .ok (.aload_n 0, 1) := by decide +kernel
theorem dX6_canHappen_6 : decode cX6_canHappen 6 = .ok (.getfield 44, 3) := by decide +kernel
theorem dX6_canHappen_9 : decode cX6_canHappen 9 = .ok (.aload_n 0, 1) := by decide +kernel
theorem dX6_canHappen_10 : decode cX6_canHappen 10 = .ok (.getfield 44, 3) := by decide +kernel
theorem dX6_canHappen_13 : decode cX6_canHappen 13 = .ok (.iload_n 2, 1) := by decide +kernel
theorem dX6_canHappen_14 : decode cX6_canHappen 14 = .ok (.iload_n 3, 1) := by decide +kernel
theorem dX6_canHappen_15 : decode cX6_canHappen 15 = .ok (.invokevirtual 158, 3) := by decide +kernel
theorem dX6_canHappen_18 : decode cX6_canHappen 18 = .ok (.invokevirtual 161, 3) := by decide +kernel
theorem dX6_canHappen_21 : decode cX6_canHappen 21 = .ok (.pop, 1) := by decide +kernel
theorem dX6_canHappen_22 : decode cX6_canHappen 22 = .ok (.iconst 1, 1) := by decide +kernel
theorem dX6_canHappen_23 : decode cX6_canHappen 23 = .ok (.ireturn, 1) := by decide +kernel
theorem dX6_canHappen_24 : decode cX6_canHappen 24 = .ok (.iload_n 1, 1) := by decide +kernel
theorem dX6_canHappen_25 : decode cX6_canHappen 25 = .ok (.iconst 4, 1) := by decide +kernel
theorem dX6_canHappen_26 : decode cX6_canHappen 26 = .ok (.if_icmp .ne 13, 3) := by decide +kernel
theorem dX6_canHappen_29 : decode cX6_canHappen 29 = .ok (.aload_n 0, 1) := by decide +kernel
theorem dX6_canHappen_30 : decode cX6_canHappen 30 = .ok (.getfield 44, 3) := by decide +kernel
theorem dX6_canHappen_33 : decode cX6_canHappen 33 = .ok (.iload_n 2, 1) := by decide +kernel
theorem dX6_canHappen_34 : decode cX6_canHappen 34 = .ok (.iload_n 3, 1) := by decide +kernel
theorem dX6_canHappen_35 : decode cX6_canHappen 35 = .ok (.invokevirtual 255, 3) := by decide +kernel
theorem dX6_canHappen_38 : decode cX6_canHappen 38 = .ok (.ireturn, 1) := by decide +kernel
theorem dX6_canHappen_39 : decode cX6_canHappen 39 = .ok (.iload_n 2, 1) := by decide +kernel
theorem dX6_canHappen_40 : decode cX6_canHappen 40 = .ok (.ifCond .eq 5, 3) := by decide +kernel
theorem dX6_canHappen_43 : decode cX6_canHappen 43 = .ok (.iconst 0, 1) := by decide +kernel
theorem dX6_canHappen_44 : decode cX6_canHappen 44 = .ok (.ireturn, 1) := by decide +kernel
theorem dX6_canHappen_45 : decode cX6_canHappen 45 = .ok (.iload_n 1, 1) := by decide +kernel
theorem dX6_canHappen_46 : decode cX6_canHappen 46 = .ok (.tableswitch 104 0 6 #[42, 104, 68, 77, 104, 86, 95], 42) := by decide +kernel
theorem dX6_canHappen_88 : decode cX6_canHappen 88 = .ok (.aload_n 0, 1) := by decide +kernel
theorem dX6_canHappen_89 : decode cX6_canHappen 89 = .ok (.getfield 44, 3) := by decide +kernel
theorem dX6_canHappen_92 : decode cX6_canHappen 92 = .ok (.iload_n 3, 1) := by decide +kernel
theorem dX6_canHappen_93 : decode cX6_canHappen 93 = .ok (.ifCond .ne 7, 3) := by decide +kernel
theorem dX6_canHappen_96 : decode cX6_canHappen 96 = .ok (.iconst 1, 1) := by decide +kernel
theorem dX6_canHappen_97 : decode cX6_canHappen 97 = .ok (.goto 4, 3) := by decide +kernel
theorem dX6_canHappen_100 : decode cX6_canHappen 100 = .ok (.iconst 0, 1) := by decide +kernel
theorem dX6_canHappen_101 : decode cX6_canHappen 101 = .ok (.invokevirtual 192, 3) := by decide +kernel
theorem dX6_canHappen_104 : decode cX6_canHappen 104 = .ok (.iload_n 3, 1) := by decide +kernel
theorem dX6_canHappen_105 : decode cX6_canHappen 105 = .ok (.ifCond .ne 7, 3) := by decide +kernel
theorem dX6_canHappen_108 : decode cX6_canHappen 108 = .ok (.iconst 1, 1) := by decide +kernel
theorem dX6_canHappen_109 : decode cX6_canHappen 109 = .ok (.goto 4, 3) := by decide +kernel
theorem dX6_canHappen_112 : decode cX6_canHappen 112 = .ok (.iconst 0, 1) := by decide +kernel
theorem dX6_canHappen_113 : decode cX6_canHappen 113 = .ok (.ireturn, 1) := by decide +kernel
theorem dX6_canHappen_114 : decode cX6_canHappen 114 = .ok (.aload_n 0, 1) := by decide +kernel
theorem dX6_canHappen_115 : decode cX6_canHappen 115 = .ok (.getfield 44, 3) := by decide +kernel
theorem dX6_canHappen_118 : decode cX6_canHappen 118 = .ok (.iload_n 3, 1) := by decide +kernel
theorem dX6_canHappen_119 : decode cX6_canHappen 119 = .ok (.invokevirtual 258, 3) := by decide +kernel
theorem dX6_canHappen_122 : decode cX6_canHappen 122 = .ok (.ireturn, 1) := by decide +kernel
theorem dX6_canHappen_123 : decode cX6_canHappen 123 = .ok (.aload_n 0, 1) := by decide +kernel
theorem dX6_canHappen_124 : decode cX6_canHappen 124 = .ok (.getfield 44, 3) := by decide +kernel
theorem dX6_canHappen_127 : decode cX6_canHappen 127 = .ok (.iload_n 3, 1) := by decide +kernel
theorem dX6_canHappen_128 : decode cX6_canHappen 128 = .ok (.invokevirtual 261, 3) := by decide +kernel
theorem dX6_canHappen_131 : decode cX6_canHappen 131 = .ok (.ireturn, 1) := by decide +kernel
theorem dX6_canHappen_132 : decode cX6_canHappen 132 = .ok (.aload_n 0, 1) := by decide +kernel
theorem dX6_canHappen_133 : decode cX6_canHappen 133 = .ok (.getfield 44, 3) := by decide +kernel
theorem dX6_canHappen_136 : decode cX6_canHappen 136 = .ok (.iload_n 3, 1) := by decide +kernel
theorem dX6_canHappen_137 : decode cX6_canHappen 137 = .ok (.invokevirtual 264, 3) := by decide +kernel
theorem dX6_canHappen_140 : decode cX6_canHappen 140 = .ok (.ireturn, 1) := by decide +kernel
theorem dX6_canHappen_141 : decode cX6_canHappen 141 = .ok (.aload_n 0, 1) := by decide +kernel
theorem dX6_canHappen_142 : decode cX6_canHappen 142 = .ok (.getfield 44, 3) := by decide +kernel
theorem dX6_canHappen_145 : decode cX6_canHappen 145 = .ok (.iload_n 3, 1) := by decide +kernel
theorem dX6_canHappen_146 : decode cX6_canHappen 146 = .ok (.invokevirtual 172, 3) := by decide +kernel
theorem dX6_canHappen_149 : decode cX6_canHappen 149 = .ok (.ireturn, 1) := by decide +kernel
theorem dX6_canHappen_150 : decode cX6_canHappen 150 = .ok (.iconst 0, 1) := by decide +kernel
theorem dX6_canHappen_151 : decode cX6_canHappen 151 = .ok (.ireturn, 1) := by decide +kernel
set_option maxRecDepth 20000 in
theorem ggX6_chanceUpon_X4_hearers : GoodIn wsX6_chanceUpon wsX4_hearers := goodIn_r _ [6, 7, 8, 9, 10, 11, 12, 13, 5, 14, 15, 16, 17, 18, 19, 20, 21, 22, 140, 141, 142, 143, 144, 145, 146, 147, 148, 149, 150, 151, 152, 153, 154, 155, 156] (by decide +kernel) (by decide +kernel)
set_option maxRecDepth 20000 in
theorem gX6_chanceUpon_X4_hearers : GoodIn wsX6_chanceUpon (wsV RX6 158 RX4 yX4_hearers wsX4_hearers) := goodIn_app (goodIn_of _ (by decide +kernel)) ggX6_chanceUpon_X4_hearers
set_option maxRecDepth 20000 in
theorem ggX6_chanceUpon_X4_freeBy : GoodIn wsX6_chanceUpon wsX4_freeBy := goodIn_r _ [26, 27, 7, 28, 29, 30, 31, 5, 32, 33, 34, 10, 21, 17, 22, 16, 18, 35, 36, 37, 38, 39, 40, 41, 42, 43, 44, 45, 46, 140, 141, 142, 143, 144, 145, 146, 147, 148, 149, 150, 151, 152, 153, 154, 155, 156] (by decide +kernel) (by decide +kernel)
set_option maxRecDepth 20000 in
theorem gX6_chanceUpon_X4_freeBy : GoodIn wsX6_chanceUpon (wsV RX6 161 RX4 yX4_freeBy wsX4_freeBy) := goodIn_app (goodIn_of _ (by decide +kernel)) ggX6_chanceUpon_X4_freeBy
set_option maxRecDepth 20000 in
theorem ggX6_chanceUpon_X4_tryMove : GoodIn wsX6_chanceUpon wsX4_tryMove := goodIn_r _ [50, 7, 51, 52, 53, 54, 55, 56, 57, 17, 58, 11, 12, 13, 5, 14, 15, 59, 60, 61, 62, 140, 141, 142, 143, 144, 145, 146, 147, 148, 149, 150, 151, 152, 153, 154, 155, 156] (by decide +kernel) (by decide +kernel)
set_option maxRecDepth 20000 in
theorem gX6_chanceUpon_X4_tryMove : GoodIn wsX6_chanceUpon (wsV RX6 255 RX4 yX4_tryMove wsX4_tryMove) := goodIn_app (goodIn_of _ (by decide +kernel)) ggX6_chanceUpon_X4_tryMove
set_option maxRecDepth 20000 in
theorem ggX6_chanceUpon_X4_trySwear : GoodIn wsX6_chanceUpon wsX4_trySwear := goodIn_r _ [66, 27, 67, 68, 69, 5, 70, 7, 39, 71, 72, 73, 54, 74, 75, 57, 17, 58, 76, 77, 78, 79, 16, 18, 21, 22, 140, 141, 142, 143, 144, 145, 146, 147, 148, 149, 150, 151, 152, 153, 154, 155, 156] (by decide +kernel) (by decide +kernel)
set_option maxRecDepth 20000 in
theorem gX6_chanceUpon_X4_trySwear : GoodIn wsX6_chanceUpon (wsV RX6 258 RX4 yX4_trySwear wsX4_trySwear) := goodIn_app (goodIn_of _ (by decide +kernel)) ggX6_chanceUpon_X4_trySwear
set_option maxRecDepth 20000 in
theorem ggX6_chanceUpon_X4_tryWool : GoodIn wsX6_chanceUpon wsX4_tryWool := goodIn_r _ [83, 7, 9, 84, 85, 86, 54, 87, 88, 89, 90, 91, 92, 93, 52, 53, 55, 56, 57, 17, 58, 21, 22, 140, 141, 142, 143, 144, 145, 146, 147, 148, 149, 150, 151, 152, 153, 154, 155, 156] (by decide +kernel) (by decide +kernel)
set_option maxRecDepth 20000 in
theorem gX6_chanceUpon_X4_tryWool : GoodIn wsX6_chanceUpon (wsV RX6 264 RX4 yX4_tryWool wsX4_tryWool) := goodIn_app (goodIn_of _ (by decide +kernel)) ggX6_chanceUpon_X4_tryWool
set_option maxRecDepth 20000 in
theorem ggX6_chanceUpon_X4_passDay : GoodIn wsX6_chanceUpon wsX4_passDay := goodIn_r _ [97, 98, 7, 27, 99, 100, 101, 102, 103, 104, 105, 106, 5, 107, 108, 109, 110, 111, 112, 54, 113, 114, 115, 116, 117, 118, 119, 120, 121, 21, 17, 22, 122, 3, 4, 6, 8, 9, 10, 11, 12, 13, 14, 15, 16, 18, 19, 20, 123, 24, 25, 26, 28, 29, 30, 31, 32, 33, 34, 35, 36, 37, 38, 39, 40, 41, 42, 43, 44, 45, 46, 124, 125, 126, 127, 75, 128, 140, 141, 142, 143, 144, 145, 146, 147, 148, 149, 150, 151, 152, 153, 154, 155, 156] (by decide +kernel) (by decide +kernel)
set_option maxRecDepth 20000 in
theorem gX6_chanceUpon_X4_passDay : GoodIn wsX6_chanceUpon (wsV RX6 151 RX4 yX4_passDay wsX4_passDay) := goodIn_app (goodIn_of _ (by decide +kernel)) ggX6_chanceUpon_X4_passDay
theorem dX6_chanceUpon_0 : decode cX6_chanceUpon 0 = .ok (.iload_n 1, 1) := by decide +kernel
theorem dX6_chanceUpon_1 : decode cX6_chanceUpon 1 = .ok (.bipush 10, 2) := by decide +kernel
theorem dX6_chanceUpon_3 : decode cX6_chanceUpon 3 = .ok (.if_icmp .ge 23, 3) := by decide +kernel
theorem dX6_chanceUpon_6 : decode cX6_chanceUpon 6 = .ok (.aload_n 0, 1) := by decide +kernel
theorem dX6_chanceUpon_7 : decode cX6_chanceUpon 7 = .ok (.getfield 44, 3) := by decide +kernel
theorem dX6_chanceUpon_10 : decode cX6_chanceUpon 10 = .ok (.aload_n 0, 1) := by decide +kernel
theorem dX6_chanceUpon_11 : decode cX6_chanceUpon 11 = .ok (.getfield 44, 3) := by decide +kernel
theorem dX6_chanceUpon_14 : decode cX6_chanceUpon 14 = .ok (.iload_n 1, 1) := by decide +kernel
theorem dX6_chanceUpon_15 : decode cX6_chanceUpon 15 = .ok (.iconst 3, 1) := by decide +kernel
theorem dX6_chanceUpon_16 : decode cX6_chanceUpon 16 = .ok (.invokevirtual 158, 3) := by decide +kernel
theorem dX6_chanceUpon_19 : decode cX6_chanceUpon 19 = .ok (.invokevirtual 161, 3) := by decide +kernel
theorem dX6_chanceUpon_22 : decode cX6_chanceUpon 22 = .ok (.pop, 1) := by decide +kernel
theorem dX6_chanceUpon_23 : decode cX6_chanceUpon 23 = .ok (.goto 89, 3) := by decide +kernel
theorem dX6_chanceUpon_26 : decode cX6_chanceUpon 26 = .ok (.iload_n 1, 1) := by decide +kernel
theorem dX6_chanceUpon_27 : decode cX6_chanceUpon 27 = .ok (.bipush 20, 2) := by decide +kernel
theorem dX6_chanceUpon_29 : decode cX6_chanceUpon 29 = .ok (.if_icmp .ge 32, 3) := by decide +kernel
theorem dX6_chanceUpon_32 : decode cX6_chanceUpon 32 = .ok (.aload_n 0, 1) := by decide +kernel
theorem dX6_chanceUpon_33 : decode cX6_chanceUpon 33 = .ok (.getfield 44, 3) := by decide +kernel
theorem dX6_chanceUpon_36 : decode cX6_chanceUpon 36 = .ok (.iload_n 1, 1) := by decide +kernel
theorem dX6_chanceUpon_37 : decode cX6_chanceUpon 37 = .ok (.bipush 10, 2) := by decide +kernel
theorem dX6_chanceUpon_39 : decode cX6_chanceUpon 39 = .ok (.isub, 1) := by decide +kernel
theorem dX6_chanceUpon_40 : decode cX6_chanceUpon 40 = .ok (.iconst 2, 1) := by decide +kernel
theorem dX6_chanceUpon_41 : decode cX6_chanceUpon 41 = .ok (.idiv, 1) := by decide +kernel
theorem dX6_chanceUpon_42 : decode cX6_chanceUpon 42 = .ok (.iload_n 1, 1) := by decide +kernel
theorem dX6_chanceUpon_43 : decode cX6_chanceUpon 43 = .ok (.iconst 2, 1) := by decide +kernel
theorem dX6_chanceUpon_44 : decode cX6_chanceUpon 44 = .ok (.irem, 1) := by decide +kernel
theorem dX6_chanceUpon_45 : decode cX6_chanceUpon 45 = .ok (.ifCond .ne 7, 3) := by decide +kernel
theorem dX6_chanceUpon_48 : decode cX6_chanceUpon 48 = .ok (.iconst 0, 1) := by decide +kernel
theorem dX6_chanceUpon_49 : decode cX6_chanceUpon 49 = .ok (.goto 5, 3) := by decide +kernel
theorem dX6_chanceUpon_52 : decode cX6_chanceUpon 52 = .ok (.bipush 9, 2) := by decide +kernel
theorem dX6_chanceUpon_54 : decode cX6_chanceUpon 54 = .ok (.invokevirtual 255, 3) := by decide +kernel
theorem dX6_chanceUpon_57 : decode cX6_chanceUpon 57 = .ok (.pop, 1) := by decide +kernel
theorem dX6_chanceUpon_58 : decode cX6_chanceUpon 58 = .ok (.goto 54, 3) := by decide +kernel
theorem dX6_chanceUpon_61 : decode cX6_chanceUpon 61 = .ok (.iload_n 1, 1) := by decide +kernel
theorem dX6_chanceUpon_62 : decode cX6_chanceUpon 62 = .ok (.bipush 25, 2) := by decide +kernel
theorem dX6_chanceUpon_64 : decode cX6_chanceUpon 64 = .ok (.if_icmp .ge 18, 3) := by decide +kernel
theorem dX6_chanceUpon_67 : decode cX6_chanceUpon 67 = .ok (.aload_n 0, 1) := by decide +kernel
theorem dX6_chanceUpon_68 : decode cX6_chanceUpon 68 = .ok (.getfield 44, 3) := by decide +kernel
theorem dX6_chanceUpon_71 : decode cX6_chanceUpon 71 = .ok (.iload_n 1, 1) := by decide +kernel
theorem dX6_chanceUpon_72 : decode cX6_chanceUpon 72 = .ok (.bipush 20, 2) := by decide +kernel
theorem dX6_chanceUpon_74 : decode cX6_chanceUpon 74 = .ok (.isub, 1) := by decide +kernel
theorem dX6_chanceUpon_75 : decode cX6_chanceUpon 75 = .ok (.invokevirtual 258, 3) := by decide +kernel
theorem dX6_chanceUpon_78 : decode cX6_chanceUpon 78 = .ok (.pop, 1) := by decide +kernel
theorem dX6_chanceUpon_79 : decode cX6_chanceUpon 79 = .ok (.goto 33, 3) := by decide +kernel
theorem dX6_chanceUpon_82 : decode cX6_chanceUpon 82 = .ok (.iload_n 1, 1) := by decide +kernel
theorem dX6_chanceUpon_83 : decode cX6_chanceUpon 83 = .ok (.bipush 30, 2) := by decide +kernel
theorem dX6_chanceUpon_85 : decode cX6_chanceUpon 85 = .ok (.if_icmp .ge 18, 3) := by decide +kernel
theorem dX6_chanceUpon_88 : decode cX6_chanceUpon 88 = .ok (.aload_n 0, 1) := by decide +kernel
theorem dX6_chanceUpon_89 : decode cX6_chanceUpon 89 = .ok (.getfield 44, 3) := by decide +kernel
theorem dX6_chanceUpon_92 : decode cX6_chanceUpon 92 = .ok (.iload_n 1, 1) := by decide +kernel
theorem dX6_chanceUpon_93 : decode cX6_chanceUpon 93 = .ok (.bipush 25, 2) := by decide +kernel
theorem dX6_chanceUpon_95 : decode cX6_chanceUpon 95 = .ok (.isub, 1) := by decide +kernel
theorem dX6_chanceUpon_96 : decode cX6_chanceUpon 96 = .ok (.invokevirtual 264, 3) := by decide +kernel
theorem dX6_chanceUpon_99 : decode cX6_chanceUpon 99 = .ok (.pop, 1) := by decide +kernel
theorem dX6_chanceUpon_100 : decode cX6_chanceUpon 100 = .ok (.goto 12, 3) := by decide +kernel
theorem dX6_chanceUpon_103 : decode cX6_chanceUpon 103 = .ok (.aload_n 0, 1) := by decide +kernel
theorem dX6_chanceUpon_104 : decode cX6_chanceUpon 104 = .ok (.getfield 44, 3) := by decide +kernel
theorem dX6_chanceUpon_107 : decode cX6_chanceUpon 107 = .ok (.iconst 1, 1) := by decide +kernel
theorem dX6_chanceUpon_108 : decode cX6_chanceUpon 108 = .ok (.invokevirtual 151, 3) := by decide +kernel
theorem dX6_chanceUpon_111 : decode cX6_chanceUpon 111 = .ok (.pop, 1) := by decide +kernel
theorem dX6_chanceUpon_112 : decode cX6_chanceUpon 112 = .ok (.return_, 1) := by decide +kernel
set_option maxRecDepth 20000 in
theorem ggX6_isBest_X6_gain : GoodIn wsX6_isBest wsX6_gain := goodIn_r _ [5, 6, 7, 8, 9, 10, 11, 12, 13, 14, 15, 16, 17, 18, 19, 20, 21, 22, 23, 24, 25, 26, 27, 28, 29, 30, 31, 32, 33, 34, 35, 36, 4, 37, 38, 39, 40, 41, 42, 43, 44, 45, 46, 47, 48, 49, 50, 51, 52, 53, 54, 55, 56, 57, 58, 59, 60, 61, 62, 63, 64, 65, 66, 67, 68, 69, 70, 71, 72, 73, 74, 75, 76, 77, 78, 79, 80, 81, 82, 83, 84, 85, 86, 87, 88, 89, 90, 91, 92, 93, 94, 95, 96, 97, 98, 99, 100, 101, 102, 103, 104, 105, 106, 107, 108, 109, 110, 111, 112, 113, 114, 115, 116, 117, 118, 119, 120, 121, 122, 123, 124, 125, 126, 127, 128, 129, 130, 131, 132, 133, 134, 135, 136, 137, 138, 139, 140, 141, 142, 143] (by decide +kernel) (by decide +kernel)
set_option maxRecDepth 20000 in
theorem gX6_isBest_X6_gain : GoodIn wsX6_isBest (wsV RX6 267 RX6 yX6_gain wsX6_gain) := goodIn_app (goodIn_of _ (by decide +kernel)) ggX6_isBest_X6_gain
theorem dX6_isBest_0 : decode cX6_isBest 0 = .ok (.aload_n 0, 1) := by decide +kernel
theorem dX6_isBest_1 : decode cX6_isBest 1 = .ok (.iload_n 1, 1) := by decide +kernel
theorem dX6_isBest_2 : decode cX6_isBest 2 = .ok (.iload_n 2, 1) := by decide +kernel
theorem dX6_isBest_3 : decode cX6_isBest 3 = .ok (.iload_n 3, 1) := by decide +kernel
theorem dX6_isBest_4 : decode cX6_isBest 4 = .ok (.iload 4, 2) := by decide +kernel
theorem dX6_isBest_6 : decode cX6_isBest 6 = .ok (.invokevirtual 267, 3) := by decide +kernel
theorem dX6_isBest_9 : decode cX6_isBest 9 = .ok (.aload_n 0, 1) := by decide +kernel
theorem dX6_isBest_10 : decode cX6_isBest 10 = .ok (.iload_n 1, 1) := by decide +kernel
theorem dX6_isBest_11 : decode cX6_isBest 11 = .ok (.iconst 1, 1) := by decide +kernel
theorem dX6_isBest_12 : decode cX6_isBest 12 = .ok (.iload_n 2, 1) := by decide +kernel
theorem dX6_isBest_13 : decode cX6_isBest 13 = .ok (.isub, 1) := by decide +kernel
theorem dX6_isBest_14 : decode cX6_isBest 14 = .ok (.iload_n 3, 1) := by decide +kernel
theorem dX6_isBest_15 : decode cX6_isBest 15 = .ok (.iload 4, 2) := by decide +kernel
theorem dX6_isBest_17 : decode cX6_isBest 17 = .ok (.invokevirtual 267, 3) := by decide +kernel
theorem dX6_isBest_20 : decode cX6_isBest 20 = .ok (.if_icmp .lt 7, 3) := by decide +kernel
theorem dX6_isBest_23 : decode cX6_isBest 23 = .ok (.iconst 1, 1) := by decide +kernel
theorem dX6_isBest_24 : decode cX6_isBest 24 = .ok (.goto 4, 3) := by decide +kernel
theorem dX6_isBest_27 : decode cX6_isBest 27 = .ok (.iconst 0, 1) := by decide +kernel
theorem dX6_isBest_28 : decode cX6_isBest 28 = .ok (.ireturn, 1) := by decide +kernel
set_option maxRecDepth 20000 in
theorem ggX6_gain_X4_copyFrom : GoodIn wsX6_gain wsX4_copyFrom := goodIn_r _ [9, 10, 11, 12, 13, 14, 123, 124, 125, 126, 127, 128] (by decide +kernel) (by decide +kernel)
set_option maxRecDepth 20000 in
theorem gX6_gain_X4_copyFrom : GoodIn wsX6_gain (wsV RX6 189 RX4 yX4_copyFrom wsX4_copyFrom) := goodIn_app (goodIn_of _ (by decide +kernel)) ggX6_gain_X4_copyFrom
set_option maxRecDepth 20000 in
theorem ggX6_gain_X4_chooseWool : GoodIn wsX6_gain wsX4_chooseWool := goodIn_r _ [18, 19, 11, 20, 21, 22, 23, 24, 25, 26, 27, 28, 29, 30, 31, 32, 33, 34, 35, 123, 124, 125, 126, 127, 128, 129, 130, 131, 132, 133, 134, 135, 136, 137, 138, 139] (by decide +kernel) (by decide +kernel)
set_option maxRecDepth 20000 in
theorem gX6_gain_X4_chooseWool : GoodIn wsX6_gain (wsV RX6 270 RX4 yX4_chooseWool wsX4_chooseWool) := goodIn_app (goodIn_of _ (by decide +kernel)) ggX6_gain_X4_chooseWool
set_option maxRecDepth 20000 in
theorem ggX6_gain_X4_passDay : GoodIn wsX6_gain wsX4_passDay := goodIn_r _ [39, 13, 19, 12, 40, 41, 42, 43, 14, 44, 45, 46, 8, 47, 48, 49, 50, 51, 52, 23, 53, 54, 55, 56, 57, 58, 59, 60, 61, 34, 32, 35, 62, 63, 64, 65, 66, 11, 67, 68, 69, 70, 71, 10, 72, 73, 74, 75, 76, 77, 78, 79, 80, 81, 82, 83, 84, 85, 86, 87, 88, 89, 90, 91, 92, 93, 94, 95, 96, 97, 98, 99, 100, 101, 102, 103, 104, 123, 124, 125, 126, 127, 128, 129, 130, 131, 132, 133, 134, 135, 136, 137, 138, 139] (by decide +kernel) (by decide +kernel)
set_option maxRecDepth 20000 in
theorem gX6_gain_X4_passDay : GoodIn wsX6_gain (wsV RX6 151 RX4 yX4_passDay wsX4_passDay) := goodIn_app (goodIn_of _ (by decide +kernel)) ggX6_gain_X4_passDay
set_option maxRecDepth 20000 in
theorem ggX6_gain_X1_oathsOf : GoodIn wsX6_gain wsX1_oathsOf := goodIn_r _ [108, 103, 109, 110, 34, 32, 35, 129, 130, 131, 132, 133, 134, 135, 136, 137, 138, 139] (by decide +kernel) (by decide +kernel)
set_option maxRecDepth 20000 in
theorem gX6_gain_X1_oathsOf : GoodIn wsX6_gain (wsV RX6 122 RX1 yX1_oathsOf wsX1_oathsOf) := goodIn_app (goodIn_of _ (by decide +kernel)) ggX6_gain_X1_oathsOf
set_option maxRecDepth 20000 in
theorem ggX6_gain_X1_worthOf : GoodIn wsX6_gain wsX1_worthOf := goodIn_r _ [102, 103, 104, 72, 32, 73, 34, 35, 129, 130, 131, 132, 133, 134, 135, 136, 137, 138, 139] (by decide +kernel) (by decide +kernel)
set_option maxRecDepth 20000 in
theorem gX6_gain_X1_worthOf : GoodIn wsX6_gain (wsV RX6 218 RX1 yX1_worthOf wsX1_worthOf) := goodIn_app (goodIn_of _ (by decide +kernel)) ggX6_gain_X1_worthOf
theorem dX6_gain_0 : decode cX6_gain 0 = .ok (.aload_n 0, 1) := by decide +kernel
theorem dX6_gain_1 : decode cX6_gain 1 = .ok (.getfield 44, 3) := by decide +kernel
theorem dX6_gain_4 : decode cX6_gain 4 = .ok (.aload_n 0, 1) := by decide +kernel
theorem dX6_gain_5 : decode cX6_gain 5 = .ok (.getfield 40, 3) := by decide +kernel
theorem dX6_gain_8 : decode cX6_gain 8 = .ok (.invokevirtual 189, 3) := by decide +kernel
theorem dX6_gain_11 : decode cX6_gain 11 = .ok (.aload_n 0, 1) := by decide +kernel
theorem dX6_gain_12 : decode cX6_gain 12 = .ok (.getfield 44, 3) := by decide +kernel
theorem dX6_gain_15 : decode cX6_gain 15 = .ok (.iload_n 1, 1) := by decide +kernel
theorem dX6_gain_16 : decode cX6_gain 16 = .ok (.iload_n 2, 1) := by decide +kernel
theorem dX6_gain_17 : decode cX6_gain 17 = .ok (.invokevirtual 270, 3) := by decide +kernel
theorem dX6_gain_20 : decode cX6_gain 20 = .ok (.aload_n 0, 1) := by decide +kernel
theorem dX6_gain_21 : decode cX6_gain 21 = .ok (.getfield 44, 3) := by decide +kernel
theorem dX6_gain_24 : decode cX6_gain 24 = .ok (.iload_n 3, 1) := by decide +kernel
theorem dX6_gain_25 : decode cX6_gain 25 = .ok (.iload 4, 2) := by decide +kernel
theorem dX6_gain_27 : decode cX6_gain 27 = .ok (.invokevirtual 270, 3) := by decide +kernel
theorem dX6_gain_30 : decode cX6_gain 30 = .ok (.aload_n 0, 1) := by decide +kernel
theorem dX6_gain_31 : decode cX6_gain 31 = .ok (.getfield 44, 3) := by decide +kernel
theorem dX6_gain_34 : decode cX6_gain 34 = .ok (.iconst 1, 1) := by decide +kernel
theorem dX6_gain_35 : decode cX6_gain 35 = .ok (.invokevirtual 151, 3) := by decide +kernel
theorem dX6_gain_38 : decode cX6_gain 38 = .ok (.pop, 1) := by decide +kernel
theorem dX6_gain_39 : decode cX6_gain 39 = .ok (.aload_n 0, 1) := by decide +kernel
theorem dX6_gain_40 : decode cX6_gain 40 = .ok (.getfield 32, 3) := by decide +kernel
theorem dX6_gain_43 : decode cX6_gain 43 = .ok (.aload_n 0, 1) := by decide +kernel
theorem dX6_gain_44 : decode cX6_gain 44 = .ok (.getfield 32, 3) := by decide +kernel
theorem dX6_gain_47 : decode cX6_gain 47 = .ok (.iload_n 1, 1) := by decide +kernel
theorem dX6_gain_48 : decode cX6_gain 48 = .ok (.invokevirtual 122, 3) := by decide +kernel
theorem dX6_gain_51 : decode cX6_gain 51 = .ok (.aload_n 0, 1) := by decide +kernel
theorem dX6_gain_52 : decode cX6_gain 52 = .ok (.getfield 44, 3) := by decide +kernel
theorem dX6_gain_55 : decode cX6_gain 55 = .ok (.getfield 125, 3) := by decide +kernel
theorem dX6_gain_58 : decode cX6_gain 58 = .ok (.iand, 1) := by decide +kernel
theorem dX6_gain_59 : decode cX6_gain 59 = .ok (.invokevirtual 218, 3) := by decide +kernel
theorem dX6_gain_62 : decode cX6_gain 62 = .ok (.iload_n 2, 1) := by decide +kernel
theorem dX6_gain_63 : decode cX6_gain 63 = .ok (.isub, 1) := by decide +kernel
theorem dX6_gain_64 : decode cX6_gain 64 = .ok (.ireturn, 1) := by decide +kernel
set_option maxRecDepth 20000 in
theorem ggX6_weightIfSworn_X4_copyFrom : GoodIn wsX6_weightIfSworn wsX4_copyFrom := goodIn_r _ [7, 8, 9, 10, 11, 12, 109, 110, 111, 112, 113, 114] (by decide +kernel) (by decide +kernel)
set_option maxRecDepth 20000 in
theorem gX6_weightIfSworn_X4_copyFrom : GoodIn wsX6_weightIfSworn (wsV RX6 189 RX4 yX4_copyFrom wsX4_copyFrom) := goodIn_app (goodIn_of _ (by decide +kernel)) ggX6_weightIfSworn_X4_copyFrom
set_option maxRecDepth 20000 in
theorem ggX6_weightIfSworn_X6_bit : GoodIn wsX6_weightIfSworn wsX6_bit := goodIn_r _ [16] (by decide +kernel) (by decide +kernel)
set_option maxRecDepth 20000 in
theorem gX6_weightIfSworn_X6_bit : GoodIn wsX6_weightIfSworn (va_wsS RX6 118 yX6_bit wsX6_bit) := goodIn_app (goodIn_of _ (by decide +kernel)) ggX6_weightIfSworn_X6_bit
set_option maxRecDepth 20000 in
theorem ggX6_weightIfSworn_X4_passDay : GoodIn wsX6_weightIfSworn wsX4_passDay := goodIn_r _ [20, 11, 21, 10, 22, 23, 24, 25, 12, 26, 27, 28, 6, 29, 30, 31, 32, 33, 34, 35, 36, 37, 38, 39, 40, 41, 42, 43, 44, 45, 15, 46, 47, 48, 49, 50, 51, 9, 52, 53, 54, 55, 56, 8, 14, 16, 57, 58, 59, 60, 61, 62, 63, 64, 65, 66, 67, 68, 69, 70, 71, 72, 73, 74, 75, 76, 77, 78, 79, 80, 81, 82, 83, 84, 85, 86, 87, 109, 110, 111, 112, 113, 114, 115, 116, 117, 118, 119, 120, 121, 122, 123, 124, 125] (by decide +kernel) (by decide +kernel)
set_option maxRecDepth 20000 in
theorem gX6_weightIfSworn_X4_passDay : GoodIn wsX6_weightIfSworn (wsV RX6 151 RX4 yX4_passDay wsX4_passDay) := goodIn_app (goodIn_of _ (by decide +kernel)) ggX6_weightIfSworn_X4_passDay
set_option maxRecDepth 20000 in
theorem ggX6_weightIfSworn_X4_isSworn : GoodIn wsX6_weightIfSworn wsX4_isSworn := goodIn_r _ [91, 21, 10, 92, 93, 94, 35, 95, 86, 96, 15, 97, 14, 16, 109, 110, 111, 112, 113, 114, 115, 116, 117, 118, 119, 120, 121, 122, 123, 124, 125] (by decide +kernel) (by decide +kernel)
set_option maxRecDepth 20000 in
theorem gX6_weightIfSworn_X4_isSworn : GoodIn wsX6_weightIfSworn (wsV RX6 172 RX4 yX4_isSworn wsX4_isSworn) := goodIn_app (goodIn_of _ (by decide +kernel)) ggX6_weightIfSworn_X4_isSworn
theorem dX6_weightIfSworn_0 : decode cX6_weightIfSworn 0 = .ok (.iconst 1, 1) := by decide +kernel
theorem dX6_weightIfSworn_1 : decode cX6_weightIfSworn 1 = .ok (.istore 5, 2) := by decide +kernel
theorem dX6_weightIfSworn_3 : decode cX6_weightIfSworn 3 = .ok (.aload_n 0, 1) := by decide +kernel
theorem dX6_weightIfSworn_4 : decode cX6_weightIfSworn 4 = .ok (.getfield 44, 3) := by decide +kernel
theorem dX6_weightIfSworn_7 : decode cX6_weightIfSworn 7 = .ok (.aload_n 0, 1) := by decide +kernel
theorem dX6_weightIfSworn_8 : decode cX6_weightIfSworn 8 = .ok (.getfield 40, 3) := by decide +kernel
theorem dX6_weightIfSworn_11 : decode cX6_weightIfSworn 11 = .ok (.invokevirtual 189, 3) := by decide +kernel
theorem dX6_weightIfSworn_14 : decode cX6_weightIfSworn 14 = .ok (.iconst 0, 1) := by decide +kernel
theorem dX6_weightIfSworn_15 : decode cX6_weightIfSworn 15 = .ok (.istore 6, 2) := by decide +kernel
theorem dX6_weightIfSworn_17 : decode cX6_weightIfSworn 17 = .ok (.iload 6, 2) := by decide +kernel
theorem dX6_weightIfSworn_19 : decode cX6_weightIfSworn 19 = .ok (.iload_n 2, 1) := by decide +kernel
theorem dX6_weightIfSworn_20 : decode cX6_weightIfSworn 20 = .ok (.if_icmp .ge 55, 3) := by decide +kernel
theorem dX6_weightIfSworn_23 : decode cX6_weightIfSworn 23 = .ok (.iload 4, 2) := by decide +kernel
theorem dX6_weightIfSworn_25 : decode cX6_weightIfSworn 25 = .ok (.iload 6, 2) := by decide +kernel
theorem dX6_weightIfSworn_27 : decode cX6_weightIfSworn 27 = .ok (.invokestatic 118, 3) := by decide +kernel
theorem dX6_weightIfSworn_30 : decode cX6_weightIfSworn 30 = .ok (.iconst 1, 1) := by decide +kernel
theorem dX6_weightIfSworn_31 : decode cX6_weightIfSworn 31 = .ok (.if_icmp .ne 7, 3) := by decide +kernel
theorem dX6_weightIfSworn_34 : decode cX6_weightIfSworn 34 = .ok (.iconst 1, 1) := by decide +kernel
theorem dX6_weightIfSworn_35 : decode cX6_weightIfSworn 35 = .ok (.goto 4, 3) := by decide +kernel
theorem dX6_weightIfSworn_38 : decode cX6_weightIfSworn 38 = .ok (.iconst 0, 1) := by decide +kernel
theorem dX6_weightIfSworn_39 : decode cX6_weightIfSworn 39 = .ok (.istore 7, 2) := by decide +kernel
theorem dX6_weightIfSworn_41 : decode cX6_weightIfSworn 41 = .ok (.iload 5, 2) := by decide +kernel
theorem dX6_weightIfSworn_43 : decode cX6_weightIfSworn 43 = .ok (.iload 7, 2) := by decide +kernel
theorem dX6_weightIfSworn_45 : decode cX6_weightIfSworn 45 = .ok (.ifCond .eq 10, 3) := by decide +kernel
theorem dX6_weightIfSworn_48 : decode cX6_weightIfSworn 48 = .ok (.bipush 10, 2) := by decide +kernel
theorem dX6_weightIfSworn_50 : decode cX6_weightIfSworn 50 = .ok (.iload_n 3, 1) := by decide +kernel
theorem dX6_weightIfSworn_51 : decode cX6_weightIfSworn 51 = .ok (.isub, 1) := by decide +kernel
theorem dX6_weightIfSworn_52 : decode cX6_weightIfSworn 52 = .ok (.goto 4, 3) := by decide +kernel
theorem dX6_weightIfSworn_55 : decode cX6_weightIfSworn 55 = .ok (.iload_n 3, 1) := by decide +kernel
theorem dX6_weightIfSworn_56 : decode cX6_weightIfSworn 56 = .ok (.imul, 1) := by decide +kernel
theorem dX6_weightIfSworn_57 : decode cX6_weightIfSworn 57 = .ok (.istore 5, 2) := by decide +kernel
theorem dX6_weightIfSworn_59 : decode cX6_weightIfSworn 59 = .ok (.aload_n 0, 1) := by decide +kernel
theorem dX6_weightIfSworn_60 : decode cX6_weightIfSworn 60 = .ok (.getfield 44, 3) := by decide +kernel
theorem dX6_weightIfSworn_63 : decode cX6_weightIfSworn 63 = .ok (.iload 7, 2) := by decide +kernel
theorem dX6_weightIfSworn_65 : decode cX6_weightIfSworn 65 = .ok (.invokevirtual 151, 3) := by decide +kernel
theorem dX6_weightIfSworn_68 : decode cX6_weightIfSworn 68 = .ok (.pop, 1) := by decide +kernel
theorem dX6_weightIfSworn_69 : decode cX6_weightIfSworn 69 = .ok (.iinc 6 1, 3) := by decide +kernel
theorem dX6_weightIfSworn_72 : decode cX6_weightIfSworn 72 = .ok (.goto (-55), 3) := by decide +kernel
theorem dX6_weightIfSworn_75 : decode cX6_weightIfSworn 75 = .ok (.aload_n 0, 1) := by decide +kernel
theorem dX6_weightIfSworn_76 : decode cX6_weightIfSworn 76 = .ok (.getfield 44, 3) := by decide +kernel
theorem dX6_weightIfSworn_79 : decode cX6_weightIfSworn 79 = .ok (.iload_n 1, 1) := by decide +kernel
theorem dX6_weightIfSworn_80 : decode cX6_weightIfSworn 80 = .ok (.invokevirtual 172, 3) := by decide +kernel
theorem dX6_weightIfSworn_83 : decode cX6_weightIfSworn 83 = .ok (.ifCond .eq 8, 3) := by decide +kernel
theorem dX6_weightIfSworn_86 : decode cX6_weightIfSworn 86 = .ok (.iload 5, 2) := by decide +kernel
theorem dX6_weightIfSworn_88 : decode cX6_weightIfSworn 88 = .ok (.goto 4, 3) := by decide +kernel
theorem dX6_weightIfSworn_91 : decode cX6_weightIfSworn 91 = .ok (.iconst 0, 1) := by decide +kernel
theorem dX6_weightIfSworn_92 : decode cX6_weightIfSworn 92 = .ok (.ireturn, 1) := by decide +kernel
theorem dX6_within_0 : decode cX6_within 0 = .ok (.iload_n 0, 1) := by decide +kernel
theorem dX6_within_1 : decode cX6_within 1 = .ok (.iload_n 1, 1) := by decide +kernel
theorem dX6_within_2 : decode cX6_within 2 = .ok (.if_icmp .lt 12, 3) := by decide +kernel
theorem dX6_within_5 : decode cX6_within 5 = .ok (.iload_n 0, 1) := by decide +kernel
theorem dX6_within_6 : decode cX6_within 6 = .ok (.iload_n 2, 1) := by decide +kernel
theorem dX6_within_7 : decode cX6_within 7 = .ok (.if_icmp .gt 7, 3) := by decide +kernel
theorem dX6_within_10 : decode cX6_within 10 = .ok (.iconst 1, 1) := by decide +kernel
theorem dX6_within_11 : decode cX6_within 11 = .ok (.goto 4, 3) := by decide +kernel
theorem dX6_within_14 : decode cX6_within 14 = .ok (.iconst 0, 1) := by decide +kernel
theorem dX6_within_15 : decode cX6_within 15 = .ok (.ireturn, 1) := by decide +kernel
set_option maxRecDepth 20000 in
theorem ggX6_isPlace_X6_within : GoodIn wsX6_isPlace wsX6_within := goodIn_r _ [4] (by decide +kernel) (by decide +kernel)
set_option maxRecDepth 20000 in
theorem gX6_isPlace_X6_within : GoodIn wsX6_isPlace (va_wsS RX6 73 yX6_within wsX6_within) := goodIn_app (goodIn_of _ (by decide +kernel)) ggX6_isPlace_X6_within
theorem dX6_isPlace_0 : decode cX6_isPlace 0 = .ok (.iload_n 0, 1) := by decide +kernel
theorem dX6_isPlace_1 : decode cX6_isPlace 1 = .ok (.iconst 0, 1) := by decide +kernel
theorem dX6_isPlace_2 : decode cX6_isPlace 2 = .ok (.bipush 9, 2) := by decide +kernel
theorem dX6_isPlace_4 : decode cX6_isPlace 4 = .ok (.invokestatic 73, 3) := by decide +kernel
theorem dX6_isPlace_7 : decode cX6_isPlace 7 = .ok (.ireturn, 1) := by decide +kernel
theorem dX6_bit_0 : decode cX6_bit 0 = .ok (.iload_n 0, 1) := by decide +kernel
theorem dX6_bit_1 : decode cX6_bit 1 = .ok (.iload_n 1, 1) := by decide +kernel
theorem dX6_bit_2 : decode cX6_bit 2 = .ok (.ishr, 1) := by decide +kernel
theorem dX6_bit_3 : decode cX6_bit 3 = .ok (.iconst 1, 1) := by decide +kernel
theorem dX6_bit_4 : decode cX6_bit 4 = .ok (.iand, 1) := by decide +kernel
theorem dX6_bit_5 : decode cX6_bit 5 = .ok (.ireturn, 1) := by decide +kernel
theorem dX6_at_0 : decode cX6_at 0 = .ok (.iload_n 1, 1) := by decide +kernel
theorem dX6_at_1 : decode cX6_at 1 = .ok (.ifCond .lt 15, 3) := by decide +kernel
theorem dX6_at_4 : decode cX6_at 4 = .ok (.iload_n 1, 1) := by decide +kernel
theorem dX6_at_5 : decode cX6_at 5 = .ok (.aload_n 0, 1) := by decide +kernel
theorem dX6_at_6 : decode cX6_at 6 = .ok (.arraylength, 1) := by decide +kernel
theorem dX6_at_7 : decode cX6_at 7 = .ok (.if_icmp .ge 9, 3) := by decide +kernel
theorem dX6_at_10 : decode cX6_at 10 = .ok (.aload_n 0, 1) := by decide +kernel
theorem dX6_at_11 : decode cX6_at 11 = .ok (.iload_n 1, 1) := by decide +kernel
theorem dX6_at_12 : decode cX6_at 12 = .ok (.iaload, 1) := by decide +kernel
theorem dX6_at_13 : decode cX6_at 13 = .ok (.goto 4, 3) := by decide +kernel
theorem dX6_at_16 : decode cX6_at 16 = .ok (.iconst 0, 1) := by decide +kernel
theorem dX6_at_17 : decode cX6_at 17 = .ok (.ireturn, 1) := by decide +kernel
theorem dX6_put_0 : decode cX6_put 0 = .ok (.iload_n 1, 1) := by decide +kernel
theorem dX6_put_1 : decode cX6_put 1 = .ok (.ifCond .lt 13, 3) := by decide +kernel
theorem dX6_put_4 : decode cX6_put 4 = .ok (.iload_n 1, 1) := by decide +kernel
theorem dX6_put_5 : decode cX6_put 5 = .ok (.aload_n 0, 1) := by decide +kernel
theorem dX6_put_6 : decode cX6_put 6 = .ok (.arraylength, 1) := by decide +kernel
theorem dX6_put_7 : decode cX6_put 7 = .ok (.if_icmp .ge 7, 3) := by decide +kernel
theorem dX6_put_10 : decode cX6_put 10 = .ok (.aload_n 0, 1) := by decide +kernel
theorem dX6_put_11 : decode cX6_put 11 = .ok (.iload_n 1, 1) := by decide +kernel
theorem dX6_put_12 : decode cX6_put 12 = .ok (.iload_n 2, 1) := by decide +kernel
theorem dX6_put_13 : decode cX6_put 13 = .ok (.iastore, 1) := by decide +kernel
theorem dX6_put_14 : decode cX6_put 14 = .ok (.return_, 1) := by decide +kernel
theorem dX6_reaches_0 : decode cX6_reaches 0 = .ok (.iload_n 3, 1) := by decide +kernel
theorem dX6_reaches_1 : decode cX6_reaches 1 = .ok (.ifCond .eq 9, 3) := by decide +kernel
theorem dX6_reaches_4 : decode cX6_reaches 4 = .ok (.iload_n 1, 1) := by decide +kernel
theorem dX6_reaches_5 : decode cX6_reaches 5 = .ok (.iconst 2, 1) := by decide +kernel
theorem dX6_reaches_6 : decode cX6_reaches 6 = .ok (.idiv, 1) := by decide +kernel
theorem dX6_reaches_7 : decode cX6_reaches 7 = .ok (.goto 4, 3) := by decide +kernel
theorem dX6_reaches_10 : decode cX6_reaches 10 = .ok (.iload_n 1, 1) := by decide +kernel
theorem dX6_reaches_11 : decode cX6_reaches 11 = .ok (.istore 4, 2) := by decide +kernel
theorem dX6_reaches_13 : decode cX6_reaches 13 = .ok (.iload_n 0, 1) := by decide +kernel
theorem dX6_reaches_14 : decode cX6_reaches 14 = .ok (.iload_n 2, 1) := by decide +kernel
theorem dX6_reaches_15 : decode cX6_reaches 15 = .ok (.isub, 1) := by decide +kernel
theorem dX6_reaches_16 : decode cX6_reaches 16 = .ok (.iload 4, 2) := by decide +kernel
theorem dX6_reaches_18 : decode cX6_reaches 18 = .ok (.if_icmp .gt 15, 3) := by decide +kernel
theorem dX6_reaches_21 : decode cX6_reaches 21 = .ok (.iload_n 2, 1) := by decide +kernel
theorem dX6_reaches_22 : decode cX6_reaches 22 = .ok (.iload_n 0, 1) := by decide +kernel
theorem dX6_reaches_23 : decode cX6_reaches 23 = .ok (.isub, 1) := by decide +kernel
theorem dX6_reaches_24 : decode cX6_reaches 24 = .ok (.iload 4, 2) := by decide +kernel
theorem dX6_reaches_26 : decode cX6_reaches 26 = .ok (.if_icmp .gt 7, 3) := by decide +kernel
theorem dX6_reaches_29 : decode cX6_reaches 29 = .ok (.iconst 1, 1) := by decide +kernel
theorem dX6_reaches_30 : decode cX6_reaches 30 = .ok (.goto 4, 3) := by decide +kernel
theorem dX6_reaches_33 : decode cX6_reaches 33 = .ok (.iconst 0, 1) := by decide +kernel
theorem dX6_reaches_34 : decode cX6_reaches 34 = .ok (.ireturn, 1) := by decide +kernel
theorem dX6_thousands_0 : decode cX6_thousands 0 = .ok (.lconst 1, 1) := by decide +kernel
theorem dX6_thousands_1 : decode cX6_thousands 1 = .ok (.lstore_n 1, 1) := by decide +kernel
theorem dX6_thousands_2 : decode cX6_thousands 2 = .ok (.iconst 0, 1) := by decide +kernel
theorem dX6_thousands_3 : decode cX6_thousands 3 = .ok (.istore_n 3, 1) := by decide +kernel
theorem dX6_thousands_4 : decode cX6_thousands 4 = .ok (.iload_n 3, 1) := by decide +kernel
theorem dX6_thousands_5 : decode cX6_thousands 5 = .ok (.iload_n 0, 1) := by decide +kernel
theorem dX6_thousands_6 : decode cX6_thousands 6 = .ok (.if_icmp .ge 15, 3) := by decide +kernel
theorem dX6_thousands_9 : decode cX6_thousands 9 = .ok (.lload_n 1, 1) := by decide +kernel
theorem dX6_thousands_10 : decode cX6_thousands 10 = .ok (.ldc2_w 273, 3) := by decide +kernel
theorem dX6_thousands_13 : decode cX6_thousands 13 = .ok (.lmul, 1) := by decide +kernel
theorem dX6_thousands_14 : decode cX6_thousands 14 = .ok (.lstore_n 1, 1) := by decide +kernel
theorem dX6_thousands_15 : decode cX6_thousands 15 = .ok (.iinc 3 1, 3) := by decide +kernel
theorem dX6_thousands_18 : decode cX6_thousands 18 = .ok (.goto (-14), 3) := by decide +kernel
theorem dX6_thousands_21 : decode cX6_thousands 21 = .ok (.lload_n 1, 1) := by decide +kernel
theorem dX6_thousands_22 : decode cX6_thousands 22 = .ok (.lreturn, 1) := by decide +kernel
theorem dX6_figuresAt_0 : decode cX6_figuresAt 0 = .ok (.lload_n 0, 1) := by decide +kernel
theorem dX6_figuresAt_1 : decode cX6_figuresAt 1 = .ok (.lstore_n 3, 1) := by decide +kernel
theorem dX6_figuresAt_2 : decode cX6_figuresAt 2 = .ok (.iconst 0, 1) := by decide +kernel
theorem dX6_figuresAt_3 : decode cX6_figuresAt 3 = .ok (.istore 5, 2) := by decide +kernel
theorem dX6_figuresAt_5 : decode cX6_figuresAt 5 = .ok (.iload 5, 2) := by decide +kernel
theorem dX6_figuresAt_7 : decode cX6_figuresAt 7 = .ok (.iload_n 2, 1) := by decide +kernel
theorem dX6_figuresAt_8 : decode cX6_figuresAt 8 = .ok (.if_icmp .ge 15, 3) := by decide +kernel
theorem dX6_figuresAt_11 : decode cX6_figuresAt 11 = .ok (.lload_n 3, 1) := by decide +kernel
theorem dX6_figuresAt_12 : decode cX6_figuresAt 12 = .ok (.ldc2_w 273, 3) := by decide +kernel
theorem dX6_figuresAt_15 : decode cX6_figuresAt 15 = .ok (.ldiv, 1) := by decide +kernel
theorem dX6_figuresAt_16 : decode cX6_figuresAt 16 = .ok (.lstore_n 3, 1) := by decide +kernel
theorem dX6_figuresAt_17 : decode cX6_figuresAt 17 = .ok (.iinc 5 1, 3) := by decide +kernel
theorem dX6_figuresAt_20 : decode cX6_figuresAt 20 = .ok (.goto (-15), 3) := by decide +kernel
theorem dX6_figuresAt_23 : decode cX6_figuresAt 23 = .ok (.lload_n 3, 1) := by decide +kernel
theorem dX6_figuresAt_24 : decode cX6_figuresAt 24 = .ok (.ldc2_w 273, 3) := by decide +kernel
theorem dX6_figuresAt_27 : decode cX6_figuresAt 27 = .ok (.lrem, 1) := by decide +kernel
theorem dX6_figuresAt_28 : decode cX6_figuresAt 28 = .ok (.l2i, 1) := by decide +kernel
theorem dX6_figuresAt_29 : decode cX6_figuresAt 29 = .ok (.ireturn, 1) := by decide +kernel
set_option maxRecDepth 20000 in
theorem ggX6_fraction_X6_commonDivisor : GoodIn wsX6_fraction wsX6_commonDivisor := goodIn_r _ [8] (by decide +kernel) (by decide +kernel)
set_option maxRecDepth 20000 in
theorem gX6_fraction_X6_commonDivisor : GoodIn wsX6_fraction (va_wsS RX6 275 yX6_commonDivisor wsX6_commonDivisor) := goodIn_app (goodIn_of _ (by decide +kernel)) ggX6_fraction_X6_commonDivisor
theorem dX6_fraction_0 : decode cX6_fraction 0 = .ok (.iload_n 0, 1) := by decide +kernel
theorem dX6_fraction_1 : decode cX6_fraction 1 = .ok (.iload_n 1, 1) := by decide +kernel
theorem dX6_fraction_2 : decode cX6_fraction 2 = .ok (.invokestatic 275, 3) := by decide +kernel
theorem dX6_fraction_5 : decode cX6_fraction 5 = .ok (.istore_n 3, 1) := by decide +kernel
theorem dX6_fraction_6 : decode cX6_fraction 6 = .ok (.iload_n 2, 1) := by decide +kernel
theorem dX6_fraction_7 : decode cX6_fraction 7 = .ok (.ifCond .eq 7, 3) := by decide +kernel
theorem dX6_fraction_10 : decode cX6_fraction 10 = .ok (.iload_n 0, 1) := by decide +kernel
theorem dX6_fraction_11 : decode cX6_fraction 11 = .ok (.goto 4, 3) := by decide +kernel
theorem dX6_fraction_14 : decode cX6_fraction 14 = .ok (.iload_n 1, 1) := by decide +kernel
theorem dX6_fraction_15 : decode cX6_fraction 15 = .ok (.iconst 1, 1) := by decide +kernel
theorem dX6_fraction_16 : decode cX6_fraction 16 = .ok (.iload_n 3, 1) := by decide +kernel
theorem dX6_fraction_17 : decode cX6_fraction 17 = .ok (.invokestatic 278, 3) := by decide +kernel
theorem dX6_fraction_20 : decode cX6_fraction 20 = .ok (.idiv, 1) := by decide +kernel
theorem dX6_fraction_21 : decode cX6_fraction 21 = .ok (.ireturn, 1) := by decide +kernel
theorem dX6_commonDivisor_0 : decode cX6_commonDivisor 0 = .ok (.iload_n 0, 1) := by decide +kernel
theorem dX6_commonDivisor_1 : decode cX6_commonDivisor 1 = .ok (.istore_n 2, 1) := by decide +kernel
theorem dX6_commonDivisor_2 : decode cX6_commonDivisor 2 = .ok (.iload_n 1, 1) := by decide +kernel
theorem dX6_commonDivisor_3 : decode cX6_commonDivisor 3 = .ok (.istore_n 3, 1) := by decide +kernel
theorem dX6_commonDivisor_4 : decode cX6_commonDivisor 4 = .ok (.iconst 0, 1) := by decide +kernel
theorem dX6_commonDivisor_5 : decode cX6_commonDivisor 5 = .ok (.istore 4, 2) := by decide +kernel
theorem dX6_commonDivisor_7 : decode cX6_commonDivisor 7 = .ok (.iload 4, 2) := by decide +kernel
theorem dX6_commonDivisor_9 : decode cX6_commonDivisor 9 = .ok (.bipush 64, 2) := by decide +kernel
theorem dX6_commonDivisor_11 : decode cX6_commonDivisor 11 = .ok (.if_icmp .ge 23, 3) := by decide +kernel
theorem dX6_commonDivisor_14 : decode cX6_commonDivisor 14 = .ok (.iload_n 3, 1) := by decide +kernel
theorem dX6_commonDivisor_15 : decode cX6_commonDivisor 15 = .ok (.ifCond .eq 19, 3) := by decide +kernel
theorem dX6_commonDivisor_18 : decode cX6_commonDivisor 18 = .ok (.iload_n 2, 1) := by decide +kernel
theorem dX6_commonDivisor_19 : decode cX6_commonDivisor 19 = .ok (.iload_n 3, 1) := by decide +kernel
theorem dX6_commonDivisor_20 : decode cX6_commonDivisor 20 = .ok (.irem, 1) := by decide +kernel
theorem dX6_commonDivisor_21 : decode cX6_commonDivisor 21 = .ok (.istore 5, 2) := by decide +kernel
theorem dX6_commonDivisor_23 : decode cX6_commonDivisor 23 = .ok (.iload_n 3, 1) := by decide +kernel
theorem dX6_commonDivisor_24 : decode cX6_commonDivisor 24 = .ok (.istore_n 2, 1) := by decide +kernel
theorem dX6_commonDivisor_25 : decode cX6_commonDivisor 25 = .ok (.iload 5, 2) := by decide +kernel
theorem dX6_commonDivisor_27 : decode cX6_commonDivisor 27 = .ok (.istore_n 3, 1) := by decide +kernel
theorem dX6_commonDivisor_28 : decode cX6_commonDivisor 28 = .ok (.iinc 4 1, 3) := by decide +kernel
theorem dX6_commonDivisor_31 : decode cX6_commonDivisor 31 = .ok (.goto (-24), 3) := by decide +kernel
theorem dX6_commonDivisor_34 : decode cX6_commonDivisor 34 = .ok (.iload_n 2, 1) := by decide +kernel
theorem dX6_commonDivisor_35 : decode cX6_commonDivisor 35 = .ok (.ireturn, 1) := by decide +kernel
theorem dX7_init_0 : decode cX7_init 0 = .ok (.aload_n 0, 1) := by decide +kernel
theorem dX7_init_1 : decode cX7_init 1 = .ok (.invokespecial 1, 3) := by decide +kernel
theorem dX7_init_4 : decode cX7_init 4 = .ok (.aload_n 0, 1) := by decide +kernel
theorem dX7_init_5 : decode cX7_init 5 = .ok (.iconst 5, 1) := by decide +kernel
theorem dX7_init_6 : decode cX7_init 6 = .ok (.newarray .int, 2) := by decide +kernel
theorem dX7_init_8 : decode cX7_init 8 = .ok (.putfield 7, 3) := by decide +kernel
theorem dX7_init_11 : decode cX7_init 11 = .ok (.aload_n 0, 1) := by decide +kernel
theorem dX7_init_12 : decode cX7_init 12 = .ok (.iconst 5, 1) := by decide +kernel
theorem dX7_init_13 : decode cX7_init 13 = .ok (.newarray .int, 2) := by decide +kernel
theorem dX7_init_15 : decode cX7_init 15 = .ok (.putfield 13, 3) := by decide +kernel
theorem dX7_init_18 : decode cX7_init 18 = .ok (.aload_n 0, 1) := by decide +kernel
theorem dX7_init_19 : decode cX7_init 19 = .ok (.iconst 5, 1) := by decide +kernel
theorem dX7_init_20 : decode cX7_init 20 = .ok (.newarray .int, 2) := by decide +kernel
theorem dX7_init_22 : decode cX7_init 22 = .ok (.putfield 16, 3) := by decide +kernel
theorem dX7_init_25 : decode cX7_init 25 = .ok (.aload_n 0, 1) := by decide +kernel
theorem dX7_init_26 : decode cX7_init 26 = .ok (.iconst 5, 1) := by decide +kernel
theorem dX7_init_27 : decode cX7_init 27 = .ok (.newarray .int, 2) := by decide +kernel
theorem dX7_init_29 : decode cX7_init 29 = .ok (.putfield 19, 3) := by decide +kernel
theorem dX7_init_32 : decode cX7_init 32 = .ok (.aload_n 0, 1) := by decide +kernel
theorem dX7_init_33 : decode cX7_init 33 = .ok (.iconst 5, 1) := by decide +kernel
theorem dX7_init_34 : decode cX7_init 34 = .ok (.newarray .int, 2) := by decide +kernel
theorem dX7_init_36 : decode cX7_init 36 = .ok (.putfield 22, 3) := by decide +kernel
theorem dX7_init_39 : decode cX7_init 39 = .ok (.aload_n 0, 1) := by decide +kernel
theorem dX7_init_40 : decode cX7_init 40 = .ok (.iconst 5, 1) := by decide +kernel
theorem dX7_init_41 : decode cX7_init 41 = .ok (.newarray .int, 2) := by decide +kernel
theorem dX7_init_43 : decode cX7_init 43 = .ok (.putfield 25, 3) := by decide +kernel
theorem dX7_init_46 : decode cX7_init 46 = .ok (.aload_n 0, 1) := by decide +kernel
theorem dX7_init_47 : decode cX7_init 47 = .ok (.iconst 5, 1) := by decide +kernel
theorem dX7_init_48 : decode cX7_init 48 = .ok (.newarray .int, 2) := by decide +kernel
theorem dX7_init_50 : decode cX7_init 50 = .ok (.putfield 28, 3) := by decide +kernel
theorem dX7_init_53 : decode cX7_init 53 = .ok (.aload_n 0, 1) := by decide +kernel
theorem dX7_init_54 : decode cX7_init 54 = .ok (.bipush 18, 2) := by decide +kernel
theorem dX7_init_56 : decode cX7_init 56 = .ok (.newarray .int, 2) := by decide +kernel
theorem dX7_init_58 : decode cX7_init 58 = .ok (.putfield 31, 3) := by decide +kernel
theorem dX7_init_61 : decode cX7_init 61 = .ok (.aload_n 0, 1) := by decide +kernel
theorem dX7_init_62 : decode cX7_init 62 = .ok (.bipush 10, 2) := by decide +kernel
theorem dX7_init_64 : decode cX7_init 64 = .ok (.newarray .int, 2) := by decide +kernel
theorem dX7_init_66 : decode cX7_init 66 = .ok (.putfield 34, 3) := by decide +kernel
theorem dX7_init_69 : decode cX7_init 69 = .ok (.aload_n 0, 1) := by decide +kernel
theorem dX7_init_70 : decode cX7_init 70 = .ok (.bipush 10, 2) := by decide +kernel
theorem dX7_init_72 : decode cX7_init 72 = .ok (.newarray .int, 2) := by decide +kernel
theorem dX7_init_74 : decode cX7_init 74 = .ok (.putfield 37, 3) := by decide +kernel
theorem dX7_init_77 : decode cX7_init 77 = .ok (.aload_n 0, 1) := by decide +kernel
theorem dX7_init_78 : decode cX7_init 78 = .ok (.bipush 20, 2) := by decide +kernel
theorem dX7_init_80 : decode cX7_init 80 = .ok (.newarray .int, 2) := by decide +kernel
theorem dX7_init_82 : decode cX7_init 82 = .ok (.putfield 40, 3) := by decide +kernel
theorem dX7_init_85 : decode cX7_init 85 = .ok (.aload_n 0, 1) := by decide +kernel
theorem dX7_init_86 : decode cX7_init 86 = .ok (.bipush 60, 2) := by decide +kernel
theorem dX7_init_88 : decode cX7_init 88 = .ok (.newarray .int, 2) := by decide +kernel
theorem dX7_init_90 : decode cX7_init 90 = .ok (.putfield 43, 3) := by decide +kernel
theorem dX7_init_93 : decode cX7_init 93 = .ok (.aload_n 0, 1) := by decide +kernel
theorem dX7_init_94 : decode cX7_init 94 = .ok (.bipush 126, 2) := by decide +kernel
theorem dX7_init_96 : decode cX7_init 96 = .ok (.newarray .int, 2) := by decide +kernel
theorem dX7_init_98 : decode cX7_init 98 = .ok (.putfield 46, 3) := by decide +kernel
theorem dX7_init_101 : decode cX7_init 101 = .ok (.aload_n 0, 1) := by decide +kernel
theorem dX7_init_102 : decode cX7_init 102 = .ok (.bipush 6, 2) := by decide +kernel
theorem dX7_init_104 : decode cX7_init 104 = .ok (.newarray .int, 2) := by decide +kernel
theorem dX7_init_106 : decode cX7_init 106 = .ok (.putfield 49, 3) := by decide +kernel
theorem dX7_init_109 : decode cX7_init 109 = .ok (.aload_n 0, 1) := by decide +kernel
theorem dX7_init_110 : decode cX7_init 110 = .ok (.bipush 6, 2) := by decide +kernel
theorem dX7_init_112 : decode cX7_init 112 = .ok (.newarray .int, 2) := by decide +kernel
theorem dX7_init_114 : decode cX7_init 114 = .ok (.putfield 52, 3) := by decide +kernel
theorem dX7_init_117 : decode cX7_init 117 = .ok (.aload_n 0, 1) := by decide +kernel
theorem dX7_init_118 : decode cX7_init 118 = .ok (.bipush 6, 2) := by decide +kernel
theorem dX7_init_120 : decode cX7_init 120 = .ok (.newarray .int, 2) := by decide +kernel
theorem dX7_init_122 : decode cX7_init 122 = .ok (.putfield 55, 3) := by decide +kernel
theorem dX7_init_125 : decode cX7_init 125 = .ok (.aload_n 0, 1) := by decide +kernel
theorem dX7_init_126 : decode cX7_init 126 = .ok (.iconst 2, 1) := by decide +kernel
theorem dX7_init_127 : decode cX7_init 127 = .ok (.newarray .boolean, 2) := by decide +kernel
theorem dX7_init_129 : decode cX7_init 129 = .ok (.putfield 58, 3) := by decide +kernel
theorem dX7_init_132 : decode cX7_init 132 = .ok (.aload_n 0, 1) := by decide +kernel
theorem dX7_init_133 : decode cX7_init 133 = .ok (.bipush 18, 2) := by decide +kernel
theorem dX7_init_135 : decode cX7_init 135 = .ok (.newarray .int, 2) := by decide +kernel
theorem dX7_init_137 : decode cX7_init 137 = .ok (.putfield 62, 3) := by decide +kernel
theorem dX7_init_140 : decode cX7_init 140 = .ok (.return_, 1) := by decide +kernel
theorem dX7_in_0 : decode cX7_in 0 = .ok (.lload_n 0, 1) := by decide +kernel
theorem dX7_in_1 : decode cX7_in 1 = .ok (.lload_n 2, 1) := by decide +kernel
theorem dX7_in_2 : decode cX7_in 2 = .ok (.lcmp, 1) := by decide +kernel
theorem dX7_in_3 : decode cX7_in 3 = .ok (.ifCond .lt 14, 3) := by decide +kernel
theorem dX7_in_6 : decode cX7_in 6 = .ok (.lload_n 0, 1) := by decide +kernel
theorem dX7_in_7 : decode cX7_in 7 = .ok (.lload 4, 2) := by decide +kernel
theorem dX7_in_9 : decode cX7_in 9 = .ok (.lcmp, 1) := by decide +kernel
theorem dX7_in_10 : decode cX7_in 10 = .ok (.ifCond .gt 7, 3) := by decide +kernel
theorem dX7_in_13 : decode cX7_in 13 = .ok (.iconst 1, 1) := by decide +kernel
theorem dX7_in_14 : decode cX7_in 14 = .ok (.goto 4, 3) := by decide +kernel
theorem dX7_in_17 : decode cX7_in 17 = .ok (.iconst 0, 1) := by decide +kernel
theorem dX7_in_18 : decode cX7_in 18 = .ok (.ireturn, 1) := by decide +kernel
theorem dX7_has_0 : decode cX7_has 0 = .ok (.iload_n 0, 1) := by decide +kernel
theorem dX7_has_1 : decode cX7_has 1 = .ok (.iload_n 1, 1) := by decide +kernel
theorem dX7_has_2 : decode cX7_has 2 = .ok (.ishr, 1) := by decide +kernel
theorem dX7_has_3 : decode cX7_has 3 = .ok (.iconst 1, 1) := by decide +kernel
theorem dX7_has_4 : decode cX7_has 4 = .ok (.iand, 1) := by decide +kernel
theorem dX7_has_5 : decode cX7_has 5 = .ok (.iconst 1, 1) := by decide +kernel
theorem dX7_has_6 : decode cX7_has 6 = .ok (.if_icmp .ne 7, 3) := by decide +kernel
theorem dX7_has_9 : decode cX7_has 9 = .ok (.iconst 1, 1) := by decide +kernel
theorem dX7_has_10 : decode cX7_has 10 = .ok (.goto 4, 3) := by decide +kernel
theorem dX7_has_13 : decode cX7_has 13 = .ok (.iconst 0, 1) := by decide +kernel
theorem dX7_has_14 : decode cX7_has 14 = .ok (.ireturn, 1) := by decide +kernel
theorem dX7_ones_0 : decode cX7_ones 0 = .ok (.iconst 0, 1) := by decide +kernel
theorem dX7_ones_1 : decode cX7_ones 1 = .ok (.istore_n 1, 1) := by decide +kernel
theorem dX7_ones_2 : decode cX7_ones 2 = .ok (.iconst 0, 1) := by decide +kernel
theorem dX7_ones_3 : decode cX7_ones 3 = .ok (.istore_n 2, 1) := by decide +kernel
theorem dX7_ones_4 : decode cX7_ones 4 = .ok (.iload_n 2, 1) := by decide +kernel
theorem dX7_ones_5 : decode cX7_ones 5 = .ok (.iconst 5, 1) := by decide +kernel
theorem dX7_ones_6 : decode cX7_ones 6 = .ok (.if_icmp .ge 17, 3) := by decide +kernel
theorem dX7_ones_9 : decode cX7_ones 9 = .ok (.iload_n 1, 1) := by decide +kernel
theorem dX7_ones_10 : decode cX7_ones 10 = .ok (.iload_n 0, 1) := by decide +kernel
theorem dX7_ones_11 : decode cX7_ones 11 = .ok (.iload_n 2, 1) := by decide +kernel
theorem dX7_ones_12 : decode cX7_ones 12 = .ok (.ishr, 1) := by decide +kernel
theorem dX7_ones_13 : decode cX7_ones 13 = .ok (.iconst 1, 1) := by decide +kernel
theorem dX7_ones_14 : decode cX7_ones 14 = .ok (.iand, 1) := by decide +kernel
theorem dX7_ones_15 : decode cX7_ones 15 = .ok (.iadd, 1) := by decide +kernel
theorem dX7_ones_16 : decode cX7_ones 16 = .ok (.istore_n 1, 1) := by decide +kernel
theorem dX7_ones_17 : decode cX7_ones 17 = .ok (.iinc 2 1, 3) := by decide +kernel
theorem dX7_ones_20 : decode cX7_ones 20 = .ok (.goto (-16), 3) := by decide +kernel
theorem dX7_ones_23 : decode cX7_ones 23 = .ok (.iload_n 1, 1) := by decide +kernel
theorem dX7_ones_24 : decode cX7_ones 24 = .ok (.ireturn, 1) := by decide +kernel
set_option maxRecDepth 20000 in
theorem ggX7_write_X7_in : GoodIn wsX7_write wsX7_in := goodIn_r _ [7] (by decide +kernel) (by decide +kernel)
set_option maxRecDepth 20000 in
theorem gX7_write_X7_in : GoodIn wsX7_write (va_wsS RX7 67 yX7_in wsX7_in) := goodIn_app (goodIn_of _ (by decide +kernel)) ggX7_write_X7_in
theorem dX7_write_0 : decode cX7_write 0 = .ok (.iload_n 1, 1) := by decide +kernel
theorem dX7_write_1 : decode cX7_write 1 = .ok (.i2l, 1) := by decide +kernel
theorem dX7_write_2 : decode cX7_write 2 = .ok (.lconst 0, 1) := by decide +kernel
theorem dX7_write_3 : decode cX7_write 3 = .ok (.ldc2_w 65, 3) := by decide +kernel
theorem dX7_write_6 : decode cX7_write 6 = .ok (.invokestatic 67, 3) := by decide +kernel
theorem dX7_write_9 : decode cX7_write 9 = .ok (.ifCond .ne 6, 3) := by decide +kernel
theorem dX7_write_12 : decode cX7_write 12 = .ok (.bipush (-2), 2) := by decide +kernel
theorem dX7_write_14 : decode cX7_write 14 = .ok (.ireturn, 1) := by decide +kernel
theorem dX7_write_15 : decode cX7_write 15 = .ok (.aload_n 0, 1) := by decide +kernel
theorem dX7_write_16 : decode cX7_write 16 = .ok (.getfield 71, 3) := by decide +kernel
theorem dX7_write_19 : decode cX7_write 19 = .ok (.bipush 60, 2) := by decide +kernel
theorem dX7_write_21 : decode cX7_write 21 = .ok (.if_icmp .ne 6, 3) := by decide +kernel
theorem dX7_write_24 : decode cX7_write 24 = .ok (.bipush (-4), 2) := by decide +kernel
theorem dX7_write_26 : decode cX7_write 26 = .ok (.ireturn, 1) := by decide +kernel
theorem dX7_write_27 : decode cX7_write 27 = .ok (.aload_n 0, 1) := by decide +kernel
theorem dX7_write_28 : decode cX7_write 28 = .ok (.getfield 43, 3) := by decide +kernel
theorem dX7_write_31 : decode cX7_write 31 = .ok (.aload_n 0, 1) := by decide +kernel
theorem dX7_write_32 : decode cX7_write 32 = .ok (.getfield 71, 3) := by decide +kernel
theorem dX7_write_35 : decode cX7_write 35 = .ok (.iload_n 1, 1) := by decide +kernel
theorem dX7_write_36 : decode cX7_write 36 = .ok (.iastore, 1) := by decide +kernel
theorem dX7_write_37 : decode cX7_write 37 = .ok (.aload_n 0, 1) := by decide +kernel
theorem dX7_write_38 : decode cX7_write 38 = .ok (.dup, 1) := by decide +kernel
theorem dX7_write_39 : decode cX7_write 39 = .ok (.getfield 71, 3) := by decide +kernel
theorem dX7_write_42 : decode cX7_write 42 = .ok (.iconst 1, 1) := by decide +kernel
theorem dX7_write_43 : decode cX7_write 43 = .ok (.iadd, 1) := by decide +kernel
theorem dX7_write_44 : decode cX7_write 44 = .ok (.putfield 71, 3) := by decide +kernel
theorem dX7_write_47 : decode cX7_write 47 = .ok (.aload_n 0, 1) := by decide +kernel
theorem dX7_write_48 : decode cX7_write 48 = .ok (.getfield 71, 3) := by decide +kernel
theorem dX7_write_51 : decode cX7_write 51 = .ok (.ireturn, 1) := by decide +kernel
theorem dX7_wipe_0 : decode cX7_wipe 0 = .ok (.aload_n 0, 1) := by decide +kernel
theorem dX7_wipe_1 : decode cX7_wipe 1 = .ok (.getfield 71, 3) := by decide +kernel
theorem dX7_wipe_4 : decode cX7_wipe 4 = .ok (.istore_n 1, 1) := by decide +kernel
theorem dX7_wipe_5 : decode cX7_wipe 5 = .ok (.aload_n 0, 1) := by decide +kernel
theorem dX7_wipe_6 : decode cX7_wipe 6 = .ok (.iconst 0, 1) := by decide +kernel
theorem dX7_wipe_7 : decode cX7_wipe 7 = .ok (.putfield 71, 3) := by decide +kernel
theorem dX7_wipe_10 : decode cX7_wipe 10 = .ok (.iload_n 1, 1) := by decide +kernel
theorem dX7_wipe_11 : decode cX7_wipe 11 = .ok (.ireturn, 1) := by decide +kernel
set_option maxRecDepth 20000 in
theorem ggX7_figureOf_X7_in : GoodIn wsX7_figureOf wsX7_in := goodIn_r _ [8] (by decide +kernel) (by decide +kernel)
set_option maxRecDepth 20000 in
theorem gX7_figureOf_X7_in : GoodIn wsX7_figureOf (va_wsS RX7 67 yX7_in wsX7_in) := goodIn_app (goodIn_of _ (by decide +kernel)) ggX7_figureOf_X7_in
theorem dX7_figureOf_0 : decode cX7_figureOf 0 = .ok (.aload_n 0, 1) := by decide +kernel
theorem dX7_figureOf_1 : decode cX7_figureOf 1 = .ok (.getfield 75, 3) := by decide +kernel
theorem dX7_figureOf_4 : decode cX7_figureOf 4 = .ok (.bipush (-9), 2) := by decide +kernel
theorem dX7_figureOf_6 : decode cX7_figureOf 6 = .ok (.if_icmp .ne 18, 3) := by decide +kernel
theorem dX7_figureOf_9 : decode cX7_figureOf 9 = .ok (.aload_n 0, 1) := by decide +kernel
theorem dX7_figureOf_10 : decode cX7_figureOf 10 = .ok (.getfield 78, 3) := by decide +kernel
theorem dX7_figureOf_13 : decode cX7_figureOf 13 = .ok (.aload_n 0, 1) := by decide +kernel
theorem dX7_figureOf_14 : decode cX7_figureOf 14 = .ok (.getfield 71, 3) := by decide +kernel
theorem dX7_figureOf_17 : decode cX7_figureOf 17 = .ok (.if_icmp .ge 7, 3) := by decide +kernel
theorem dX7_figureOf_20 : decode cX7_figureOf 20 = .ok (.iconst 1, 1) := by decide +kernel
theorem dX7_figureOf_21 : decode cX7_figureOf 21 = .ok (.goto 4, 3) := by decide +kernel
theorem dX7_figureOf_24 : decode cX7_figureOf 24 = .ok (.iconst 0, 1) := by decide +kernel
theorem dX7_figureOf_25 : decode cX7_figureOf 25 = .ok (.istore_n 3, 1) := by decide +kernel
theorem dX7_figureOf_26 : decode cX7_figureOf 26 = .ok (.iload_n 3, 1) := by decide +kernel
theorem dX7_figureOf_27 : decode cX7_figureOf 27 = .ok (.ifCond .eq 18, 3) := by decide +kernel
theorem dX7_figureOf_30 : decode cX7_figureOf 30 = .ok (.aload_n 0, 1) := by decide +kernel
theorem dX7_figureOf_31 : decode cX7_figureOf 31 = .ok (.getfield 43, 3) := by decide +kernel
theorem dX7_figureOf_34 : decode cX7_figureOf 34 = .ok (.aload_n 0, 1) := by decide +kernel
theorem dX7_figureOf_35 : decode cX7_figureOf 35 = .ok (.getfield 78, 3) := by decide +kernel
theorem dX7_figureOf_38 : decode cX7_figureOf 38 = .ok (.iaload, 1) := by decide +kernel
theorem dX7_figureOf_39 : decode cX7_figureOf 39 = .ok (.bipush 48, 2) := by decide +kernel
theorem dX7_figureOf_41 : decode cX7_figureOf 41 = .ok (.isub, 1) := by decide +kernel
theorem dX7_figureOf_42 : decode cX7_figureOf 42 = .ok (.goto 4, 3) := by decide +kernel
theorem dX7_figureOf_45 : decode cX7_figureOf 45 = .ok (.iconst 0, 1) := by decide +kernel
theorem dX7_figureOf_46 : decode cX7_figureOf 46 = .ok (.istore 4, 2) := by decide +kernel
theorem dX7_figureOf_48 : decode cX7_figureOf 48 = .ok (.iload_n 3, 1) := by decide +kernel
theorem dX7_figureOf_49 : decode cX7_figureOf 49 = .ok (.ifCond .eq 21, 3) := by decide +kernel
theorem dX7_figureOf_52 : decode cX7_figureOf 52 = .ok (.iload 4, 2) := by decide +kernel
theorem dX7_figureOf_54 : decode cX7_figureOf 54 = .ok (.i2l, 1) := by decide +kernel
theorem dX7_figureOf_55 : decode cX7_figureOf 55 = .ok (.lconst 0, 1) := by decide +kernel
theorem dX7_figureOf_56 : decode cX7_figureOf 56 = .ok (.iload_n 1, 1) := by decide +kernel
theorem dX7_figureOf_57 : decode cX7_figureOf 57 = .ok (.i2l, 1) := by decide +kernel
theorem dX7_figureOf_58 : decode cX7_figureOf 58 = .ok (.invokestatic 67, 3) := by decide +kernel
theorem dX7_figureOf_61 : decode cX7_figureOf 61 = .ok (.ifCond .eq 9, 3) := by decide +kernel
theorem dX7_figureOf_64 : decode cX7_figureOf 64 = .ok (.iload 4, 2) := by decide +kernel
theorem dX7_figureOf_66 : decode cX7_figureOf 66 = .ok (.iload_n 2, 1) := by decide +kernel
theorem dX7_figureOf_67 : decode cX7_figureOf 67 = .ok (.if_icmp .ne 29, 3) := by decide +kernel
theorem dX7_figureOf_70 : decode cX7_figureOf 70 = .ok (.aload_n 0, 1) := by decide +kernel
theorem dX7_figureOf_71 : decode cX7_figureOf 71 = .ok (.aload_n 0, 1) := by decide +kernel
theorem dX7_figureOf_72 : decode cX7_figureOf 72 = .ok (.getfield 75, 3) := by decide +kernel
theorem dX7_figureOf_75 : decode cX7_figureOf 75 = .ok (.bipush (-9), 2) := by decide +kernel
theorem dX7_figureOf_77 : decode cX7_figureOf 77 = .ok (.if_icmp .ne 10, 3) := by decide +kernel
theorem dX7_figureOf_80 : decode cX7_figureOf 80 = .ok (.aload_n 0, 1) := by decide +kernel
theorem dX7_figureOf_81 : decode cX7_figureOf 81 = .ok (.getfield 78, 3) := by decide +kernel
theorem dX7_figureOf_84 : decode cX7_figureOf 84 = .ok (.goto 7, 3) := by decide +kernel
theorem dX7_figureOf_87 : decode cX7_figureOf 87 = .ok (.aload_n 0, 1) := by decide +kernel
theorem dX7_figureOf_88 : decode cX7_figureOf 88 = .ok (.getfield 75, 3) := by decide +kernel
theorem dX7_figureOf_91 : decode cX7_figureOf 91 = .ok (.putfield 75, 3) := by decide +kernel
theorem dX7_figureOf_94 : decode cX7_figureOf 94 = .ok (.iconst 0, 1) := by decide +kernel
theorem dX7_figureOf_95 : decode cX7_figureOf 95 = .ok (.ireturn, 1) := by decide +kernel
theorem dX7_figureOf_96 : decode cX7_figureOf 96 = .ok (.aload_n 0, 1) := by decide +kernel
theorem dX7_figureOf_97 : decode cX7_figureOf 97 = .ok (.dup, 1) := by decide +kernel
theorem dX7_figureOf_98 : decode cX7_figureOf 98 = .ok (.getfield 78, 3) := by decide +kernel
theorem dX7_figureOf_101 : decode cX7_figureOf 101 = .ok (.iconst 1, 1) := by decide +kernel
theorem dX7_figureOf_102 : decode cX7_figureOf 102 = .ok (.iadd, 1) := by decide +kernel
theorem dX7_figureOf_103 : decode cX7_figureOf 103 = .ok (.putfield 78, 3) := by decide +kernel
theorem dX7_figureOf_106 : decode cX7_figureOf 106 = .ok (.iload 4, 2) := by decide +kernel
theorem dX7_figureOf_108 : decode cX7_figureOf 108 = .ok (.ireturn, 1) := by decide +kernel
set_option maxRecDepth 20000 in
theorem ggX7_readText_X7_readPart : GoodIn wsX7_readText wsX7_readPart := goodIn_r _ [12, 3, 1, 13, 4, 14, 5, 2, 15, 16, 17, 11, 18, 6, 7, 19, 20, 21, 22, 23, 24, 25, 26, 27, 28, 29, 30, 31, 32, 33, 34, 35, 36, 37, 38, 39, 40, 41, 42, 43, 44, 45, 46, 47, 48, 49, 50, 51, 52, 53, 54, 55, 56, 57] (by decide +kernel) (by decide +kernel)
set_option maxRecDepth 20000 in
theorem gX7_readText_X7_readPart : GoodIn wsX7_readText (wsV RX7 90 RX7 yX7_readPart wsX7_readPart) := goodIn_app (goodIn_of _ (by decide +kernel)) ggX7_readText_X7_readPart
theorem dX7_readText_0 : decode cX7_readText 0 = .ok (.aload_n 0, 1) := by decide +kernel
theorem dX7_readText_1 : decode cX7_readText 1 = .ok (.iconst 0, 1) := by decide +kernel
theorem dX7_readText_2 : decode cX7_readText 2 = .ok (.putfield 78, 3) := by decide +kernel
theorem dX7_readText_5 : decode cX7_readText 5 = .ok (.aload_n 0, 1) := by decide +kernel
theorem dX7_readText_6 : decode cX7_readText 6 = .ok (.bipush (-9), 2) := by decide +kernel
theorem dX7_readText_8 : decode cX7_readText 8 = .ok (.putfield 75, 3) := by decide +kernel
theorem dX7_readText_11 : decode cX7_readText 11 = .ok (.aload_n 0, 1) := by decide +kernel
theorem dX7_readText_12 : decode cX7_readText 12 = .ok (.iconst 0, 1) := by decide +kernel
theorem dX7_readText_13 : decode cX7_readText 13 = .ok (.putfield 81, 3) := by decide +kernel
theorem dX7_readText_16 : decode cX7_readText 16 = .ok (.aload_n 0, 1) := by decide +kernel
theorem dX7_readText_17 : decode cX7_readText 17 = .ok (.iconst 0, 1) := by decide +kernel
theorem dX7_readText_18 : decode cX7_readText 18 = .ok (.putfield 84, 3) := by decide +kernel
theorem dX7_readText_21 : decode cX7_readText 21 = .ok (.aload_n 0, 1) := by decide +kernel
theorem dX7_readText_22 : decode cX7_readText 22 = .ok (.iconst 0, 1) := by decide +kernel
theorem dX7_readText_23 : decode cX7_readText 23 = .ok (.putfield 87, 3) := by decide +kernel
theorem dX7_readText_26 : decode cX7_readText 26 = .ok (.aload_n 0, 1) := by decide +kernel
theorem dX7_readText_27 : decode cX7_readText 27 = .ok (.getfield 71, 3) := by decide +kernel
theorem dX7_readText_30 : decode cX7_readText 30 = .ok (.ifCond .eq 14, 3) := by decide +kernel
theorem dX7_readText_33 : decode cX7_readText 33 = .ok (.aload_n 0, 1) := by decide +kernel
theorem dX7_readText_34 : decode cX7_readText 34 = .ok (.getfield 43, 3) := by decide +kernel
theorem dX7_readText_37 : decode cX7_readText 37 = .ok (.iconst 0, 1) := by decide +kernel
theorem dX7_readText_38 : decode cX7_readText 38 = .ok (.iaload, 1) := by decide +kernel
theorem dX7_readText_39 : decode cX7_readText 39 = .ok (.bipush 76, 2) := by decide +kernel
theorem dX7_readText_41 : decode cX7_readText 41 = .ok (.if_icmp .eq 5, 3) := by decide +kernel
theorem dX7_readText_44 : decode cX7_readText 44 = .ok (.iconst 0, 1) := by decide +kernel
theorem dX7_readText_45 : decode cX7_readText 45 = .ok (.ireturn, 1) := by decide +kernel
theorem dX7_readText_46 : decode cX7_readText 46 = .ok (.aload_n 0, 1) := by decide +kernel
theorem dX7_readText_47 : decode cX7_readText 47 = .ok (.iconst 1, 1) := by decide +kernel
theorem dX7_readText_48 : decode cX7_readText 48 = .ok (.putfield 78, 3) := by decide +kernel
theorem dX7_readText_51 : decode cX7_readText 51 = .ok (.aload_n 0, 1) := by decide +kernel
theorem dX7_readText_52 : decode cX7_readText 52 = .ok (.getfield 75, 3) := by decide +kernel
theorem dX7_readText_55 : decode cX7_readText 55 = .ok (.bipush (-9), 2) := by decide +kernel
theorem dX7_readText_57 : decode cX7_readText 57 = .ok (.if_icmp .ne 30, 3) := by decide +kernel
theorem dX7_readText_60 : decode cX7_readText 60 = .ok (.aload_n 0, 1) := by decide +kernel
theorem dX7_readText_61 : decode cX7_readText 61 = .ok (.getfield 78, 3) := by decide +kernel
theorem dX7_readText_64 : decode cX7_readText 64 = .ok (.aload_n 0, 1) := by decide +kernel
theorem dX7_readText_65 : decode cX7_readText 65 = .ok (.getfield 71, 3) := by decide +kernel
theorem dX7_readText_68 : decode cX7_readText 68 = .ok (.if_icmp .ge 19, 3) := by decide +kernel
theorem dX7_readText_71 : decode cX7_readText 71 = .ok (.aload_n 0, 1) := by decide +kernel
theorem dX7_readText_72 : decode cX7_readText 72 = .ok (.aload_n 0, 1) := by decide +kernel
theorem dX7_readText_73 : decode cX7_readText 73 = .ok (.getfield 43, 3) := by decide +kernel
theorem dX7_readText_76 : decode cX7_readText 76 = .ok (.aload_n 0, 1) := by decide +kernel
theorem dX7_readText_77 : decode cX7_readText 77 = .ok (.getfield 78, 3) := by decide +kernel
theorem dX7_readText_80 : decode cX7_readText 80 = .ok (.iaload, 1) := by decide +kernel
theorem dX7_readText_81 : decode cX7_readText 81 = .ok (.invokevirtual 90, 3) := by decide +kernel
theorem dX7_readText_84 : decode cX7_readText 84 = .ok (.goto (-33), 3) := by decide +kernel
theorem dX7_readText_87 : decode cX7_readText 87 = .ok (.aload_n 0, 1) := by decide +kernel
theorem dX7_readText_88 : decode cX7_readText 88 = .ok (.getfield 75, 3) := by decide +kernel
theorem dX7_readText_91 : decode cX7_readText 91 = .ok (.ireturn, 1) := by decide +kernel
set_option maxRecDepth 20000 in
theorem ggX7_readPart_X7_figureOf : GoodIn wsX7_readPart wsX7_figureOf := goodIn_r _ [12, 7, 2, 13, 14, 15, 16, 11, 17, 23, 24, 25, 26, 27, 28, 29, 30, 31, 32, 33, 34, 35, 36, 37, 38, 39, 40, 41, 42, 43, 44, 45, 46, 47, 48, 49, 50, 51, 52, 53] (by decide +kernel) (by decide +kernel)
set_option maxRecDepth 20000 in
theorem gX7_readPart_X7_figureOf : GoodIn wsX7_readPart (wsV RX7 94 RX7 yX7_figureOf wsX7_figureOf) := goodIn_app (goodIn_of _ (by decide +kernel)) ggX7_readPart_X7_figureOf
set_option maxRecDepth 20000 in
theorem ggX7_readPart_X7_readSworn : GoodIn wsX7_readPart wsX7_readSworn := goodIn_r _ [21, 6, 22, 1, 7, 2, 13, 14, 8, 9, 10, 11, 12, 15, 16, 17, 23, 24, 25, 26, 27, 28, 29, 30, 31, 32, 33, 34, 35, 36, 37, 38, 39, 40, 41, 42, 43, 44, 45, 46, 47, 48, 49, 50, 51, 52, 53] (by decide +kernel) (by decide +kernel)
set_option maxRecDepth 20000 in
theorem gX7_readPart_X7_readSworn : GoodIn wsX7_readPart (wsV RX7 98 RX7 yX7_readSworn wsX7_readSworn) := goodIn_app (goodIn_of _ (by decide +kernel)) ggX7_readPart_X7_readSworn
theorem dX7_readPart_0 : decode cX7_readPart 0 = .ok (.iload_n 1, 1) := by decide +kernel
theorem dX7_readPart_1 : decode cX7_readPart 1 = .ok (.bipush 80, 2) := by decide +kernel
theorem dX7_readPart_3 : decode cX7_readPart 3 = .ok (.if_icmp .ne 73, 3) := by decide +kernel
theorem dX7_readPart_6 : decode cX7_readPart 6 = .ok (.aload_n 0, 1) := by decide +kernel
theorem dX7_readPart_7 : decode cX7_readPart 7 = .ok (.getfield 81, 3) := by decide +kernel
theorem dX7_readPart_10 : decode cX7_readPart 10 = .ok (.iconst 5, 1) := by decide +kernel
theorem dX7_readPart_11 : decode cX7_readPart 11 = .ok (.if_icmp .ge 65, 3) := by decide +kernel
theorem dX7_readPart_14 : decode cX7_readPart 14 = .ok (.aload_n 0, 1) := by decide +kernel
theorem dX7_readPart_15 : decode cX7_readPart 15 = .ok (.dup, 1) := by decide +kernel
theorem dX7_readPart_16 : decode cX7_readPart 16 = .ok (.getfield 78, 3) := by decide +kernel
theorem dX7_readPart_19 : decode cX7_readPart 19 = .ok (.iconst 1, 1) := by decide +kernel
theorem dX7_readPart_20 : decode cX7_readPart 20 = .ok (.iadd, 1) := by decide +kernel
theorem dX7_readPart_21 : decode cX7_readPart 21 = .ok (.putfield 78, 3) := by decide +kernel
theorem dX7_readPart_24 : decode cX7_readPart 24 = .ok (.aload_n 0, 1) := by decide +kernel
theorem dX7_readPart_25 : decode cX7_readPart 25 = .ok (.getfield 34, 3) := by decide +kernel
theorem dX7_readPart_28 : decode cX7_readPart 28 = .ok (.iconst 2, 1) := by decide +kernel
theorem dX7_readPart_29 : decode cX7_readPart 29 = .ok (.aload_n 0, 1) := by decide +kernel
theorem dX7_readPart_30 : decode cX7_readPart 30 = .ok (.getfield 81, 3) := by decide +kernel
theorem dX7_readPart_33 : decode cX7_readPart 33 = .ok (.imul, 1) := by decide +kernel
theorem dX7_readPart_34 : decode cX7_readPart 34 = .ok (.aload_n 0, 1) := by decide +kernel
theorem dX7_readPart_35 : decode cX7_readPart 35 = .ok (.bipush 9, 2) := by decide +kernel
theorem dX7_readPart_37 : decode cX7_readPart 37 = .ok (.bipush (-9), 2) := by decide +kernel
theorem dX7_readPart_39 : decode cX7_readPart 39 = .ok (.invokevirtual 94, 3) := by decide +kernel
theorem dX7_readPart_42 : decode cX7_readPart 42 = .ok (.iastore, 1) := by decide +kernel
theorem dX7_readPart_43 : decode cX7_readPart 43 = .ok (.aload_n 0, 1) := by decide +kernel
theorem dX7_readPart_44 : decode cX7_readPart 44 = .ok (.getfield 34, 3) := by decide +kernel
theorem dX7_readPart_47 : decode cX7_readPart 47 = .ok (.iconst 2, 1) := by decide +kernel
theorem dX7_readPart_48 : decode cX7_readPart 48 = .ok (.aload_n 0, 1) := by decide +kernel
theorem dX7_readPart_49 : decode cX7_readPart 49 = .ok (.getfield 81, 3) := by decide +kernel
theorem dX7_readPart_52 : decode cX7_readPart 52 = .ok (.imul, 1) := by decide +kernel
theorem dX7_readPart_53 : decode cX7_readPart 53 = .ok (.iconst 1, 1) := by decide +kernel
theorem dX7_readPart_54 : decode cX7_readPart 54 = .ok (.iadd, 1) := by decide +kernel
theorem dX7_readPart_55 : decode cX7_readPart 55 = .ok (.aload_n 0, 1) := by decide +kernel
theorem dX7_readPart_56 : decode cX7_readPart 56 = .ok (.iconst 3, 1) := by decide +kernel
theorem dX7_readPart_57 : decode cX7_readPart 57 = .ok (.bipush (-9), 2) := by decide +kernel
theorem dX7_readPart_59 : decode cX7_readPart 59 = .ok (.invokevirtual 94, 3) := by decide +kernel
theorem dX7_readPart_62 : decode cX7_readPart 62 = .ok (.iastore, 1) := by decide +kernel
theorem dX7_readPart_63 : decode cX7_readPart 63 = .ok (.aload_n 0, 1) := by decide +kernel
theorem dX7_readPart_64 : decode cX7_readPart 64 = .ok (.dup, 1) := by decide +kernel
theorem dX7_readPart_65 : decode cX7_readPart 65 = .ok (.getfield 81, 3) := by decide +kernel
theorem dX7_readPart_68 : decode cX7_readPart 68 = .ok (.iconst 1, 1) := by decide +kernel
theorem dX7_readPart_69 : decode cX7_readPart 69 = .ok (.iadd, 1) := by decide +kernel
theorem dX7_readPart_70 : decode cX7_readPart 70 = .ok (.putfield 81, 3) := by decide +kernel
theorem dX7_readPart_73 : decode cX7_readPart 73 = .ok (.goto 177, 3) := by decide +kernel
theorem dX7_readPart_76 : decode cX7_readPart 76 = .ok (.iload_n 1, 1) := by decide +kernel
theorem dX7_readPart_77 : decode cX7_readPart 77 = .ok (.bipush 81, 2) := by decide +kernel
theorem dX7_readPart_79 : decode cX7_readPart 79 = .ok (.if_icmp .ne 47, 3) := by decide +kernel
theorem dX7_readPart_82 : decode cX7_readPart 82 = .ok (.aload_n 0, 1) := by decide +kernel
theorem dX7_readPart_83 : decode cX7_readPart 83 = .ok (.getfield 84, 3) := by decide +kernel
theorem dX7_readPart_86 : decode cX7_readPart 86 = .ok (.iconst 5, 1) := by decide +kernel
theorem dX7_readPart_87 : decode cX7_readPart 87 = .ok (.if_icmp .ge 39, 3) := by decide +kernel
theorem dX7_readPart_90 : decode cX7_readPart 90 = .ok (.aload_n 0, 1) := by decide +kernel
theorem dX7_readPart_91 : decode cX7_readPart 91 = .ok (.dup, 1) := by decide +kernel
theorem dX7_readPart_92 : decode cX7_readPart 92 = .ok (.getfield 78, 3) := by decide +kernel
theorem dX7_readPart_95 : decode cX7_readPart 95 = .ok (.iconst 1, 1) := by decide +kernel
theorem dX7_readPart_96 : decode cX7_readPart 96 = .ok (.iadd, 1) := by decide +kernel
theorem dX7_readPart_97 : decode cX7_readPart 97 = .ok (.putfield 78, 3) := by decide +kernel
theorem dX7_readPart_100 : decode cX7_readPart 100 = .ok (.aload_n 0, 1) := by decide +kernel
theorem dX7_readPart_101 : decode cX7_readPart 101 = .ok (.getfield 37, 3) := by decide +kernel
theorem dX7_readPart_104 : decode cX7_readPart 104 = .ok (.iconst 2, 1) := by decide +kernel
theorem dX7_readPart_105 : decode cX7_readPart 105 = .ok (.aload_n 0, 1) := by decide +kernel
theorem dX7_readPart_106 : decode cX7_readPart 106 = .ok (.getfield 84, 3) := by decide +kernel
theorem dX7_readPart_109 : decode cX7_readPart 109 = .ok (.imul, 1) := by decide +kernel
theorem dX7_readPart_110 : decode cX7_readPart 110 = .ok (.bipush (-9), 2) := by decide +kernel
theorem dX7_readPart_112 : decode cX7_readPart 112 = .ok (.iastore, 1) := by decide +kernel
theorem dX7_readPart_113 : decode cX7_readPart 113 = .ok (.aload_n 0, 1) := by decide +kernel
theorem dX7_readPart_114 : decode cX7_readPart 114 = .ok (.dup, 1) := by decide +kernel
theorem dX7_readPart_115 : decode cX7_readPart 115 = .ok (.getfield 84, 3) := by decide +kernel
theorem dX7_readPart_118 : decode cX7_readPart 118 = .ok (.iconst 1, 1) := by decide +kernel
theorem dX7_readPart_119 : decode cX7_readPart 119 = .ok (.iadd, 1) := by decide +kernel
theorem dX7_readPart_120 : decode cX7_readPart 120 = .ok (.putfield 84, 3) := by decide +kernel
theorem dX7_readPart_123 : decode cX7_readPart 123 = .ok (.goto 127, 3) := by decide +kernel
theorem dX7_readPart_126 : decode cX7_readPart 126 = .ok (.iload_n 1, 1) := by decide +kernel
theorem dX7_readPart_127 : decode cX7_readPart 127 = .ok (.bipush 67, 2) := by decide +kernel
theorem dX7_readPart_129 : decode cX7_readPart 129 = .ok (.if_icmp .ne 74, 3) := by decide +kernel
theorem dX7_readPart_132 : decode cX7_readPart 132 = .ok (.aload_n 0, 1) := by decide +kernel
theorem dX7_readPart_133 : decode cX7_readPart 133 = .ok (.getfield 84, 3) := by decide +kernel
theorem dX7_readPart_136 : decode cX7_readPart 136 = .ok (.iconst 5, 1) := by decide +kernel
theorem dX7_readPart_137 : decode cX7_readPart 137 = .ok (.if_icmp .ge 66, 3) := by decide +kernel
theorem dX7_readPart_140 : decode cX7_readPart 140 = .ok (.aload_n 0, 1) := by decide +kernel
theorem dX7_readPart_141 : decode cX7_readPart 141 = .ok (.dup, 1) := by decide +kernel
theorem dX7_readPart_142 : decode cX7_readPart 142 = .ok (.getfield 78, 3) := by decide +kernel
theorem dX7_readPart_145 : decode cX7_readPart 145 = .ok (.iconst 1, 1) := by decide +kernel
theorem dX7_readPart_146 : decode cX7_readPart 146 = .ok (.iadd, 1) := by decide +kernel
theorem dX7_readPart_147 : decode cX7_readPart 147 = .ok (.putfield 78, 3) := by decide +kernel
theorem dX7_readPart_150 : decode cX7_readPart 150 = .ok (.aload_n 0, 1) := by decide +kernel
theorem dX7_readPart_151 : decode cX7_readPart 151 = .ok (.getfield 37, 3) := by decide +kernel
theorem dX7_readPart_154 : decode cX7_readPart 154 = .ok (.iconst 2, 1) := by decide +kernel
theorem dX7_readPart_155 : decode cX7_readPart 155 = .ok (.aload_n 0, 1) := by decide +kernel
theorem dX7_readPart_156 : decode cX7_readPart 156 = .ok (.getfield 84, 3) := by decide +kernel
theorem dX7_readPart_159 : decode cX7_readPart 159 = .ok (.imul, 1) := by decide +kernel
theorem dX7_readPart_160 : decode cX7_readPart 160 = .ok (.aload_n 0, 1) := by decide +kernel
theorem dX7_readPart_161 : decode cX7_readPart 161 = .ok (.bipush 9, 2) := by decide +kernel
theorem dX7_readPart_163 : decode cX7_readPart 163 = .ok (.bipush (-9), 2) := by decide +kernel
theorem dX7_readPart_165 : decode cX7_readPart 165 = .ok (.invokevirtual 94, 3) := by decide +kernel
theorem dX7_readPart_168 : decode cX7_readPart 168 = .ok (.iastore, 1) := by decide +kernel
theorem dX7_readPart_169 : decode cX7_readPart 169 = .ok (.aload_n 0, 1) := by decide +kernel
theorem dX7_readPart_170 : decode cX7_readPart 170 = .ok (.getfield 37, 3) := by decide +kernel
theorem dX7_readPart_173 : decode cX7_readPart 173 = .ok (.iconst 2, 1) := by decide +kernel
theorem dX7_readPart_174 : decode cX7_readPart 174 = .ok (.aload_n 0, 1) := by decide +kernel
theorem dX7_readPart_175 : decode cX7_readPart 175 = .ok (.getfield 84, 3) := by decide +kernel
theorem dX7_readPart_178 : decode cX7_readPart 178 = .ok (.imul, 1) := by decide +kernel
theorem dX7_readPart_179 : decode cX7_readPart 179 = .ok (.iconst 1, 1) := by decide +kernel
theorem dX7_readPart_180 : decode cX7_readPart 180 = .ok (.iadd, 1) := by decide +kernel
theorem dX7_readPart_181 : decode cX7_readPart 181 = .ok (.aload_n 0, 1) := by decide +kernel
theorem dX7_readPart_182 : decode cX7_readPart 182 = .ok (.bipush 9, 2) := by decide +kernel
theorem dX7_readPart_184 : decode cX7_readPart 184 = .ok (.bipush (-9), 2) := by decide +kernel
theorem dX7_readPart_186 : decode cX7_readPart 186 = .ok (.invokevirtual 94, 3) := by decide +kernel
theorem dX7_readPart_189 : decode cX7_readPart 189 = .ok (.iastore, 1) := by decide +kernel
theorem dX7_readPart_190 : decode cX7_readPart 190 = .ok (.aload_n 0, 1) := by decide +kernel
theorem dX7_readPart_191 : decode cX7_readPart 191 = .ok (.dup, 1) := by decide +kernel
theorem dX7_readPart_192 : decode cX7_readPart 192 = .ok (.getfield 84, 3) := by decide +kernel
theorem dX7_readPart_195 : decode cX7_readPart 195 = .ok (.iconst 1, 1) := by decide +kernel
theorem dX7_readPart_196 : decode cX7_readPart 196 = .ok (.iadd, 1) := by decide +kernel
theorem dX7_readPart_197 : decode cX7_readPart 197 = .ok (.putfield 84, 3) := by decide +kernel
theorem dX7_readPart_200 : decode cX7_readPart 200 = .ok (.goto 50, 3) := by decide +kernel
theorem dX7_readPart_203 : decode cX7_readPart 203 = .ok (.iload_n 1, 1) := by decide +kernel
theorem dX7_readPart_204 : decode cX7_readPart 204 = .ok (.bipush 79, 2) := by decide +kernel
theorem dX7_readPart_206 : decode cX7_readPart 206 = .ok (.if_icmp .ne 36, 3) := by decide +kernel
theorem dX7_readPart_209 : decode cX7_readPart 209 = .ok (.aload_n 0, 1) := by decide +kernel
theorem dX7_readPart_210 : decode cX7_readPart 210 = .ok (.getfield 87, 3) := by decide +kernel
theorem dX7_readPart_213 : decode cX7_readPart 213 = .ok (.iconst 5, 1) := by decide +kernel
theorem dX7_readPart_214 : decode cX7_readPart 214 = .ok (.if_icmp .ge 28, 3) := by decide +kernel
theorem dX7_readPart_217 : decode cX7_readPart 217 = .ok (.aload_n 0, 1) := by decide +kernel
theorem dX7_readPart_218 : decode cX7_readPart 218 = .ok (.getfield 81, 3) := by decide +kernel
theorem dX7_readPart_221 : decode cX7_readPart 221 = .ok (.iconst 1, 1) := by decide +kernel
theorem dX7_readPart_222 : decode cX7_readPart 222 = .ok (.if_icmp .le 20, 3) := by decide +kernel
theorem dX7_readPart_225 : decode cX7_readPart 225 = .ok (.aload_n 0, 1) := by decide +kernel
theorem dX7_readPart_226 : decode cX7_readPart 226 = .ok (.dup, 1) := by decide +kernel
theorem dX7_readPart_227 : decode cX7_readPart 227 = .ok (.getfield 78, 3) := by decide +kernel
theorem dX7_readPart_230 : decode cX7_readPart 230 = .ok (.iconst 1, 1) := by decide +kernel
theorem dX7_readPart_231 : decode cX7_readPart 231 = .ok (.iadd, 1) := by decide +kernel
theorem dX7_readPart_232 : decode cX7_readPart 232 = .ok (.putfield 78, 3) := by decide +kernel
theorem dX7_readPart_235 : decode cX7_readPart 235 = .ok (.aload_n 0, 1) := by decide +kernel
theorem dX7_readPart_236 : decode cX7_readPart 236 = .ok (.invokevirtual 98, 3) := by decide +kernel
theorem dX7_readPart_239 : decode cX7_readPart 239 = .ok (.goto 11, 3) := by decide +kernel
theorem dX7_readPart_242 : decode cX7_readPart 242 = .ok (.aload_n 0, 1) := by decide +kernel
theorem dX7_readPart_243 : decode cX7_readPart 243 = .ok (.aload_n 0, 1) := by decide +kernel
theorem dX7_readPart_244 : decode cX7_readPart 244 = .ok (.getfield 78, 3) := by decide +kernel
theorem dX7_readPart_247 : decode cX7_readPart 247 = .ok (.putfield 75, 3) := by decide +kernel
theorem dX7_readPart_250 : decode cX7_readPart 250 = .ok (.return_, 1) := by decide +kernel
set_option maxRecDepth 20000 in
theorem ggX7_readSworn_X7_figureOf : GoodIn wsX7_readSworn wsX7_figureOf := goodIn_r _ [12, 4, 5, 6, 7, 13, 14, 11, 15, 16, 17, 18, 19, 20, 21, 22, 23, 24, 25, 26, 27, 28, 29, 30, 31, 32, 33, 34, 35, 36, 37, 38, 39, 40, 41, 42, 43, 44, 45, 46] (by decide +kernel) (by decide +kernel)
set_option maxRecDepth 20000 in
theorem gX7_readSworn_X7_figureOf : GoodIn wsX7_readSworn (wsV RX7 94 RX7 yX7_figureOf wsX7_figureOf) := goodIn_app (goodIn_of _ (by decide +kernel)) ggX7_readSworn_X7_figureOf
theorem dX7_readSworn_0 : decode cX7_readSworn 0 = .ok (.iconst 4, 1) := by decide +kernel
theorem dX7_readSworn_1 : decode cX7_readSworn 1 = .ok (.aload_n 0, 1) := by decide +kernel
theorem dX7_readSworn_2 : decode cX7_readSworn 2 = .ok (.getfield 87, 3) := by decide +kernel
theorem dX7_readSworn_5 : decode cX7_readSworn 5 = .ok (.imul, 1) := by decide +kernel
theorem dX7_readSworn_6 : decode cX7_readSworn 6 = .ok (.istore_n 1, 1) := by decide +kernel
theorem dX7_readSworn_7 : decode cX7_readSworn 7 = .ok (.aload_n 0, 1) := by decide +kernel
theorem dX7_readSworn_8 : decode cX7_readSworn 8 = .ok (.getfield 40, 3) := by decide +kernel
theorem dX7_readSworn_11 : decode cX7_readSworn 11 = .ok (.iload_n 1, 1) := by decide +kernel
theorem dX7_readSworn_12 : decode cX7_readSworn 12 = .ok (.aload_n 0, 1) := by decide +kernel
theorem dX7_readSworn_13 : decode cX7_readSworn 13 = .ok (.aload_n 0, 1) := by decide +kernel
theorem dX7_readSworn_14 : decode cX7_readSworn 14 = .ok (.getfield 81, 3) := by decide +kernel
theorem dX7_readSworn_17 : decode cX7_readSworn 17 = .ok (.iconst 1, 1) := by decide +kernel
theorem dX7_readSworn_18 : decode cX7_readSworn 18 = .ok (.isub, 1) := by decide +kernel
theorem dX7_readSworn_19 : decode cX7_readSworn 19 = .ok (.bipush (-9), 2) := by decide +kernel
theorem dX7_readSworn_21 : decode cX7_readSworn 21 = .ok (.invokevirtual 94, 3) := by decide +kernel
theorem dX7_readSworn_24 : decode cX7_readSworn 24 = .ok (.iastore, 1) := by decide +kernel
theorem dX7_readSworn_25 : decode cX7_readSworn 25 = .ok (.aload_n 0, 1) := by decide +kernel
theorem dX7_readSworn_26 : decode cX7_readSworn 26 = .ok (.getfield 40, 3) := by decide +kernel
theorem dX7_readSworn_29 : decode cX7_readSworn 29 = .ok (.iload_n 1, 1) := by decide +kernel
theorem dX7_readSworn_30 : decode cX7_readSworn 30 = .ok (.iconst 1, 1) := by decide +kernel
theorem dX7_readSworn_31 : decode cX7_readSworn 31 = .ok (.iadd, 1) := by decide +kernel
theorem dX7_readSworn_32 : decode cX7_readSworn 32 = .ok (.aload_n 0, 1) := by decide +kernel
theorem dX7_readSworn_33 : decode cX7_readSworn 33 = .ok (.aload_n 0, 1) := by decide +kernel
theorem dX7_readSworn_34 : decode cX7_readSworn 34 = .ok (.getfield 81, 3) := by decide +kernel
theorem dX7_readSworn_37 : decode cX7_readSworn 37 = .ok (.iconst 1, 1) := by decide +kernel
theorem dX7_readSworn_38 : decode cX7_readSworn 38 = .ok (.isub, 1) := by decide +kernel
theorem dX7_readSworn_39 : decode cX7_readSworn 39 = .ok (.aload_n 0, 1) := by decide +kernel
theorem dX7_readSworn_40 : decode cX7_readSworn 40 = .ok (.getfield 40, 3) := by decide +kernel
theorem dX7_readSworn_43 : decode cX7_readSworn 43 = .ok (.iload_n 1, 1) := by decide +kernel
theorem dX7_readSworn_44 : decode cX7_readSworn 44 = .ok (.iaload, 1) := by decide +kernel
theorem dX7_readSworn_45 : decode cX7_readSworn 45 = .ok (.invokevirtual 94, 3) := by decide +kernel
theorem dX7_readSworn_48 : decode cX7_readSworn 48 = .ok (.iastore, 1) := by decide +kernel
theorem dX7_readSworn_49 : decode cX7_readSworn 49 = .ok (.aload_n 0, 1) := by decide +kernel
theorem dX7_readSworn_50 : decode cX7_readSworn 50 = .ok (.getfield 40, 3) := by decide +kernel
theorem dX7_readSworn_53 : decode cX7_readSworn 53 = .ok (.iload_n 1, 1) := by decide +kernel
theorem dX7_readSworn_54 : decode cX7_readSworn 54 = .ok (.iconst 2, 1) := by decide +kernel
theorem dX7_readSworn_55 : decode cX7_readSworn 55 = .ok (.iadd, 1) := by decide +kernel
theorem dX7_readSworn_56 : decode cX7_readSworn 56 = .ok (.aload_n 0, 1) := by decide +kernel
theorem dX7_readSworn_57 : decode cX7_readSworn 57 = .ok (.bipush 9, 2) := by decide +kernel
theorem dX7_readSworn_59 : decode cX7_readSworn 59 = .ok (.bipush (-9), 2) := by decide +kernel
theorem dX7_readSworn_61 : decode cX7_readSworn 61 = .ok (.invokevirtual 94, 3) := by decide +kernel
theorem dX7_readSworn_64 : decode cX7_readSworn 64 = .ok (.iastore, 1) := by decide +kernel
theorem dX7_readSworn_65 : decode cX7_readSworn 65 = .ok (.aload_n 0, 1) := by decide +kernel
theorem dX7_readSworn_66 : decode cX7_readSworn 66 = .ok (.getfield 75, 3) := by decide +kernel
theorem dX7_readSworn_69 : decode cX7_readSworn 69 = .ok (.bipush (-9), 2) := by decide +kernel
theorem dX7_readSworn_71 : decode cX7_readSworn 71 = .ok (.if_icmp .ne 51, 3) := by decide +kernel
theorem dX7_readSworn_74 : decode cX7_readSworn 74 = .ok (.aload_n 0, 1) := by decide +kernel
theorem dX7_readSworn_75 : decode cX7_readSworn 75 = .ok (.getfield 78, 3) := by decide +kernel
theorem dX7_readSworn_78 : decode cX7_readSworn 78 = .ok (.aload_n 0, 1) := by decide +kernel
theorem dX7_readSworn_79 : decode cX7_readSworn 79 = .ok (.getfield 71, 3) := by decide +kernel
theorem dX7_readSworn_82 : decode cX7_readSworn 82 = .ok (.if_icmp .ge 40, 3) := by decide +kernel
theorem dX7_readSworn_85 : decode cX7_readSworn 85 = .ok (.aload_n 0, 1) := by decide +kernel
theorem dX7_readSworn_86 : decode cX7_readSworn 86 = .ok (.getfield 43, 3) := by decide +kernel
theorem dX7_readSworn_89 : decode cX7_readSworn 89 = .ok (.aload_n 0, 1) := by decide +kernel
theorem dX7_readSworn_90 : decode cX7_readSworn 90 = .ok (.getfield 78, 3) := by decide +kernel
theorem dX7_readSworn_93 : decode cX7_readSworn 93 = .ok (.iaload, 1) := by decide +kernel
theorem dX7_readSworn_94 : decode cX7_readSworn 94 = .ok (.bipush 110, 2) := by decide +kernel
theorem dX7_readSworn_96 : decode cX7_readSworn 96 = .ok (.if_icmp .ne 26, 3) := by decide +kernel
theorem dX7_readSworn_99 : decode cX7_readSworn 99 = .ok (.aload_n 0, 1) := by decide +kernel
theorem dX7_readSworn_100 : decode cX7_readSworn 100 = .ok (.getfield 40, 3) := by decide +kernel
theorem dX7_readSworn_103 : decode cX7_readSworn 103 = .ok (.iload_n 1, 1) := by decide +kernel
theorem dX7_readSworn_104 : decode cX7_readSworn 104 = .ok (.iconst 3, 1) := by decide +kernel

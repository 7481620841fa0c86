theorem dX0_init_1 : decode cX0_init 1 = .ok (.invokespecial 3, 3) := by decide +kernel
theorem dX0_init_4 : decode cX0_init 4 = .ok (.aload_n 0, 1) := by decide +kernel
theorem dX0_init_5 : decode cX0_init 5 = .ok (.bipush 70, 2) := by decide +kernel
theorem dX0_init_7 : decode cX0_init 7 = .ok (.newarray .int, 2) := by decide +kernel
theorem dX0_init_9 : decode cX0_init 9 = .ok (.putfield 11, 3) := by decide +kernel
theorem dX0_init_12 : decode cX0_init 12 = .ok (.aload_n 0, 1) := by decide +kernel
theorem dX0_init_13 : decode cX0_init 13 = .ok (.iconst 0, 1) := by decide +kernel
theorem dX0_init_14 : decode cX0_init 14 = .ok (.putfield 17, 3) := by decide +kernel
theorem dX0_init_17 : decode cX0_init 17 = .ok (.return_, 1) := by decide +kernel
set_option maxRecDepth 20000 in
theorem ggX0_push_X4_saveTo : GoodIn wsX0_push wsX4_saveTo := goodIn_r _ [11, 12, 13, 14, 15, 16, 17, 18, 19, 22, 23, 24, 25, 26, 27] (by decide +kernel) (by decide +kernel)
set_option maxRecDepth 20000 in
theorem gX0_push_X4_saveTo : GoodIn wsX0_push (wsV RX0 27 RX4 yX4_saveTo wsX4_saveTo) := goodIn_app (goodIn_of _ (by decide +kernel)) ggX0_push_X4_saveTo
theorem dX0_push_0 : decode cX0_push 0 = .ok (.aload_n 0, 1) := by decide +kernel
theorem dX0_push_1 : decode cX0_push 1 = .ok (.getfield 17, 3) := by decide +kernel
theorem dX0_push_4 : decode cX0_push 4 = .ok (.bipush 14, 2) := by decide +kernel
theorem dX0_push_6 : decode cX0_push 6 = .ok (.if_icmp .lt 29, 3) := by decide +kernel
theorem dX0_push_9 : decode cX0_push 9 = .ok (.aload_n 0, 1) := by decide +kernel
theorem dX0_push_10 : decode cX0_push 10 = .ok (.getfield 11, 3) := by decide +kernel
theorem dX0_push_13 : decode cX0_push 13 = .ok (.iconst 5, 1) := by decide +kernel
theorem dX0_push_14 : decode cX0_push 14 = .ok (.aload_n 0, 1) := by decide +kernel
theorem dX0_push_15 : decode cX0_push 15 = .ok (.getfield 11, 3) := by decide +kernel
theorem dX0_push_18 : decode cX0_push 18 = .ok (.iconst 0, 1) := by decide +kernel
theorem dX0_push_19 : decode cX0_push 19 = .ok (.aload_n 0, 1) := by decide +kernel
theorem dX0_push_20 : decode cX0_push 20 = .ok (.getfield 11, 3) := by decide +kernel
theorem dX0_push_23 : decode cX0_push 23 = .ok (.arraylength, 1) := by decide +kernel
theorem dX0_push_24 : decode cX0_push 24 = .ok (.iconst 5, 1) := by decide +kernel
theorem dX0_push_25 : decode cX0_push 25 = .ok (.isub, 1) := by decide +kernel
theorem dX0_push_26 : decode cX0_push 26 = .ok (.invokestatic 21, 3) := by decide +kernel
theorem dX0_push_29 : decode cX0_push 29 = .ok (.aload_n 0, 1) := by decide +kernel
theorem dX0_push_30 : decode cX0_push 30 = .ok (.bipush 13, 2) := by decide +kernel
theorem dX0_push_32 : decode cX0_push 32 = .ok (.putfield 17, 3) := by decide +kernel
theorem dX0_push_35 : decode cX0_push 35 = .ok (.aload_n 1, 1) := by decide +kernel
theorem dX0_push_36 : decode cX0_push 36 = .ok (.aload_n 0, 1) := by decide +kernel
theorem dX0_push_37 : decode cX0_push 37 = .ok (.getfield 11, 3) := by decide +kernel
theorem dX0_push_40 : decode cX0_push 40 = .ok (.aload_n 0, 1) := by decide +kernel
theorem dX0_push_41 : decode cX0_push 41 = .ok (.getfield 17, 3) := by decide +kernel
theorem dX0_push_44 : decode cX0_push 44 = .ok (.invokevirtual 27, 3) := by decide +kernel
theorem dX0_push_47 : decode cX0_push 47 = .ok (.aload_n 0, 1) := by decide +kernel
theorem dX0_push_48 : decode cX0_push 48 = .ok (.dup, 1) := by decide +kernel
theorem dX0_push_49 : decode cX0_push 49 = .ok (.getfield 17, 3) := by decide +kernel
theorem dX0_push_52 : decode cX0_push 52 = .ok (.iconst 1, 1) := by decide +kernel
theorem dX0_push_53 : decode cX0_push 53 = .ok (.iadd, 1) := by decide +kernel
theorem dX0_push_54 : decode cX0_push 54 = .ok (.putfield 17, 3) := by decide +kernel
theorem dX0_push_57 : decode cX0_push 57 = .ok (.return_, 1) := by decide +kernel
set_option maxRecDepth 20000 in
theorem ggX0_pop_X4_loadFrom : GoodIn wsX0_pop wsX4_loadFrom := goodIn_r _ [7, 8, 9, 10, 11, 12, 13, 14, 15, 18, 19, 20, 21, 22, 23] (by decide +kernel) (by decide +kernel)
set_option maxRecDepth 20000 in
theorem gX0_pop_X4_loadFrom : GoodIn wsX0_pop (wsV RX0 31 RX4 yX4_loadFrom wsX4_loadFrom) := goodIn_app (goodIn_of _ (by decide +kernel)) ggX0_pop_X4_loadFrom
theorem dX0_pop_0 : decode cX0_pop 0 = .ok (.aload_n 0, 1) := by decide +kernel
theorem dX0_pop_1 : decode cX0_pop 1 = .ok (.getfield 17, 3) := by decide +kernel
theorem dX0_pop_4 : decode cX0_pop 4 = .ok (.ifCond .le 25, 3) := by decide +kernel
theorem dX0_pop_7 : decode cX0_pop 7 = .ok (.aload_n 0, 1) := by decide +kernel
theorem dX0_pop_8 : decode cX0_pop 8 = .ok (.dup, 1) := by decide +kernel
theorem dX0_pop_9 : decode cX0_pop 9 = .ok (.getfield 17, 3) := by decide +kernel
theorem dX0_pop_12 : decode cX0_pop 12 = .ok (.iconst 1, 1) := by decide +kernel
theorem dX0_pop_13 : decode cX0_pop 13 = .ok (.isub, 1) := by decide +kernel
theorem dX0_pop_14 : decode cX0_pop 14 = .ok (.putfield 17, 3) := by decide +kernel
theorem dX0_pop_17 : decode cX0_pop 17 = .ok (.aload_n 1, 1) := by decide +kernel
theorem dX0_pop_18 : decode cX0_pop 18 = .ok (.aload_n 0, 1) := by decide +kernel
theorem dX0_pop_19 : decode cX0_pop 19 = .ok (.getfield 11, 3) := by decide +kernel
theorem dX0_pop_22 : decode cX0_pop 22 = .ok (.aload_n 0, 1) := by decide +kernel
theorem dX0_pop_23 : decode cX0_pop 23 = .ok (.getfield 17, 3) := by decide +kernel
theorem dX0_pop_26 : decode cX0_pop 26 = .ok (.invokevirtual 31, 3) := by decide +kernel
theorem dX0_pop_29 : decode cX0_pop 29 = .ok (.aload_n 0, 1) := by decide +kernel
theorem dX0_pop_30 : decode cX0_pop 30 = .ok (.getfield 17, 3) := by decide +kernel
theorem dX0_pop_33 : decode cX0_pop 33 = .ok (.ireturn, 1) := by decide +kernel
theorem dX1_init_0 : decode cX1_init 0 = .ok (.aload_n 0, 1) := by decide +kernel
theorem dX1_init_1 : decode cX1_init 1 = .ok (.invokespecial 3, 3) := by decide +kernel
theorem dX1_init_4 : decode cX1_init 4 = .ok (.aload_n 0, 1) := by decide +kernel
theorem dX1_init_5 : decode cX1_init 5 = .ok (.iconst 5, 1) := by decide +kernel
theorem dX1_init_6 : decode cX1_init 6 = .ok (.newarray .int, 2) := by decide +kernel
theorem dX1_init_8 : decode cX1_init 8 = .ok (.putfield 9, 3) := by decide +kernel
theorem dX1_init_11 : decode cX1_init 11 = .ok (.aload_n 0, 1) := by decide +kernel
theorem dX1_init_12 : decode cX1_init 12 = .ok (.iconst 5, 1) := by decide +kernel
theorem dX1_init_13 : decode cX1_init 13 = .ok (.newarray .int, 2) := by decide +kernel
theorem dX1_init_15 : decode cX1_init 15 = .ok (.putfield 15, 3) := by decide +kernel
theorem dX1_init_18 : decode cX1_init 18 = .ok (.aload_n 0, 1) := by decide +kernel
theorem dX1_init_19 : decode cX1_init 19 = .ok (.iconst 5, 1) := by decide +kernel
theorem dX1_init_20 : decode cX1_init 20 = .ok (.newarray .int, 2) := by decide +kernel
theorem dX1_init_22 : decode cX1_init 22 = .ok (.putfield 18, 3) := by decide +kernel
theorem dX1_init_25 : decode cX1_init 25 = .ok (.aload_n 0, 1) := by decide +kernel
theorem dX1_init_26 : decode cX1_init 26 = .ok (.iconst 5, 1) := by decide +kernel
theorem dX1_init_27 : decode cX1_init 27 = .ok (.newarray .int, 2) := by decide +kernel
theorem dX1_init_29 : decode cX1_init 29 = .ok (.putfield 21, 3) := by decide +kernel
theorem dX1_init_32 : decode cX1_init 32 = .ok (.aload_n 0, 1) := by decide +kernel
theorem dX1_init_33 : decode cX1_init 33 = .ok (.iconst 5, 1) := by decide +kernel
theorem dX1_init_34 : decode cX1_init 34 = .ok (.newarray .int, 2) := by decide +kernel
theorem dX1_init_36 : decode cX1_init 36 = .ok (.putfield 24, 3) := by decide +kernel
theorem dX1_init_39 : decode cX1_init 39 = .ok (.aload_n 0, 1) := by decide +kernel
theorem dX1_init_40 : decode cX1_init 40 = .ok (.iconst 5, 1) := by decide +kernel
theorem dX1_init_41 : decode cX1_init 41 = .ok (.newarray .int, 2) := by decide +kernel
theorem dX1_init_43 : decode cX1_init 43 = .ok (.putfield 27, 3) := by decide +kernel
theorem dX1_init_46 : decode cX1_init 46 = .ok (.aload_n 0, 1) := by decide +kernel
theorem dX1_init_47 : decode cX1_init 47 = .ok (.iconst 5, 1) := by decide +kernel
theorem dX1_init_48 : decode cX1_init 48 = .ok (.newarray .int, 2) := by decide +kernel
theorem dX1_init_50 : decode cX1_init 50 = .ok (.putfield 30, 3) := by decide +kernel
theorem dX1_init_53 : decode cX1_init 53 = .ok (.aload_n 0, 1) := by decide +kernel
theorem dX1_init_54 : decode cX1_init 54 = .ok (.iconst 5, 1) := by decide +kernel
theorem dX1_init_55 : decode cX1_init 55 = .ok (.newarray .int, 2) := by decide +kernel
theorem dX1_init_57 : decode cX1_init 57 = .ok (.putfield 33, 3) := by decide +kernel
theorem dX1_init_60 : decode cX1_init 60 = .ok (.aload_n 0, 1) := by decide +kernel
theorem dX1_init_61 : decode cX1_init 61 = .ok (.iconst 0, 1) := by decide +kernel
theorem dX1_init_62 : decode cX1_init 62 = .ok (.putfield 36, 3) := by decide +kernel
theorem dX1_init_65 : decode cX1_init 65 = .ok (.aload_n 0, 1) := by decide +kernel
theorem dX1_init_66 : decode cX1_init 66 = .ok (.iconst 0, 1) := by decide +kernel
theorem dX1_init_67 : decode cX1_init 67 = .ok (.putfield 40, 3) := by decide +kernel
theorem dX1_init_70 : decode cX1_init 70 = .ok (.aload_n 0, 1) := by decide +kernel
theorem dX1_init_71 : decode cX1_init 71 = .ok (.iconst 0, 1) := by decide +kernel
theorem dX1_init_72 : decode cX1_init 72 = .ok (.putfield 43, 3) := by decide +kernel
theorem dX1_init_75 : decode cX1_init 75 = .ok (.return_, 1) := by decide +kernel
theorem dX1_clear_0 : decode cX1_clear 0 = .ok (.aload_n 0, 1) := by decide +kernel
theorem dX1_clear_1 : decode cX1_clear 1 = .ok (.iconst 0, 1) := by decide +kernel
theorem dX1_clear_2 : decode cX1_clear 2 = .ok (.putfield 36, 3) := by decide +kernel
theorem dX1_clear_5 : decode cX1_clear 5 = .ok (.aload_n 0, 1) := by decide +kernel
theorem dX1_clear_6 : decode cX1_clear 6 = .ok (.iconst 0, 1) := by decide +kernel
theorem dX1_clear_7 : decode cX1_clear 7 = .ok (.putfield 40, 3) := by decide +kernel
theorem dX1_clear_10 : decode cX1_clear 10 = .ok (.aload_n 0, 1) := by decide +kernel
theorem dX1_clear_11 : decode cX1_clear 11 = .ok (.iconst 0, 1) := by decide +kernel
theorem dX1_clear_12 : decode cX1_clear 12 = .ok (.putfield 43, 3) := by decide +kernel
theorem dX1_clear_15 : decode cX1_clear 15 = .ok (.return_, 1) := by decide +kernel
set_option maxRecDepth 20000 in
theorem ggX1_addPerson_X6_put : GoodIn wsX1_addPerson wsX6_put := goodIn_r _ [6] (by decide +kernel) (by decide +kernel)
set_option maxRecDepth 20000 in
theorem gX1_addPerson_X6_put_n46 : GoodIn wsX1_addPerson (wsX6_put) := ggX1_addPerson_X6_put
theorem dX1_addPerson_0 : decode cX1_addPerson 0 = .ok (.aload_n 0, 1) := by decide +kernel
theorem dX1_addPerson_1 : decode cX1_addPerson 1 = .ok (.getfield 9, 3) := by decide +kernel
theorem dX1_addPerson_4 : decode cX1_addPerson 4 = .ok (.aload_n 0, 1) := by decide +kernel
theorem dX1_addPerson_5 : decode cX1_addPerson 5 = .ok (.getfield 36, 3) := by decide +kernel
theorem dX1_addPerson_8 : decode cX1_addPerson 8 = .ok (.iload_n 1, 1) := by decide +kernel
theorem dX1_addPerson_9 : decode cX1_addPerson 9 = .ok (.invokestatic 46, 3) := by decide +kernel
theorem dX1_addPerson_12 : decode cX1_addPerson 12 = .ok (.aload_n 0, 1) := by decide +kernel
theorem dX1_addPerson_13 : decode cX1_addPerson 13 = .ok (.getfield 15, 3) := by decide +kernel
theorem dX1_addPerson_16 : decode cX1_addPerson 16 = .ok (.aload_n 0, 1) := by decide +kernel
theorem dX1_addPerson_17 : decode cX1_addPerson 17 = .ok (.getfield 36, 3) := by decide +kernel
theorem dX1_addPerson_20 : decode cX1_addPerson 20 = .ok (.iload_n 2, 1) := by decide +kernel
theorem dX1_addPerson_21 : decode cX1_addPerson 21 = .ok (.invokestatic 46, 3) := by decide +kernel
theorem dX1_addPerson_24 : decode cX1_addPerson 24 = .ok (.aload_n 0, 1) := by decide +kernel
theorem dX1_addPerson_25 : decode cX1_addPerson 25 = .ok (.dup, 1) := by decide +kernel
theorem dX1_addPerson_26 : decode cX1_addPerson 26 = .ok (.getfield 36, 3) := by decide +kernel
theorem dX1_addPerson_29 : decode cX1_addPerson 29 = .ok (.iconst 1, 1) := by decide +kernel
theorem dX1_addPerson_30 : decode cX1_addPerson 30 = .ok (.iadd, 1) := by decide +kernel
theorem dX1_addPerson_31 : decode cX1_addPerson 31 = .ok (.putfield 36, 3) := by decide +kernel
theorem dX1_addPerson_34 : decode cX1_addPerson 34 = .ok (.return_, 1) := by decide +kernel
set_option maxRecDepth 20000 in
theorem ggX1_addSky_X6_put : GoodIn wsX1_addSky wsX6_put := goodIn_r _ [6] (by decide +kernel) (by decide +kernel)
set_option maxRecDepth 20000 in
theorem gX1_addSky_X6_put_n46 : GoodIn wsX1_addSky (wsX6_put) := ggX1_addSky_X6_put
theorem dX1_addSky_0 : decode cX1_addSky 0 = .ok (.aload_n 0, 1) := by decide +kernel
theorem dX1_addSky_1 : decode cX1_addSky 1 = .ok (.getfield 18, 3) := by decide +kernel
theorem dX1_addSky_4 : decode cX1_addSky 4 = .ok (.aload_n 0, 1) := by decide +kernel
theorem dX1_addSky_5 : decode cX1_addSky 5 = .ok (.getfield 40, 3) := by decide +kernel
theorem dX1_addSky_8 : decode cX1_addSky 8 = .ok (.iload_n 1, 1) := by decide +kernel
theorem dX1_addSky_9 : decode cX1_addSky 9 = .ok (.invokestatic 46, 3) := by decide +kernel
theorem dX1_addSky_12 : decode cX1_addSky 12 = .ok (.aload_n 0, 1) := by decide +kernel
theorem dX1_addSky_13 : decode cX1_addSky 13 = .ok (.getfield 21, 3) := by decide +kernel
theorem dX1_addSky_16 : decode cX1_addSky 16 = .ok (.aload_n 0, 1) := by decide +kernel
theorem dX1_addSky_17 : decode cX1_addSky 17 = .ok (.getfield 40, 3) := by decide +kernel
theorem dX1_addSky_20 : decode cX1_addSky 20 = .ok (.iload_n 2, 1) := by decide +kernel
theorem dX1_addSky_21 : decode cX1_addSky 21 = .ok (.invokestatic 46, 3) := by decide +kernel
theorem dX1_addSky_24 : decode cX1_addSky 24 = .ok (.aload_n 0, 1) := by decide +kernel
theorem dX1_addSky_25 : decode cX1_addSky 25 = .ok (.dup, 1) := by decide +kernel
theorem dX1_addSky_26 : decode cX1_addSky 26 = .ok (.getfield 40, 3) := by decide +kernel
theorem dX1_addSky_29 : decode cX1_addSky 29 = .ok (.iconst 1, 1) := by decide +kernel
theorem dX1_addSky_30 : decode cX1_addSky 30 = .ok (.iadd, 1) := by decide +kernel
theorem dX1_addSky_31 : decode cX1_addSky 31 = .ok (.putfield 40, 3) := by decide +kernel
theorem dX1_addSky_34 : decode cX1_addSky 34 = .ok (.return_, 1) := by decide +kernel
set_option maxRecDepth 20000 in
theorem ggX1_addOath_X6_put : GoodIn wsX1_addOath wsX6_put := goodIn_r _ [8] (by decide +kernel) (by decide +kernel)
set_option maxRecDepth 20000 in
theorem gX1_addOath_X6_put_n46 : GoodIn wsX1_addOath (wsX6_put) := ggX1_addOath_X6_put
theorem dX1_addOath_0 : decode cX1_addOath 0 = .ok (.aload_n 0, 1) := by decide +kernel
theorem dX1_addOath_1 : decode cX1_addOath 1 = .ok (.getfield 24, 3) := by decide +kernel
theorem dX1_addOath_4 : decode cX1_addOath 4 = .ok (.aload_n 0, 1) := by decide +kernel
theorem dX1_addOath_5 : decode cX1_addOath 5 = .ok (.getfield 43, 3) := by decide +kernel
theorem dX1_addOath_8 : decode cX1_addOath 8 = .ok (.iload_n 1, 1) := by decide +kernel
theorem dX1_addOath_9 : decode cX1_addOath 9 = .ok (.invokestatic 46, 3) := by decide +kernel
theorem dX1_addOath_12 : decode cX1_addOath 12 = .ok (.aload_n 0, 1) := by decide +kernel
theorem dX1_addOath_13 : decode cX1_addOath 13 = .ok (.getfield 27, 3) := by decide +kernel
theorem dX1_addOath_16 : decode cX1_addOath 16 = .ok (.aload_n 0, 1) := by decide +kernel
theorem dX1_addOath_17 : decode cX1_addOath 17 = .ok (.getfield 43, 3) := by decide +kernel
theorem dX1_addOath_20 : decode cX1_addOath 20 = .ok (.iload_n 2, 1) := by decide +kernel
theorem dX1_addOath_21 : decode cX1_addOath 21 = .ok (.invokestatic 46, 3) := by decide +kernel
theorem dX1_addOath_24 : decode cX1_addOath 24 = .ok (.aload_n 0, 1) := by decide +kernel
theorem dX1_addOath_25 : decode cX1_addOath 25 = .ok (.getfield 30, 3) := by decide +kernel
theorem dX1_addOath_28 : decode cX1_addOath 28 = .ok (.aload_n 0, 1) := by decide +kernel
theorem dX1_addOath_29 : decode cX1_addOath 29 = .ok (.getfield 43, 3) := by decide +kernel
theorem dX1_addOath_32 : decode cX1_addOath 32 = .ok (.iload_n 3, 1) := by decide +kernel
theorem dX1_addOath_33 : decode cX1_addOath 33 = .ok (.invokestatic 46, 3) := by decide +kernel
theorem dX1_addOath_36 : decode cX1_addOath 36 = .ok (.aload_n 0, 1) := by decide +kernel
theorem dX1_addOath_37 : decode cX1_addOath 37 = .ok (.getfield 33, 3) := by decide +kernel
theorem dX1_addOath_40 : decode cX1_addOath 40 = .ok (.aload_n 0, 1) := by decide +kernel
theorem dX1_addOath_41 : decode cX1_addOath 41 = .ok (.getfield 43, 3) := by decide +kernel
theorem dX1_addOath_44 : decode cX1_addOath 44 = .ok (.iload 4, 2) := by decide +kernel
theorem dX1_addOath_46 : decode cX1_addOath 46 = .ok (.invokestatic 46, 3) := by decide +kernel
theorem dX1_addOath_49 : decode cX1_addOath 49 = .ok (.aload_n 0, 1) := by decide +kernel
theorem dX1_addOath_50 : decode cX1_addOath 50 = .ok (.dup, 1) := by decide +kernel
theorem dX1_addOath_51 : decode cX1_addOath 51 = .ok (.getfield 43, 3) := by decide +kernel
theorem dX1_addOath_54 : decode cX1_addOath 54 = .ok (.iconst 1, 1) := by decide +kernel
theorem dX1_addOath_55 : decode cX1_addOath 55 = .ok (.iadd, 1) := by decide +kernel
theorem dX1_addOath_56 : decode cX1_addOath 56 = .ok (.putfield 43, 3) := by decide +kernel
theorem dX1_addOath_59 : decode cX1_addOath 59 = .ok (.return_, 1) := by decide +kernel
set_option maxRecDepth 20000 in
theorem ggX1_hasPerson_X6_within : GoodIn wsX1_hasPerson wsX6_within := goodIn_r _ [4] (by decide +kernel) (by decide +kernel)
set_option maxRecDepth 20000 in
theorem gX1_hasPerson_X6_within_n50 : GoodIn wsX1_hasPerson (wsX6_within) := ggX1_hasPerson_X6_within
theorem dX1_hasPerson_0 : decode cX1_hasPerson 0 = .ok (.iload_n 1, 1) := by decide +kernel
theorem dX1_hasPerson_1 : decode cX1_hasPerson 1 = .ok (.iconst 0, 1) := by decide +kernel
theorem dX1_hasPerson_2 : decode cX1_hasPerson 2 = .ok (.aload_n 0, 1) := by decide +kernel
theorem dX1_hasPerson_3 : decode cX1_hasPerson 3 = .ok (.getfield 36, 3) := by decide +kernel
theorem dX1_hasPerson_6 : decode cX1_hasPerson 6 = .ok (.iconst 1, 1) := by decide +kernel
theorem dX1_hasPerson_7 : decode cX1_hasPerson 7 = .ok (.isub, 1) := by decide +kernel
theorem dX1_hasPerson_8 : decode cX1_hasPerson 8 = .ok (.invokestatic 50, 3) := by decide +kernel
theorem dX1_hasPerson_11 : decode cX1_hasPerson 11 = .ok (.ireturn, 1) := by decide +kernel
set_option maxRecDepth 20000 in
theorem ggX1_hasOath_X6_within : GoodIn wsX1_hasOath wsX6_within := goodIn_r _ [4] (by decide +kernel) (by decide +kernel)
set_option maxRecDepth 20000 in
theorem gX1_hasOath_X6_within_n50 : GoodIn wsX1_hasOath (wsX6_within) := ggX1_hasOath_X6_within
theorem dX1_hasOath_0 : decode cX1_hasOath 0 = .ok (.iload_n 1, 1) := by decide +kernel
theorem dX1_hasOath_1 : decode cX1_hasOath 1 = .ok (.iconst 0, 1) := by decide +kernel
theorem dX1_hasOath_2 : decode cX1_hasOath 2 = .ok (.aload_n 0, 1) := by decide +kernel
theorem dX1_hasOath_3 : decode cX1_hasOath 3 = .ok (.getfield 43, 3) := by decide +kernel
theorem dX1_hasOath_6 : decode cX1_hasOath 6 = .ok (.iconst 1, 1) := by decide +kernel
theorem dX1_hasOath_7 : decode cX1_hasOath 7 = .ok (.isub, 1) := by decide +kernel
theorem dX1_hasOath_8 : decode cX1_hasOath 8 = .ok (.invokestatic 50, 3) := by decide +kernel
theorem dX1_hasOath_11 : decode cX1_hasOath 11 = .ok (.ireturn, 1) := by decide +kernel
set_option maxRecDepth 20000 in
theorem ggX1_isOf_X1_hasPerson : GoodIn wsX1_isOf wsX1_hasPerson := goodIn_r _ [6, 7, 8, 9, 10, 13, 14, 15, 16, 17, 18, 19, 20, 21, 22, 23] (by decide +kernel) (by decide +kernel)
set_option maxRecDepth 20000 in
theorem gX1_isOf_X1_hasPerson : GoodIn wsX1_isOf (wsV RX1 54 RX1 yX1_hasPerson wsX1_hasPerson) := goodIn_app (goodIn_of _ (by decide +kernel)) ggX1_isOf_X1_hasPerson
set_option maxRecDepth 20000 in
theorem ggX1_isOf_X6_at : GoodIn wsX1_isOf wsX6_at := goodIn_r _ [12] (by decide +kernel) (by decide +kernel)
set_option maxRecDepth 20000 in
theorem gX1_isOf_X6_at_n58 : GoodIn wsX1_isOf (wsX6_at) := ggX1_isOf_X6_at
theorem dX1_isOf_0 : decode cX1_isOf 0 = .ok (.aload_n 0, 1) := by decide +kernel
theorem dX1_isOf_1 : decode cX1_isOf 1 = .ok (.iload_n 1, 1) := by decide +kernel
theorem dX1_isOf_2 : decode cX1_isOf 2 = .ok (.invokevirtual 54, 3) := by decide +kernel
theorem dX1_isOf_5 : decode cX1_isOf 5 = .ok (.ifCond .eq 19, 3) := by decide +kernel
theorem dX1_isOf_8 : decode cX1_isOf 8 = .ok (.aload_n 0, 1) := by decide +kernel
theorem dX1_isOf_9 : decode cX1_isOf 9 = .ok (.getfield 15, 3) := by decide +kernel
theorem dX1_isOf_12 : decode cX1_isOf 12 = .ok (.iload_n 1, 1) := by decide +kernel
theorem dX1_isOf_13 : decode cX1_isOf 13 = .ok (.invokestatic 58, 3) := by decide +kernel
theorem dX1_isOf_16 : decode cX1_isOf 16 = .ok (.iload_n 2, 1) := by decide +kernel
theorem dX1_isOf_17 : decode cX1_isOf 17 = .ok (.if_icmp .ne 7, 3) := by decide +kernel
theorem dX1_isOf_20 : decode cX1_isOf 20 = .ok (.iconst 1, 1) := by decide +kernel
theorem dX1_isOf_21 : decode cX1_isOf 21 = .ok (.goto 4, 3) := by decide +kernel
theorem dX1_isOf_24 : decode cX1_isOf 24 = .ok (.iconst 0, 1) := by decide +kernel
theorem dX1_isOf_25 : decode cX1_isOf 25 = .ok (.ireturn, 1) := by decide +kernel
set_option maxRecDepth 20000 in
theorem ggX1_canTurnWool_X1_isOf : GoodIn wsX1_canTurnWool wsX1_isOf := goodIn_r _ [5, 6, 7, 8, 9, 4, 10, 11, 12, 13, 14, 15, 16, 17, 18, 19, 20, 21, 22, 23, 24, 25, 26, 27] (by decide +kernel) (by decide +kernel)
set_option maxRecDepth 20000 in
theorem gX1_canTurnWool_X1_isOf : GoodIn wsX1_canTurnWool (wsV RX1 62 RX1 yX1_isOf wsX1_isOf) := goodIn_app (goodIn_of _ (by decide +kernel)) ggX1_canTurnWool_X1_isOf
theorem dX1_canTurnWool_0 : decode cX1_canTurnWool 0 = .ok (.aload_n 0, 1) := by decide +kernel
theorem dX1_canTurnWool_1 : decode cX1_canTurnWool 1 = .ok (.iload_n 1, 1) := by decide +kernel
theorem dX1_canTurnWool_2 : decode cX1_canTurnWool 2 = .ok (.iconst 0, 1) := by decide +kernel
theorem dX1_canTurnWool_3 : decode cX1_canTurnWool 3 = .ok (.invokevirtual 62, 3) := by decide +kernel
theorem dX1_canTurnWool_6 : decode cX1_canTurnWool 6 = .ok (.ifCond .ne 12, 3) := by decide +kernel
theorem dX1_canTurnWool_9 : decode cX1_canTurnWool 9 = .ok (.aload_n 0, 1) := by decide +kernel
theorem dX1_canTurnWool_10 : decode cX1_canTurnWool 10 = .ok (.iload_n 1, 1) := by decide +kernel
theorem dX1_canTurnWool_11 : decode cX1_canTurnWool 11 = .ok (.iconst 3, 1) := by decide +kernel
theorem dX1_canTurnWool_12 : decode cX1_canTurnWool 12 = .ok (.invokevirtual 62, 3) := by decide +kernel
theorem dX1_canTurnWool_15 : decode cX1_canTurnWool 15 = .ok (.ifCond .eq 7, 3) := by decide +kernel
theorem dX1_canTurnWool_18 : decode cX1_canTurnWool 18 = .ok (.iconst 1, 1) := by decide +kernel
theorem dX1_canTurnWool_19 : decode cX1_canTurnWool 19 = .ok (.goto 4, 3) := by decide +kernel
theorem dX1_canTurnWool_22 : decode cX1_canTurnWool 22 = .ok (.iconst 0, 1) := by decide +kernel
theorem dX1_canTurnWool_23 : decode cX1_canTurnWool 23 = .ok (.ireturn, 1) := by decide +kernel
set_option maxRecDepth 20000 in
theorem ggX1_skyOn_J9_floorMod_7cf53 : GoodIn wsX1_skyOn wsJ9_floorMod_7cf53 := goodIn_r _ [9] (by decide +kernel) (by decide +kernel)
set_option maxRecDepth 20000 in
theorem gX1_skyOn_J9_floorMod_7cf53 : GoodIn wsX1_skyOn (va_wsS RX1 72 yJ9_floorMod_7cf53 wsJ9_floorMod_7cf53) := goodIn_app (goodIn_of _ (by decide +kernel)) ggX1_skyOn_J9_floorMod_7cf53
theorem dX1_skyOn_0 : decode cX1_skyOn 0 = .ok (.aload_n 0, 1) := by decide +kernel
theorem dX1_skyOn_1 : decode cX1_skyOn 1 = .ok (.getfield 40, 3) := by decide +kernel
theorem dX1_skyOn_4 : decode cX1_skyOn 4 = .ok (.ifCond .le 18, 3) := by decide +kernel
theorem dX1_skyOn_7 : decode cX1_skyOn 7 = .ok (.iload_n 1, 1) := by decide +kernel
theorem dX1_skyOn_8 : decode cX1_skyOn 8 = .ok (.iconst 1, 1) := by decide +kernel
theorem dX1_skyOn_9 : decode cX1_skyOn 9 = .ok (.aload_n 0, 1) := by decide +kernel
theorem dX1_skyOn_10 : decode cX1_skyOn 10 = .ok (.getfield 40, 3) := by decide +kernel
theorem dX1_skyOn_13 : decode cX1_skyOn 13 = .ok (.invokestatic 66, 3) := by decide +kernel
theorem dX1_skyOn_16 : decode cX1_skyOn 16 = .ok (.invokestatic 72, 3) := by decide +kernel
theorem dX1_skyOn_19 : decode cX1_skyOn 19 = .ok (.goto 5, 3) := by decide +kernel
theorem dX1_skyOn_22 : decode cX1_skyOn 22 = .ok (.bipush (-9), 2) := by decide +kernel
theorem dX1_skyOn_24 : decode cX1_skyOn 24 = .ok (.ireturn, 1) := by decide +kernel
set_option maxRecDepth 20000 in
theorem ggX1_oathsOf_X6_at : GoodIn wsX1_oathsOf wsX6_at := goodIn_r _ [6] (by decide +kernel) (by decide +kernel)
set_option maxRecDepth 20000 in
theorem gX1_oathsOf_X6_at_n58 : GoodIn wsX1_oathsOf (wsX6_at) := ggX1_oathsOf_X6_at
theorem dX1_oathsOf_0 : decode cX1_oathsOf 0 = .ok (.iconst 0, 1) := by decide +kernel
theorem dX1_oathsOf_1 : decode cX1_oathsOf 1 = .ok (.istore_n 2, 1) := by decide +kernel
theorem dX1_oathsOf_2 : decode cX1_oathsOf 2 = .ok (.iconst 0, 1) := by decide +kernel
theorem dX1_oathsOf_3 : decode cX1_oathsOf 3 = .ok (.istore_n 3, 1) := by decide +kernel
theorem dX1_oathsOf_4 : decode cX1_oathsOf 4 = .ok (.iload_n 3, 1) := by decide +kernel
theorem dX1_oathsOf_5 : decode cX1_oathsOf 5 = .ok (.aload_n 0, 1) := by decide +kernel
theorem dX1_oathsOf_6 : decode cX1_oathsOf 6 = .ok (.getfield 43, 3) := by decide +kernel
theorem dX1_oathsOf_9 : decode cX1_oathsOf 9 = .ok (.if_icmp .ge 39, 3) := by decide +kernel
theorem dX1_oathsOf_12 : decode cX1_oathsOf 12 = .ok (.aload_n 0, 1) := by decide +kernel
theorem dX1_oathsOf_13 : decode cX1_oathsOf 13 = .ok (.getfield 24, 3) := by decide +kernel
theorem dX1_oathsOf_16 : decode cX1_oathsOf 16 = .ok (.iload_n 3, 1) := by decide +kernel
theorem dX1_oathsOf_17 : decode cX1_oathsOf 17 = .ok (.invokestatic 58, 3) := by decide +kernel
theorem dX1_oathsOf_20 : decode cX1_oathsOf 20 = .ok (.iload_n 1, 1) := by decide +kernel
theorem dX1_oathsOf_21 : decode cX1_oathsOf 21 = .ok (.if_icmp .eq 15, 3) := by decide +kernel
theorem dX1_oathsOf_24 : decode cX1_oathsOf 24 = .ok (.aload_n 0, 1) := by decide +kernel
theorem dX1_oathsOf_25 : decode cX1_oathsOf 25 = .ok (.getfield 27, 3) := by decide +kernel
theorem dX1_oathsOf_28 : decode cX1_oathsOf 28 = .ok (.iload_n 3, 1) := by decide +kernel
theorem dX1_oathsOf_29 : decode cX1_oathsOf 29 = .ok (.invokestatic 58, 3) := by decide +kernel
theorem dX1_oathsOf_32 : decode cX1_oathsOf 32 = .ok (.iload_n 1, 1) := by decide +kernel
theorem dX1_oathsOf_33 : decode cX1_oathsOf 33 = .ok (.if_icmp .ne 9, 3) := by decide +kernel
theorem dX1_oathsOf_36 : decode cX1_oathsOf 36 = .ok (.iload_n 2, 1) := by decide +kernel
theorem dX1_oathsOf_37 : decode cX1_oathsOf 37 = .ok (.iconst 1, 1) := by decide +kernel
theorem dX1_oathsOf_38 : decode cX1_oathsOf 38 = .ok (.iload_n 3, 1) := by decide +kernel
theorem dX1_oathsOf_39 : decode cX1_oathsOf 39 = .ok (.ishl, 1) := by decide +kernel
theorem dX1_oathsOf_40 : decode cX1_oathsOf 40 = .ok (.ior, 1) := by decide +kernel
theorem dX1_oathsOf_41 : decode cX1_oathsOf 41 = .ok (.istore_n 2, 1) := by decide +kernel
theorem dX1_oathsOf_42 : decode cX1_oathsOf 42 = .ok (.iinc 3 1, 3) := by decide +kernel
theorem dX1_oathsOf_45 : decode cX1_oathsOf 45 = .ok (.goto (-41), 3) := by decide +kernel
theorem dX1_oathsOf_48 : decode cX1_oathsOf 48 = .ok (.iload_n 2, 1) := by decide +kernel
theorem dX1_oathsOf_49 : decode cX1_oathsOf 49 = .ok (.ireturn, 1) := by decide +kernel
set_option maxRecDepth 20000 in
theorem ggX1_worthOf_X6_bit : GoodIn wsX1_worthOf wsX6_bit := goodIn_r _ [5] (by decide +kernel) (by decide +kernel)
set_option maxRecDepth 20000 in
theorem gX1_worthOf_X6_bit_n75 : GoodIn wsX1_worthOf (wsX6_bit) := ggX1_worthOf_X6_bit
set_option maxRecDepth 20000 in
theorem ggX1_worthOf_X6_at : GoodIn wsX1_worthOf wsX6_at := goodIn_r _ [7] (by decide +kernel) (by decide +kernel)
set_option maxRecDepth 20000 in
theorem gX1_worthOf_X6_at_n58 : GoodIn wsX1_worthOf (wsX6_at) := ggX1_worthOf_X6_at
theorem dX1_worthOf_0 : decode cX1_worthOf 0 = .ok (.iconst 0, 1) := by decide +kernel
theorem dX1_worthOf_1 : decode cX1_worthOf 1 = .ok (.istore_n 2, 1) := by decide +kernel
theorem dX1_worthOf_2 : decode cX1_worthOf 2 = .ok (.iconst 0, 1) := by decide +kernel
theorem dX1_worthOf_3 : decode cX1_worthOf 3 = .ok (.istore_n 3, 1) := by decide +kernel
theorem dX1_worthOf_4 : decode cX1_worthOf 4 = .ok (.iload_n 3, 1) := by decide +kernel
theorem dX1_worthOf_5 : decode cX1_worthOf 5 = .ok (.aload_n 0, 1) := by decide +kernel
theorem dX1_worthOf_6 : decode cX1_worthOf 6 = .ok (.getfield 43, 3) := by decide +kernel
theorem dX1_worthOf_9 : decode cX1_worthOf 9 = .ok (.if_icmp .ge 26, 3) := by decide +kernel
theorem dX1_worthOf_12 : decode cX1_worthOf 12 = .ok (.iload_n 2, 1) := by decide +kernel
theorem dX1_worthOf_13 : decode cX1_worthOf 13 = .ok (.iload_n 1, 1) := by decide +kernel
theorem dX1_worthOf_14 : decode cX1_worthOf 14 = .ok (.iload_n 3, 1) := by decide +kernel
theorem dX1_worthOf_15 : decode cX1_worthOf 15 = .ok (.invokestatic 75, 3) := by decide +kernel
theorem dX1_worthOf_18 : decode cX1_worthOf 18 = .ok (.aload_n 0, 1) := by decide +kernel
theorem dX1_worthOf_19 : decode cX1_worthOf 19 = .ok (.getfield 30, 3) := by decide +kernel
theorem dX1_worthOf_22 : decode cX1_worthOf 22 = .ok (.iload_n 3, 1) := by decide +kernel
theorem dX1_worthOf_23 : decode cX1_worthOf 23 = .ok (.invokestatic 58, 3) := by decide +kernel
theorem dX1_worthOf_26 : decode cX1_worthOf 26 = .ok (.imul, 1) := by decide +kernel
theorem dX1_worthOf_27 : decode cX1_worthOf 27 = .ok (.iadd, 1) := by decide +kernel
theorem dX1_worthOf_28 : decode cX1_worthOf 28 = .ok (.istore_n 2, 1) := by decide +kernel
theorem dX1_worthOf_29 : decode cX1_worthOf 29 = .ok (.iinc 3 1, 3) := by decide +kernel
theorem dX1_worthOf_32 : decode cX1_worthOf 32 = .ok (.goto (-28), 3) := by decide +kernel
theorem dX1_worthOf_35 : decode cX1_worthOf 35 = .ok (.iload_n 2, 1) := by decide +kernel
theorem dX1_worthOf_36 : decode cX1_worthOf 36 = .ok (.ireturn, 1) := by decide +kernel
theorem dX2_init_0 : decode cX2_init 0 = .ok (.aload_n 0, 1) := by decide +kernel
theorem dX2_init_1 : decode cX2_init 1 = .ok (.invokespecial 3, 3) := by decide +kernel
theorem dX2_init_4 : decode cX2_init 4 = .ok (.aload_n 0, 1) := by decide +kernel
theorem dX2_init_5 : decode cX2_init 5 = .ok (.bipush 6, 2) := by decide +kernel
theorem dX2_init_7 : decode cX2_init 7 = .ok (.newarray .int, 2) := by decide +kernel
theorem dX2_init_9 : decode cX2_init 9 = .ok (.putfield 9, 3) := by decide +kernel
theorem dX2_init_12 : decode cX2_init 12 = .ok (.aload_n 0, 1) := by decide +kernel
theorem dX2_init_13 : decode cX2_init 13 = .ok (.bipush 6, 2) := by decide +kernel
theorem dX2_init_15 : decode cX2_init 15 = .ok (.newarray .int, 2) := by decide +kernel
theorem dX2_init_17 : decode cX2_init 17 = .ok (.putfield 15, 3) := by decide +kernel
theorem dX2_init_20 : decode cX2_init 20 = .ok (.aload_n 0, 1) := by decide +kernel
theorem dX2_init_21 : decode cX2_init 21 = .ok (.bipush 6, 2) := by decide +kernel
theorem dX2_init_23 : decode cX2_init 23 = .ok (.newarray .int, 2) := by decide +kernel
theorem dX2_init_25 : decode cX2_init 25 = .ok (.putfield 18, 3) := by decide +kernel
theorem dX2_init_28 : decode cX2_init 28 = .ok (.aload_n 0, 1) := by decide +kernel
theorem dX2_init_29 : decode cX2_init 29 = .ok (.iconst 0, 1) := by decide +kernel
theorem dX2_init_30 : decode cX2_init 30 = .ok (.putfield 21, 3) := by decide +kernel
theorem dX2_init_33 : decode cX2_init 33 = .ok (.return_, 1) := by decide +kernel
set_option maxRecDepth 20000 in
theorem ggX2_add_X6_put : GoodIn wsX2_add wsX6_put := goodIn_r _ [7] (by decide +kernel) (by decide +kernel)
set_option maxRecDepth 20000 in
theorem gX2_add_X6_put_n25 : GoodIn wsX2_add (wsX6_put) := ggX2_add_X6_put
theorem dX2_add_0 : decode cX2_add 0 = .ok (.aload_n 0, 1) := by decide +kernel
theorem dX2_add_1 : decode cX2_add 1 = .ok (.getfield 9, 3) := by decide +kernel
theorem dX2_add_4 : decode cX2_add 4 = .ok (.aload_n 0, 1) := by decide +kernel
theorem dX2_add_5 : decode cX2_add 5 = .ok (.getfield 21, 3) := by decide +kernel
theorem dX2_add_8 : decode cX2_add 8 = .ok (.iload_n 1, 1) := by decide +kernel
theorem dX2_add_9 : decode cX2_add 9 = .ok (.invokestatic 25, 3) := by decide +kernel
theorem dX2_add_12 : decode cX2_add 12 = .ok (.aload_n 0, 1) := by decide +kernel
theorem dX2_add_13 : decode cX2_add 13 = .ok (.getfield 15, 3) := by decide +kernel
theorem dX2_add_16 : decode cX2_add 16 = .ok (.aload_n 0, 1) := by decide +kernel
theorem dX2_add_17 : decode cX2_add 17 = .ok (.getfield 21, 3) := by decide +kernel
theorem dX2_add_20 : decode cX2_add 20 = .ok (.iload_n 2, 1) := by decide +kernel
theorem dX2_add_21 : decode cX2_add 21 = .ok (.invokestatic 25, 3) := by decide +kernel
theorem dX2_add_24 : decode cX2_add 24 = .ok (.aload_n 0, 1) := by decide +kernel
theorem dX2_add_25 : decode cX2_add 25 = .ok (.getfield 18, 3) := by decide +kernel
theorem dX2_add_28 : decode cX2_add 28 = .ok (.aload_n 0, 1) := by decide +kernel
theorem dX2_add_29 : decode cX2_add 29 = .ok (.getfield 21, 3) := by decide +kernel
theorem dX2_add_32 : decode cX2_add 32 = .ok (.iload_n 3, 1) := by decide +kernel
theorem dX2_add_33 : decode cX2_add 33 = .ok (.invokestatic 25, 3) := by decide +kernel
theorem dX2_add_36 : decode cX2_add 36 = .ok (.aload_n 0, 1) := by decide +kernel
theorem dX2_add_37 : decode cX2_add 37 = .ok (.dup, 1) := by decide +kernel
theorem dX2_add_38 : decode cX2_add 38 = .ok (.getfield 21, 3) := by decide +kernel
theorem dX2_add_41 : decode cX2_add 41 = .ok (.iconst 1, 1) := by decide +kernel
theorem dX2_add_42 : decode cX2_add 42 = .ok (.iadd, 1) := by decide +kernel
theorem dX2_add_43 : decode cX2_add 43 = .ok (.putfield 21, 3) := by decide +kernel
theorem dX2_add_46 : decode cX2_add 46 = .ok (.aload_n 0, 1) := by decide +kernel
theorem dX2_add_47 : decode cX2_add 47 = .ok (.getfield 21, 3) := by decide +kernel
theorem dX2_add_50 : decode cX2_add 50 = .ok (.ireturn, 1) := by decide +kernel
set_option maxRecDepth 20000 in
theorem ggX2_fits_X6_at : GoodIn wsX2_fits wsX6_at := goodIn_r _ [7] (by decide +kernel) (by decide +kernel)
set_option maxRecDepth 20000 in
theorem gX2_fits_X6_at_n29 : GoodIn wsX2_fits (wsX6_at) := ggX2_fits_X6_at
set_option maxRecDepth 20000 in
theorem ggX2_fits_X6_reaches : GoodIn wsX2_fits wsX6_reaches := goodIn_r _ [9] (by decide +kernel) (by decide +kernel)
set_option maxRecDepth 20000 in
theorem gX2_fits_X6_reaches_n33 : GoodIn wsX2_fits (wsX6_reaches) := ggX2_fits_X6_reaches
theorem dX2_fits_0 : decode cX2_fits 0 = .ok (.iconst 0, 1) := by decide +kernel
theorem dX2_fits_1 : decode cX2_fits 1 = .ok (.istore_n 3, 1) := by decide +kernel
theorem dX2_fits_2 : decode cX2_fits 2 = .ok (.iload_n 3, 1) := by decide +kernel
theorem dX2_fits_3 : decode cX2_fits 3 = .ok (.aload_n 0, 1) := by decide +kernel
theorem dX2_fits_4 : decode cX2_fits 4 = .ok (.getfield 21, 3) := by decide +kernel
theorem dX2_fits_7 : decode cX2_fits 7 = .ok (.if_icmp .ge 65, 3) := by decide +kernel
theorem dX2_fits_10 : decode cX2_fits 10 = .ok (.iload_n 1, 1) := by decide +kernel
theorem dX2_fits_11 : decode cX2_fits 11 = .ok (.iload_n 2, 1) := by decide +kernel
theorem dX2_fits_12 : decode cX2_fits 12 = .ok (.aload_n 0, 1) := by decide +kernel
theorem dX2_fits_13 : decode cX2_fits 13 = .ok (.getfield 9, 3) := by decide +kernel
theorem dX2_fits_16 : decode cX2_fits 16 = .ok (.iload_n 3, 1) := by decide +kernel
theorem dX2_fits_17 : decode cX2_fits 17 = .ok (.invokestatic 29, 3) := by decide +kernel
theorem dX2_fits_20 : decode cX2_fits 20 = .ok (.aload_n 0, 1) := by decide +kernel
theorem dX2_fits_21 : decode cX2_fits 21 = .ok (.getfield 15, 3) := by decide +kernel
theorem dX2_fits_24 : decode cX2_fits 24 = .ok (.iload_n 3, 1) := by decide +kernel
theorem dX2_fits_25 : decode cX2_fits 25 = .ok (.invokestatic 29, 3) := by decide +kernel
theorem dX2_fits_28 : decode cX2_fits 28 = .ok (.iconst 1, 1) := by decide +kernel
theorem dX2_fits_29 : decode cX2_fits 29 = .ok (.if_icmp .ne 7, 3) := by decide +kernel
theorem dX2_fits_32 : decode cX2_fits 32 = .ok (.iconst 1, 1) := by decide +kernel
theorem dX2_fits_33 : decode cX2_fits 33 = .ok (.goto 4, 3) := by decide +kernel
theorem dX2_fits_36 : decode cX2_fits 36 = .ok (.iconst 0, 1) := by decide +kernel
theorem dX2_fits_37 : decode cX2_fits 37 = .ok (.invokestatic 33, 3) := by decide +kernel
theorem dX2_fits_40 : decode cX2_fits 40 = .ok (.istore 4, 2) := by decide +kernel
theorem dX2_fits_42 : decode cX2_fits 42 = .ok (.iload 4, 2) := by decide +kernel
theorem dX2_fits_44 : decode cX2_fits 44 = .ok (.aload_n 0, 1) := by decide +kernel
theorem dX2_fits_45 : decode cX2_fits 45 = .ok (.getfield 18, 3) := by decide +kernel
theorem dX2_fits_48 : decode cX2_fits 48 = .ok (.iload_n 3, 1) := by decide +kernel
theorem dX2_fits_49 : decode cX2_fits 49 = .ok (.invokestatic 29, 3) := by decide +kernel
theorem dX2_fits_52 : decode cX2_fits 52 = .ok (.iconst 1, 1) := by decide +kernel
theorem dX2_fits_53 : decode cX2_fits 53 = .ok (.if_icmp .ne 7, 3) := by decide +kernel
theorem dX2_fits_56 : decode cX2_fits 56 = .ok (.iconst 1, 1) := by decide +kernel
theorem dX2_fits_57 : decode cX2_fits 57 = .ok (.goto 4, 3) := by decide +kernel
theorem dX2_fits_60 : decode cX2_fits 60 = .ok (.iconst 0, 1) := by decide +kernel
theorem dX2_fits_61 : decode cX2_fits 61 = .ok (.if_icmp .eq 5, 3) := by decide +kernel
theorem dX2_fits_64 : decode cX2_fits 64 = .ok (.iconst 0, 1) := by decide +kernel
theorem dX2_fits_65 : decode cX2_fits 65 = .ok (.ireturn, 1) := by decide +kernel
theorem dX2_fits_66 : decode cX2_fits 66 = .ok (.iinc 3 1, 3) := by decide +kernel
theorem dX2_fits_69 : decode cX2_fits 69 = .ok (.goto (-67), 3) := by decide +kernel
theorem dX2_fits_72 : decode cX2_fits 72 = .ok (.iconst 1, 1) := by decide +kernel
theorem dX2_fits_73 : decode cX2_fits 73 = .ok (.ireturn, 1) := by decide +kernel
theorem dX3_init_0 : decode cX3_init 0 = .ok (.aload_n 0, 1) := by decide +kernel
theorem dX3_init_1 : decode cX3_init 1 = .ok (.invokespecial 3, 3) := by decide +kernel
theorem dX3_init_4 : decode cX3_init 4 = .ok (.aload_n 0, 1) := by decide +kernel
theorem dX3_init_5 : decode cX3_init 5 = .ok (.aload_n 1, 1) := by decide +kernel
theorem dX3_init_6 : decode cX3_init 6 = .ok (.putfield 9, 3) := by decide +kernel
theorem dX3_init_9 : decode cX3_init 9 = .ok (.aload_n 0, 1) := by decide +kernel
theorem dX3_init_10 : decode cX3_init 10 = .ok (.iconst 0, 1) := by decide +kernel
theorem dX3_init_11 : decode cX3_init 11 = .ok (.putfield 15, 3) := by decide +kernel
theorem dX3_init_14 : decode cX3_init 14 = .ok (.aload_n 0, 1) := by decide +kernel
theorem dX3_init_15 : decode cX3_init 15 = .ok (.iconst 0, 1) := by decide +kernel
theorem dX3_init_16 : decode cX3_init 16 = .ok (.putfield 19, 3) := by decide +kernel
theorem dX3_init_19 : decode cX3_init 19 = .ok (.return_, 1) := by decide +kernel
set_option maxRecDepth 20000 in
theorem ggX3_readInto_X1_clear : GoodIn wsX3_readInto wsX1_clear := goodIn_r _ [9, 10, 11, 12, 90, 91, 92, 93, 94, 95, 96, 97, 98, 99, 100] (by decide +kernel) (by decide +kernel)
set_option maxRecDepth 20000 in
theorem gX3_readInto_X1_clear : GoodIn wsX3_readInto (wsV RX3 23 RX1 yX1_clear wsX1_clear) := goodIn_app (goodIn_of _ (by decide +kernel)) ggX3_readInto_X1_clear
set_option maxRecDepth 20000 in
theorem ggX3_readInto_X3_readLetter : GoodIn wsX3_readInto wsX3_readLetter := goodIn_r _ [17, 3, 1, 2, 18, 19, 20, 21, 22, 23, 24, 85, 86, 87, 88, 89] (by decide +kernel) (by decide +kernel)
set_option maxRecDepth 20000 in
theorem gX3_readInto_X3_readLetter : GoodIn wsX3_readInto (wsV RX3 28 RX3 yX3_readLetter wsX3_readLetter) := goodIn_app (goodIn_of _ (by decide +kernel)) ggX3_readInto_X3_readLetter
set_option maxRecDepth 20000 in
theorem ggX3_readInto_X3_readPart : GoodIn wsX3_readInto wsX3_readPart := goodIn_r _ [28, 3, 1, 29, 2, 18, 19, 20, 21, 22, 23, 24, 30, 31, 32, 16, 33, 34, 35, 36, 37, 38, 39, 40, 41, 42, 43, 44, 45, 46, 47, 48, 8, 49, 50, 10, 51, 52, 53, 54, 55, 56, 57, 58, 11, 59, 60, 61, 62, 63, 64, 65, 66, 67, 68, 69, 70, 71, 72, 73, 74, 75, 76, 77, 78, 79, 80, 81, 12, 82, 83, 84, 85, 86, 87, 90, 91, 92, 93, 94, 95, 96, 97, 98, 99, 100, 88, 89] (by decide +kernel) (by decide +kernel)
set_option maxRecDepth 20000 in
theorem gX3_readInto_X3_readPart : GoodIn wsX3_readInto (wsV RX3 37 RX3 yX3_readPart wsX3_readPart) := goodIn_app (goodIn_of _ (by decide +kernel)) ggX3_readInto_X3_readPart
theorem dX3_readInto_0 : decode cX3_readInto 0 = .ok (.aload_n 1, 1) := by decide +kernel
theorem dX3_readInto_1 : decode cX3_readInto 1 = .ok (.invokevirtual 23, 3) := by decide +kernel
theorem dX3_readInto_4 : decode cX3_readInto 4 = .ok (.aload_n 0, 1) := by decide +kernel
theorem dX3_readInto_5 : decode cX3_readInto 5 = .ok (.iconst 0, 1) := by decide +kernel
theorem dX3_readInto_6 : decode cX3_readInto 6 = .ok (.putfield 15, 3) := by decide +kernel
theorem dX3_readInto_9 : decode cX3_readInto 9 = .ok (.aload_n 0, 1) := by decide +kernel
theorem dX3_readInto_10 : decode cX3_readInto 10 = .ok (.iconst 0, 1) := by decide +kernel
theorem dX3_readInto_11 : decode cX3_readInto 11 = .ok (.putfield 19, 3) := by decide +kernel
theorem dX3_readInto_14 : decode cX3_readInto 14 = .ok (.aload_n 0, 1) := by decide +kernel
theorem dX3_readInto_15 : decode cX3_readInto 15 = .ok (.bipush 76, 2) := by decide +kernel
theorem dX3_readInto_17 : decode cX3_readInto 17 = .ok (.invokevirtual 28, 3) := by decide +kernel
theorem dX3_readInto_20 : decode cX3_readInto 20 = .ok (.iconst 0, 1) := by decide +kernel
theorem dX3_readInto_21 : decode cX3_readInto 21 = .ok (.istore_n 2, 1) := by decide +kernel
theorem dX3_readInto_22 : decode cX3_readInto 22 = .ok (.iload_n 2, 1) := by decide +kernel
theorem dX3_readInto_23 : decode cX3_readInto 23 = .ok (.bipush 60, 2) := by decide +kernel
theorem dX3_readInto_25 : decode cX3_readInto 25 = .ok (.if_icmp .ge 35, 3) := by decide +kernel
theorem dX3_readInto_28 : decode cX3_readInto 28 = .ok (.aload_n 0, 1) := by decide +kernel
theorem dX3_readInto_29 : decode cX3_readInto 29 = .ok (.getfield 19, 3) := by decide +kernel
theorem dX3_readInto_32 : decode cX3_readInto 32 = .ok (.ifCond .ne 28, 3) := by decide +kernel
theorem dX3_readInto_35 : decode cX3_readInto 35 = .ok (.aload_n 0, 1) := by decide +kernel
theorem dX3_readInto_36 : decode cX3_readInto 36 = .ok (.getfield 15, 3) := by decide +kernel
theorem dX3_readInto_39 : decode cX3_readInto 39 = .ok (.aload_n 0, 1) := by decide +kernel
theorem dX3_readInto_40 : decode cX3_readInto 40 = .ok (.getfield 9, 3) := by decide +kernel
theorem dX3_readInto_43 : decode cX3_readInto 43 = .ok (.getfield 32, 3) := by decide +kernel
theorem dX3_readInto_46 : decode cX3_readInto 46 = .ok (.if_icmp .ge 14, 3) := by decide +kernel
theorem dX3_readInto_49 : decode cX3_readInto 49 = .ok (.aload_n 0, 1) := by decide +kernel
theorem dX3_readInto_50 : decode cX3_readInto 50 = .ok (.aload_n 1, 1) := by decide +kernel
theorem dX3_readInto_51 : decode cX3_readInto 51 = .ok (.invokevirtual 37, 3) := by decide +kernel
theorem dX3_readInto_54 : decode cX3_readInto 54 = .ok (.iinc 2 1, 3) := by decide +kernel
theorem dX3_readInto_57 : decode cX3_readInto 57 = .ok (.goto (-35), 3) := by decide +kernel
theorem dX3_readInto_60 : decode cX3_readInto 60 = .ok (.aload_n 0, 1) := by decide +kernel
theorem dX3_readInto_61 : decode cX3_readInto 61 = .ok (.getfield 19, 3) := by decide +kernel
theorem dX3_readInto_64 : decode cX3_readInto 64 = .ok (.ifCond .eq 10, 3) := by decide +kernel
theorem dX3_readInto_67 : decode cX3_readInto 67 = .ok (.aload_n 0, 1) := by decide +kernel
theorem dX3_readInto_68 : decode cX3_readInto 68 = .ok (.getfield 15, 3) := by decide +kernel
theorem dX3_readInto_71 : decode cX3_readInto 71 = .ok (.goto 5, 3) := by decide +kernel
theorem dX3_readInto_74 : decode cX3_readInto 74 = .ok (.bipush (-9), 2) := by decide +kernel
theorem dX3_readInto_76 : decode cX3_readInto 76 = .ok (.ireturn, 1) := by decide +kernel
set_option maxRecDepth 20000 in
theorem ggX3_readPart_X5_letterAt : GoodIn wsX3_readPart wsX5_letterAt := goodIn_r _ [9, 10, 11, 86, 87] (by decide +kernel) (by decide +kernel)
set_option maxRecDepth 20000 in
theorem gX3_readPart_X5_letterAt : GoodIn wsX3_readPart (wsV RX3 41 RX5 yX5_letterAt wsX5_letterAt) := goodIn_app (goodIn_of _ (by decide +kernel)) ggX3_readPart_X5_letterAt
set_option maxRecDepth 20000 in
theorem ggX3_readPart_X3_readPerson : GoodIn wsX3_readPart wsX3_readPerson := goodIn_r _ [16, 17, 2, 4, 18, 19, 20, 15, 21, 22, 23, 24, 25, 1, 5, 6, 7, 8, 9, 10, 11, 26, 27, 28, 29, 30, 31, 32, 33, 34, 35, 36, 37, 38, 75, 76, 77, 78, 79, 80, 81, 82, 83, 84, 85, 72, 73, 74, 86, 87] (by decide +kernel) (by decide +kernel)
set_option maxRecDepth 20000 in
theorem gX3_readPart_X3_readPerson : GoodIn wsX3_readPart (wsV RX3 45 RX3 yX3_readPerson wsX3_readPerson) := goodIn_app (goodIn_of _ (by decide +kernel)) ggX3_readPart_X3_readPerson
set_option maxRecDepth 20000 in
theorem ggX3_readPart_X3_hasRoom : GoodIn wsX3_readPart wsX3_hasRoom := goodIn_r _ [21, 4, 72, 73, 74] (by decide +kernel) (by decide +kernel)
set_option maxRecDepth 20000 in
theorem gX3_readPart_X3_hasRoom : GoodIn wsX3_readPart (wsV RX3 51 RX3 yX3_hasRoom wsX3_hasRoom) := goodIn_app (goodIn_of _ (by decide +kernel)) ggX3_readPart_X3_hasRoom
set_option maxRecDepth 20000 in
theorem ggX3_readPart_X1_addSky : GoodIn wsX3_readPart wsX1_addSky := goodIn_r _ [42, 43, 44, 45, 37, 27, 38, 75, 76, 77, 78, 79, 80, 81, 82, 83, 84, 85] (by decide +kernel) (by decide +kernel)
set_option maxRecDepth 20000 in
theorem gX3_readPart_X1_addSky : GoodIn wsX3_readPart (wsV RX3 55 RX1 yX1_addSky wsX1_addSky) := goodIn_app (goodIn_of _ (by decide +kernel)) ggX3_readPart_X1_addSky
set_option maxRecDepth 20000 in
theorem ggX3_readPart_X3_readClap : GoodIn wsX3_readPart wsX3_readClap := goodIn_r _ [49, 3, 2, 4, 18, 19, 20, 15, 21, 22, 23, 24, 25, 1, 5, 6, 7, 8, 9, 10, 11, 26, 27, 28, 39, 40, 41, 32, 42, 43, 44, 45, 37, 38, 75, 76, 77, 78, 79, 80, 81, 82, 83, 84, 85, 72, 73, 74, 86, 87] (by decide +kernel) (by decide +kernel)
set_option maxRecDepth 20000 in
theorem gX3_readPart_X3_readClap : GoodIn wsX3_readPart (wsV RX3 59 RX3 yX3_readClap wsX3_readClap) := goodIn_app (goodIn_of _ (by decide +kernel)) ggX3_readPart_X3_readClap
set_option maxRecDepth 20000 in
theorem ggX3_readPart_X3_readOath : GoodIn wsX3_readPart wsX3_readOath := goodIn_r _ [53, 17, 4, 54, 2, 18, 19, 20, 15, 21, 22, 23, 24, 25, 1, 5, 6, 7, 8, 9, 10, 11, 26, 27, 28, 55, 56, 57, 58, 59, 60, 61, 62, 63, 64, 65, 32, 66, 67, 68, 69, 70, 71, 37, 38, 75, 76, 77, 78, 79, 80, 81, 82, 83, 84, 85, 72, 73, 74, 86, 87] (by decide +kernel) (by decide +kernel)
set_option maxRecDepth 20000 in
theorem gX3_readPart_X3_readOath : GoodIn wsX3_readPart (wsV RX3 62 RX3 yX3_readOath wsX3_readOath) := goodIn_app (goodIn_of _ (by decide +kernel)) ggX3_readPart_X3_readOath
theorem dX3_readPart_0 : decode cX3_readPart 0 = .ok (.aload_n 0, 1) := by decide +kernel
theorem dX3_readPart_1 : decode cX3_readPart 1 = .ok (.getfield 9, 3) := by decide +kernel
theorem dX3_readPart_4 : decode cX3_readPart 4 = .ok (.aload_n 0, 1) := by decide +kernel
theorem dX3_readPart_5 : decode cX3_readPart 5 = .ok (.getfield 15, 3) := by decide +kernel
theorem dX3_readPart_8 : decode cX3_readPart 8 = .ok (.invokevirtual 41, 3) := by decide +kernel
theorem dX3_readPart_11 : decode cX3_readPart 11 = .ok (.lookupswitch 95 #[(67, 79), (79, 87), (80, 41), (81, 49)], 41) := by decide +kernel
theorem dX3_readPart_52 : decode cX3_readPart 52 = .ok (.aload_n 0, 1) := by decide +kernel
theorem dX3_readPart_53 : decode cX3_readPart 53 = .ok (.aload_n 1, 1) := by decide +kernel
theorem dX3_readPart_54 : decode cX3_readPart 54 = .ok (.invokevirtual 45, 3) := by decide +kernel
theorem dX3_readPart_57 : decode cX3_readPart 57 = .ok (.goto 54, 3) := by decide +kernel
theorem dX3_readPart_60 : decode cX3_readPart 60 = .ok (.aload_n 0, 1) := by decide +kernel
theorem dX3_readPart_61 : decode cX3_readPart 61 = .ok (.aload_n 1, 1) := by decide +kernel
theorem dX3_readPart_62 : decode cX3_readPart 62 = .ok (.getfield 48, 3) := by decide +kernel
theorem dX3_readPart_65 : decode cX3_readPart 65 = .ok (.invokevirtual 51, 3) := by decide +kernel
theorem dX3_readPart_68 : decode cX3_readPart 68 = .ok (.ifCond .eq 43, 3) := by decide +kernel
theorem dX3_readPart_71 : decode cX3_readPart 71 = .ok (.aload_n 0, 1) := by decide +kernel
theorem dX3_readPart_72 : decode cX3_readPart 72 = .ok (.dup, 1) := by decide +kernel
theorem dX3_readPart_73 : decode cX3_readPart 73 = .ok (.getfield 15, 3) := by decide +kernel
theorem dX3_readPart_76 : decode cX3_readPart 76 = .ok (.iconst 1, 1) := by decide +kernel
theorem dX3_readPart_77 : decode cX3_readPart 77 = .ok (.iadd, 1) := by decide +kernel
theorem dX3_readPart_78 : decode cX3_readPart 78 = .ok (.putfield 15, 3) := by decide +kernel
theorem dX3_readPart_81 : decode cX3_readPart 81 = .ok (.aload_n 1, 1) := by decide +kernel
theorem dX3_readPart_82 : decode cX3_readPart 82 = .ok (.iconst 0, 1) := by decide +kernel
theorem dX3_readPart_83 : decode cX3_readPart 83 = .ok (.iconst (-1), 1) := by decide +kernel
theorem dX3_readPart_84 : decode cX3_readPart 84 = .ok (.invokevirtual 55, 3) := by decide +kernel
theorem dX3_readPart_87 : decode cX3_readPart 87 = .ok (.goto 24, 3) := by decide +kernel
theorem dX3_readPart_90 : decode cX3_readPart 90 = .ok (.aload_n 0, 1) := by decide +kernel
theorem dX3_readPart_91 : decode cX3_readPart 91 = .ok (.aload_n 1, 1) := by decide +kernel
theorem dX3_readPart_92 : decode cX3_readPart 92 = .ok (.invokevirtual 59, 3) := by decide +kernel
theorem dX3_readPart_95 : decode cX3_readPart 95 = .ok (.goto 16, 3) := by decide +kernel
theorem dX3_readPart_98 : decode cX3_readPart 98 = .ok (.aload_n 0, 1) := by decide +kernel
theorem dX3_readPart_99 : decode cX3_readPart 99 = .ok (.aload_n 1, 1) := by decide +kernel
theorem dX3_readPart_100 : decode cX3_readPart 100 = .ok (.invokevirtual 62, 3) := by decide +kernel
theorem dX3_readPart_103 : decode cX3_readPart 103 = .ok (.goto 8, 3) := by decide +kernel
theorem dX3_readPart_106 : decode cX3_readPart 106 = .ok (.aload_n 0, 1) := by decide +kernel
theorem dX3_readPart_107 : decode cX3_readPart 107 = .ok (.iconst 1, 1) := by decide +kernel
theorem dX3_readPart_108 : decode cX3_readPart 108 = .ok (.putfield 19, 3) := by decide +kernel
theorem dX3_readPart_111 : decode cX3_readPart 111 = .ok (.return_, 1) := by decide +kernel
set_option maxRecDepth 20000 in
theorem ggX3_readPerson_X3_hasRoom : GoodIn wsX3_readPerson wsX3_hasRoom := goodIn_r _ [8, 3, 45, 46, 47] (by decide +kernel) (by decide +kernel)
set_option maxRecDepth 20000 in
theorem gX3_readPerson_X3_hasRoom : GoodIn wsX3_readPerson (wsV RX3 51 RX3 yX3_hasRoom wsX3_hasRoom) := goodIn_app (goodIn_of _ (by decide +kernel)) ggX3_readPerson_X3_hasRoom
set_option maxRecDepth 20000 in
theorem ggX3_readPerson_X3_readFigure : GoodIn wsX3_readPerson wsX3_readFigure := goodIn_r _ [12, 13, 2, 3, 14, 15, 16, 17, 18, 19, 20, 21, 22, 23, 45, 46, 47, 48, 49] (by decide +kernel) (by decide +kernel)
set_option maxRecDepth 20000 in
theorem gX3_readPerson_X3_readFigure : GoodIn wsX3_readPerson (wsV RX3 68 RX3 yX3_readFigure wsX3_readFigure) := goodIn_app (goodIn_of _ (by decide +kernel)) ggX3_readPerson_X3_readFigure
set_option maxRecDepth 20000 in
theorem ggX3_readPerson_X1_addPerson : GoodIn wsX3_readPerson wsX1_addPerson := goodIn_r _ [28, 29, 30, 31, 32, 22, 33, 34, 35, 36, 37, 38, 39, 40, 41, 42, 43, 44] (by decide +kernel) (by decide +kernel)
set_option maxRecDepth 20000 in
theorem gX3_readPerson_X1_addPerson : GoodIn wsX3_readPerson (wsV RX3 71 RX1 yX1_addPerson wsX1_addPerson) := goodIn_app (goodIn_of _ (by decide +kernel)) ggX3_readPerson_X1_addPerson
theorem dX3_readPerson_0 : decode cX3_readPerson 0 = .ok (.aload_n 0, 1) := by decide +kernel
theorem dX3_readPerson_1 : decode cX3_readPerson 1 = .ok (.aload_n 1, 1) := by decide +kernel
theorem dX3_readPerson_2 : decode cX3_readPerson 2 = .ok (.getfield 65, 3) := by decide +kernel
theorem dX3_readPerson_5 : decode cX3_readPerson 5 = .ok (.invokevirtual 51, 3) := by decide +kernel
theorem dX3_readPerson_8 : decode cX3_readPerson 8 = .ok (.ifCond .eq 39, 3) := by decide +kernel
theorem dX3_readPerson_11 : decode cX3_readPerson 11 = .ok (.aload_n 0, 1) := by decide +kernel
theorem dX3_readPerson_12 : decode cX3_readPerson 12 = .ok (.dup, 1) := by decide +kernel
theorem dX3_readPerson_13 : decode cX3_readPerson 13 = .ok (.getfield 15, 3) := by decide +kernel
theorem dX3_readPerson_16 : decode cX3_readPerson 16 = .ok (.iconst 1, 1) := by decide +kernel
theorem dX3_readPerson_17 : decode cX3_readPerson 17 = .ok (.iadd, 1) := by decide +kernel
theorem dX3_readPerson_18 : decode cX3_readPerson 18 = .ok (.putfield 15, 3) := by decide +kernel
theorem dX3_readPerson_21 : decode cX3_readPerson 21 = .ok (.aload_n 0, 1) := by decide +kernel
theorem dX3_readPerson_22 : decode cX3_readPerson 22 = .ok (.bipush 9, 2) := by decide +kernel
theorem dX3_readPerson_24 : decode cX3_readPerson 24 = .ok (.invokevirtual 68, 3) := by decide +kernel
theorem dX3_readPerson_27 : decode cX3_readPerson 27 = .ok (.istore_n 2, 1) := by decide +kernel
theorem dX3_readPerson_28 : decode cX3_readPerson 28 = .ok (.aload_n 0, 1) := by decide +kernel
theorem dX3_readPerson_29 : decode cX3_readPerson 29 = .ok (.iconst 3, 1) := by decide +kernel
theorem dX3_readPerson_30 : decode cX3_readPerson 30 = .ok (.invokevirtual 68, 3) := by decide +kernel
theorem dX3_readPerson_33 : decode cX3_readPerson 33 = .ok (.istore_n 3, 1) := by decide +kernel
theorem dX3_readPerson_34 : decode cX3_readPerson 34 = .ok (.aload_n 0, 1) := by decide +kernel
theorem dX3_readPerson_35 : decode cX3_readPerson 35 = .ok (.getfield 19, 3) := by decide +kernel
theorem dX3_readPerson_38 : decode cX3_readPerson 38 = .ok (.ifCond .ne 9, 3) := by decide +kernel
theorem dX3_readPerson_41 : decode cX3_readPerson 41 = .ok (.aload_n 1, 1) := by decide +kernel
theorem dX3_readPerson_42 : decode cX3_readPerson 42 = .ok (.iload_n 2, 1) := by decide +kernel
theorem dX3_readPerson_43 : decode cX3_readPerson 43 = .ok (.iload_n 3, 1) := by decide +kernel
theorem dX3_readPerson_44 : decode cX3_readPerson 44 = .ok (.invokevirtual 71, 3) := by decide +kernel
theorem dX3_readPerson_47 : decode cX3_readPerson 47 = .ok (.return_, 1) := by decide +kernel
set_option maxRecDepth 20000 in
theorem ggX3_readClap_X3_hasRoom : GoodIn wsX3_readClap wsX3_hasRoom := goodIn_r _ [8, 3, 45, 46, 47] (by decide +kernel) (by decide +kernel)
set_option maxRecDepth 20000 in
theorem gX3_readClap_X3_hasRoom : GoodIn wsX3_readClap (wsV RX3 51 RX3 yX3_hasRoom wsX3_hasRoom) := goodIn_app (goodIn_of _ (by decide +kernel)) ggX3_readClap_X3_hasRoom
set_option maxRecDepth 20000 in
theorem ggX3_readClap_X3_readFigure : GoodIn wsX3_readClap wsX3_readFigure := goodIn_r _ [12, 13, 2, 3, 14, 15, 16, 17, 18, 19, 20, 21, 22, 23, 45, 46, 47, 48, 49] (by decide +kernel) (by decide +kernel)
set_option maxRecDepth 20000 in
theorem gX3_readClap_X3_readFigure : GoodIn wsX3_readClap (wsV RX3 68 RX3 yX3_readFigure wsX3_readFigure) := goodIn_app (goodIn_of _ (by decide +kernel)) ggX3_readClap_X3_readFigure
set_option maxRecDepth 20000 in
theorem ggX3_readClap_X1_addSky : GoodIn wsX3_readClap wsX1_addSky := goodIn_r _ [28, 29, 30, 31, 32, 22, 33, 34, 35, 36, 37, 38, 39, 40, 41, 42, 43, 44] (by decide +kernel) (by decide +kernel)
set_option maxRecDepth 20000 in
theorem gX3_readClap_X1_addSky : GoodIn wsX3_readClap (wsV RX3 55 RX1 yX1_addSky wsX1_addSky) := goodIn_app (goodIn_of _ (by decide +kernel)) ggX3_readClap_X1_addSky
theorem dX3_readClap_0 : decode cX3_readClap 0 = .ok (.aload_n 0, 1) := by decide +kernel
theorem dX3_readClap_1 : decode cX3_readClap 1 = .ok (.aload_n 1, 1) := by decide +kernel
theorem dX3_readClap_2 : decode cX3_readClap 2 = .ok (.getfield 48, 3) := by decide +kernel
theorem dX3_readClap_5 : decode cX3_readClap 5 = .ok (.invokevirtual 51, 3) := by decide +kernel
theorem dX3_readClap_8 : decode cX3_readClap 8 = .ok (.ifCond .eq 40, 3) := by decide +kernel
theorem dX3_readClap_11 : decode cX3_readClap 11 = .ok (.aload_n 0, 1) := by decide +kernel
theorem dX3_readClap_12 : decode cX3_readClap 12 = .ok (.dup, 1) := by decide +kernel
theorem dX3_readClap_13 : decode cX3_readClap 13 = .ok (.getfield 15, 3) := by decide +kernel
theorem dX3_readClap_16 : decode cX3_readClap 16 = .ok (.iconst 1, 1) := by decide +kernel
theorem dX3_readClap_17 : decode cX3_readClap 17 = .ok (.iadd, 1) := by decide +kernel
theorem dX3_readClap_18 : decode cX3_readClap 18 = .ok (.putfield 15, 3) := by decide +kernel
theorem dX3_readClap_21 : decode cX3_readClap 21 = .ok (.aload_n 0, 1) := by decide +kernel
theorem dX3_readClap_22 : decode cX3_readClap 22 = .ok (.bipush 9, 2) := by decide +kernel
theorem dX3_readClap_24 : decode cX3_readClap 24 = .ok (.invokevirtual 68, 3) := by decide +kernel
theorem dX3_readClap_27 : decode cX3_readClap 27 = .ok (.istore_n 2, 1) := by decide +kernel
theorem dX3_readClap_28 : decode cX3_readClap 28 = .ok (.aload_n 0, 1) := by decide +kernel
theorem dX3_readClap_29 : decode cX3_readClap 29 = .ok (.bipush 9, 2) := by decide +kernel
theorem dX3_readClap_31 : decode cX3_readClap 31 = .ok (.invokevirtual 68, 3) := by decide +kernel
theorem dX3_readClap_34 : decode cX3_readClap 34 = .ok (.istore_n 3, 1) := by decide +kernel
theorem dX3_readClap_35 : decode cX3_readClap 35 = .ok (.aload_n 0, 1) := by decide +kernel
theorem dX3_readClap_36 : decode cX3_readClap 36 = .ok (.getfield 19, 3) := by decide +kernel
theorem dX3_readClap_39 : decode cX3_readClap 39 = .ok (.ifCond .ne 9, 3) := by decide +kernel
theorem dX3_readClap_42 : decode cX3_readClap 42 = .ok (.aload_n 1, 1) := by decide +kernel
theorem dX3_readClap_43 : decode cX3_readClap 43 = .ok (.iload_n 2, 1) := by decide +kernel
theorem dX3_readClap_44 : decode cX3_readClap 44 = .ok (.iload_n 3, 1) := by decide +kernel
theorem dX3_readClap_45 : decode cX3_readClap 45 = .ok (.invokevirtual 55, 3) := by decide +kernel
theorem dX3_readClap_48 : decode cX3_readClap 48 = .ok (.return_, 1) := by decide +kernel
set_option maxRecDepth 20000 in
theorem ggX3_readOath_X3_hasRoom : GoodIn wsX3_readOath wsX3_hasRoom := goodIn_r _ [9, 2, 56, 57, 58] (by decide +kernel) (by decide +kernel)
set_option maxRecDepth 20000 in
theorem gX3_readOath_X3_hasRoom : GoodIn wsX3_readOath (wsV RX3 51 RX3 yX3_hasRoom wsX3_hasRoom) := goodIn_app (goodIn_of _ (by decide +kernel)) ggX3_readOath_X3_hasRoom
set_option maxRecDepth 20000 in
theorem ggX3_readOath_X3_readFigure : GoodIn wsX3_readOath wsX3_readFigure := goodIn_r _ [13, 14, 4, 2, 15, 16, 17, 18, 19, 20, 21, 22, 23, 24, 56, 57, 58, 59, 60] (by decide +kernel) (by decide +kernel)
set_option maxRecDepth 20000 in
theorem gX3_readOath_X3_readFigure : GoodIn wsX3_readOath (wsV RX3 68 RX3 yX3_readFigure wsX3_readFigure) := goodIn_app (goodIn_of _ (by decide +kernel)) ggX3_readOath_X3_readFigure
set_option maxRecDepth 20000 in
theorem ggX3_readOath_X3_readOther : GoodIn wsX3_readOath wsX3_readOther := goodIn_r _ [28, 2, 14, 4, 15, 16, 17, 18, 19, 20, 21, 10, 11, 12, 8, 13, 22, 23, 24, 56, 57, 58, 59, 60] (by decide +kernel) (by decide +kernel)
set_option maxRecDepth 20000 in
theorem gX3_readOath_X3_readOther : GoodIn wsX3_readOath (wsV RX3 77 RX3 yX3_readOther wsX3_readOther) := goodIn_app (goodIn_of _ (by decide +kernel)) ggX3_readOath_X3_readOther
set_option maxRecDepth 20000 in
theorem ggX3_readOath_X3_readHang : GoodIn wsX3_readOath wsX3_readHang := goodIn_r _ [32, 2, 14, 4, 15, 16, 17, 18, 19, 20, 21, 10, 11, 12, 8, 13, 22, 23, 24, 56, 57, 58, 59, 60] (by decide +kernel) (by decide +kernel)
set_option maxRecDepth 20000 in
theorem gX3_readOath_X3_readHang : GoodIn wsX3_readOath (wsV RX3 81 RX3 yX3_readHang wsX3_readHang) := goodIn_app (goodIn_of _ (by decide +kernel)) ggX3_readOath_X3_readHang
set_option maxRecDepth 20000 in
theorem ggX3_readOath_X1_addOath : GoodIn wsX3_readOath wsX1_addOath := goodIn_r _ [37, 38, 39, 40, 41, 42, 43, 23, 44, 45, 46, 47, 48, 49, 50, 51, 52, 53, 54, 55] (by decide +kernel) (by decide +kernel)
set_option maxRecDepth 20000 in
theorem gX3_readOath_X1_addOath : GoodIn wsX3_readOath (wsV RX3 84 RX1 yX1_addOath wsX1_addOath) := goodIn_app (goodIn_of _ (by decide +kernel)) ggX3_readOath_X1_addOath
theorem dX3_readOath_0 : decode cX3_readOath 0 = .ok (.aload_n 1, 1) := by decide +kernel
theorem dX3_readOath_1 : decode cX3_readOath 1 = .ok (.getfield 65, 3) := by decide +kernel
theorem dX3_readOath_4 : decode cX3_readOath 4 = .ok (.iconst 2, 1) := by decide +kernel
theorem dX3_readOath_5 : decode cX3_readOath 5 = .ok (.if_icmp .ge 11, 3) := by decide +kernel
theorem dX3_readOath_8 : decode cX3_readOath 8 = .ok (.aload_n 0, 1) := by decide +kernel
theorem dX3_readOath_9 : decode cX3_readOath 9 = .ok (.iconst 1, 1) := by decide +kernel
theorem dX3_readOath_10 : decode cX3_readOath 10 = .ok (.putfield 19, 3) := by decide +kernel
theorem dX3_readOath_13 : decode cX3_readOath 13 = .ok (.goto 84, 3) := by decide +kernel
theorem dX3_readOath_16 : decode cX3_readOath 16 = .ok (.aload_n 0, 1) := by decide +kernel
theorem dX3_readOath_17 : decode cX3_readOath 17 = .ok (.aload_n 1, 1) := by decide +kernel
theorem dX3_readOath_18 : decode cX3_readOath 18 = .ok (.getfield 74, 3) := by decide +kernel
theorem dX3_readOath_21 : decode cX3_readOath 21 = .ok (.invokevirtual 51, 3) := by decide +kernel
theorem dX3_readOath_24 : decode cX3_readOath 24 = .ok (.ifCond .eq 73, 3) := by decide +kernel
theorem dX3_readOath_27 : decode cX3_readOath 27 = .ok (.aload_n 0, 1) := by decide +kernel
theorem dX3_readOath_28 : decode cX3_readOath 28 = .ok (.dup, 1) := by decide +kernel
theorem dX3_readOath_29 : decode cX3_readOath 29 = .ok (.getfield 15, 3) := by decide +kernel
theorem dX3_readOath_32 : decode cX3_readOath 32 = .ok (.iconst 1, 1) := by decide +kernel
theorem dX3_readOath_33 : decode cX3_readOath 33 = .ok (.iadd, 1) := by decide +kernel
theorem dX3_readOath_34 : decode cX3_readOath 34 = .ok (.putfield 15, 3) := by decide +kernel
theorem dX3_readOath_37 : decode cX3_readOath 37 = .ok (.aload_n 0, 1) := by decide +kernel
theorem dX3_readOath_38 : decode cX3_readOath 38 = .ok (.aload_n 1, 1) := by decide +kernel
theorem dX3_readOath_39 : decode cX3_readOath 39 = .ok (.getfield 65, 3) := by decide +kernel
theorem dX3_readOath_42 : decode cX3_readOath 42 = .ok (.iconst 1, 1) := by decide +kernel
theorem dX3_readOath_43 : decode cX3_readOath 43 = .ok (.isub, 1) := by decide +kernel
theorem dX3_readOath_44 : decode cX3_readOath 44 = .ok (.invokevirtual 68, 3) := by decide +kernel
theorem dX3_readOath_47 : decode cX3_readOath 47 = .ok (.istore_n 2, 1) := by decide +kernel
theorem dX3_readOath_48 : decode cX3_readOath 48 = .ok (.aload_n 0, 1) := by decide +kernel
theorem dX3_readOath_49 : decode cX3_readOath 49 = .ok (.aload_n 1, 1) := by decide +kernel
theorem dX3_readOath_50 : decode cX3_readOath 50 = .ok (.getfield 65, 3) := by decide +kernel
theorem dX3_readOath_53 : decode cX3_readOath 53 = .ok (.iconst 1, 1) := by decide +kernel
theorem dX3_readOath_54 : decode cX3_readOath 54 = .ok (.isub, 1) := by decide +kernel
theorem dX3_readOath_55 : decode cX3_readOath 55 = .ok (.iload_n 2, 1) := by decide +kernel
theorem dX3_readOath_56 : decode cX3_readOath 56 = .ok (.invokevirtual 77, 3) := by decide +kernel
theorem dX3_readOath_59 : decode cX3_readOath 59 = .ok (.istore_n 3, 1) := by decide +kernel
theorem dX3_readOath_60 : decode cX3_readOath 60 = .ok (.aload_n 0, 1) := by decide +kernel
theorem dX3_readOath_61 : decode cX3_readOath 61 = .ok (.bipush 9, 2) := by decide +kernel
theorem dX3_readOath_63 : decode cX3_readOath 63 = .ok (.invokevirtual 68, 3) := by decide +kernel
theorem dX3_readOath_66 : decode cX3_readOath 66 = .ok (.istore 4, 2) := by decide +kernel
theorem dX3_readOath_68 : decode cX3_readOath 68 = .ok (.aload_n 0, 1) := by decide +kernel
theorem dX3_readOath_69 : decode cX3_readOath 69 = .ok (.aload_n 1, 1) := by decide +kernel
theorem dX3_readOath_70 : decode cX3_readOath 70 = .ok (.getfield 74, 3) := by decide +kernel
theorem dX3_readOath_73 : decode cX3_readOath 73 = .ok (.iconst 1, 1) := by decide +kernel
theorem dX3_readOath_74 : decode cX3_readOath 74 = .ok (.isub, 1) := by decide +kernel
theorem dX3_readOath_75 : decode cX3_readOath 75 = .ok (.invokevirtual 81, 3) := by decide +kernel
theorem dX3_readOath_78 : decode cX3_readOath 78 = .ok (.istore 5, 2) := by decide +kernel
theorem dX3_readOath_80 : decode cX3_readOath 80 = .ok (.aload_n 0, 1) := by decide +kernel
theorem dX3_readOath_81 : decode cX3_readOath 81 = .ok (.getfield 19, 3) := by decide +kernel
theorem dX3_readOath_84 : decode cX3_readOath 84 = .ok (.ifCond .ne 13, 3) := by decide +kernel
theorem dX3_readOath_87 : decode cX3_readOath 87 = .ok (.aload_n 1, 1) := by decide +kernel
theorem dX3_readOath_88 : decode cX3_readOath 88 = .ok (.iload_n 2, 1) := by decide +kernel
theorem dX3_readOath_89 : decode cX3_readOath 89 = .ok (.iload_n 3, 1) := by decide +kernel
theorem dX3_readOath_90 : decode cX3_readOath 90 = .ok (.iload 4, 2) := by decide +kernel
theorem dX3_readOath_92 : decode cX3_readOath 92 = .ok (.iload 5, 2) := by decide +kernel
theorem dX3_readOath_94 : decode cX3_readOath 94 = .ok (.invokevirtual 84, 3) := by decide +kernel
theorem dX3_readOath_97 : decode cX3_readOath 97 = .ok (.return_, 1) := by decide +kernel
set_option maxRecDepth 20000 in
theorem ggX3_readOther_X5_letterAt : GoodIn wsX3_readOther wsX5_letterAt := goodIn_r _ [8, 9, 10, 22, 23] (by decide +kernel) (by decide +kernel)
set_option maxRecDepth 20000 in
theorem gX3_readOther_X5_letterAt : GoodIn wsX3_readOther (wsV RX3 41 RX5 yX5_letterAt wsX5_letterAt) := goodIn_app (goodIn_of _ (by decide +kernel)) ggX3_readOther_X5_letterAt
set_option maxRecDepth 20000 in
theorem ggX3_readOther_X3_readFigure : GoodIn wsX3_readOther wsX3_readFigure := goodIn_r _ [15, 2, 3, 1, 4, 5, 6, 7, 8, 9, 10, 16, 17, 18, 19, 20, 21, 22, 23] (by decide +kernel) (by decide +kernel)
set_option maxRecDepth 20000 in
theorem gX3_readOther_X3_readFigure : GoodIn wsX3_readOther (wsV RX3 68 RX3 yX3_readFigure wsX3_readFigure) := goodIn_app (goodIn_of _ (by decide +kernel)) ggX3_readOther_X3_readFigure
theorem dX3_readOther_0 : decode cX3_readOther 0 = .ok (.aload_n 0, 1) := by decide +kernel
theorem dX3_readOther_1 : decode cX3_readOther 1 = .ok (.getfield 19, 3) := by decide +kernel
theorem dX3_readOther_4 : decode cX3_readOther 4 = .ok (.ifCond .ne 26, 3) := by decide +kernel
theorem dX3_readOther_7 : decode cX3_readOther 7 = .ok (.aload_n 0, 1) := by decide +kernel
theorem dX3_readOther_8 : decode cX3_readOther 8 = .ok (.getfield 9, 3) := by decide +kernel
theorem dX3_readOther_11 : decode cX3_readOther 11 = .ok (.aload_n 0, 1) := by decide +kernel
theorem dX3_readOther_12 : decode cX3_readOther 12 = .ok (.getfield 15, 3) := by decide +kernel
theorem dX3_readOther_15 : decode cX3_readOther 15 = .ok (.invokevirtual 41, 3) := by decide +kernel
theorem dX3_readOther_18 : decode cX3_readOther 18 = .ok (.bipush 48, 2) := by decide +kernel
theorem dX3_readOther_20 : decode cX3_readOther 20 = .ok (.iload_n 2, 1) := by decide +kernel
theorem dX3_readOther_21 : decode cX3_readOther 21 = .ok (.iadd, 1) := by decide +kernel
theorem dX3_readOther_22 : decode cX3_readOther 22 = .ok (.if_icmp .ne 8, 3) := by decide +kernel
theorem dX3_readOther_25 : decode cX3_readOther 25 = .ok (.aload_n 0, 1) := by decide +kernel
theorem dX3_readOther_26 : decode cX3_readOther 26 = .ok (.iconst 1, 1) := by decide +kernel
theorem dX3_readOther_27 : decode cX3_readOther 27 = .ok (.putfield 19, 3) := by decide +kernel
theorem dX3_readOther_30 : decode cX3_readOther 30 = .ok (.aload_n 0, 1) := by decide +kernel
theorem dX3_readOther_31 : decode cX3_readOther 31 = .ok (.iload_n 1, 1) := by decide +kernel
theorem dX3_readOther_32 : decode cX3_readOther 32 = .ok (.invokevirtual 68, 3) := by decide +kernel
theorem dX3_readOther_35 : decode cX3_readOther 35 = .ok (.ireturn, 1) := by decide +kernel
set_option maxRecDepth 20000 in
theorem ggX3_readHang_X5_letterAt : GoodIn wsX3_readHang wsX5_letterAt := goodIn_r _ [8, 9, 10, 22, 23] (by decide +kernel) (by decide +kernel)
set_option maxRecDepth 20000 in
theorem gX3_readHang_X5_letterAt : GoodIn wsX3_readHang (wsV RX3 41 RX5 yX5_letterAt wsX5_letterAt) := goodIn_app (goodIn_of _ (by decide +kernel)) ggX3_readHang_X5_letterAt
set_option maxRecDepth 20000 in
theorem ggX3_readHang_X3_readFigure : GoodIn wsX3_readHang wsX3_readFigure := goodIn_r _ [15, 2, 3, 1, 4, 5, 6, 7, 8, 9, 10, 16, 17, 18, 19, 20, 21, 22, 23] (by decide +kernel) (by decide +kernel)
set_option maxRecDepth 20000 in
theorem gX3_readHang_X3_readFigure : GoodIn wsX3_readHang (wsV RX3 68 RX3 yX3_readFigure wsX3_readFigure) := goodIn_app (goodIn_of _ (by decide +kernel)) ggX3_readHang_X3_readFigure
theorem dX3_readHang_0 : decode cX3_readHang 0 = .ok (.aload_n 0, 1) := by decide +kernel
theorem dX3_readHang_1 : decode cX3_readHang 1 = .ok (.getfield 19, 3) := by decide +kernel
theorem dX3_readHang_4 : decode cX3_readHang 4 = .ok (.ifCond .ne 32, 3) := by decide +kernel
theorem dX3_readHang_7 : decode cX3_readHang 7 = .ok (.aload_n 0, 1) := by decide +kernel
theorem dX3_readHang_8 : decode cX3_readHang 8 = .ok (.getfield 9, 3) := by decide +kernel
theorem dX3_readHang_11 : decode cX3_readHang 11 = .ok (.aload_n 0, 1) := by decide +kernel
theorem dX3_readHang_12 : decode cX3_readHang 12 = .ok (.getfield 15, 3) := by decide +kernel
theorem dX3_readHang_15 : decode cX3_readHang 15 = .ok (.invokevirtual 41, 3) := by decide +kernel
theorem dX3_readHang_18 : decode cX3_readHang 18 = .ok (.bipush 110, 2) := by decide +kernel
theorem dX3_readHang_20 : decode cX3_readHang 20 = .ok (.if_icmp .ne 16, 3) := by decide +kernel
theorem dX3_readHang_23 : decode cX3_readHang 23 = .ok (.aload_n 0, 1) := by decide +kernel
theorem dX3_readHang_24 : decode cX3_readHang 24 = .ok (.dup, 1) := by decide +kernel
theorem dX3_readHang_25 : decode cX3_readHang 25 = .ok (.getfield 15, 3) := by decide +kernel
theorem dX3_readHang_28 : decode cX3_readHang 28 = .ok (.iconst 1, 1) := by decide +kernel
theorem dX3_readHang_29 : decode cX3_readHang 29 = .ok (.iadd, 1) := by decide +kernel
theorem dX3_readHang_30 : decode cX3_readHang 30 = .ok (.putfield 15, 3) := by decide +kernel
theorem dX3_readHang_33 : decode cX3_readHang 33 = .ok (.bipush (-9), 2) := by decide +kernel
theorem dX3_readHang_35 : decode cX3_readHang 35 = .ok (.ireturn, 1) := by decide +kernel
theorem dX3_readHang_36 : decode cX3_readHang 36 = .ok (.aload_n 0, 1) := by decide +kernel
theorem dX3_readHang_37 : decode cX3_readHang 37 = .ok (.iload_n 1, 1) := by decide +kernel
theorem dX3_readHang_38 : decode cX3_readHang 38 = .ok (.invokevirtual 68, 3) := by decide +kernel
theorem dX3_readHang_41 : decode cX3_readHang 41 = .ok (.ireturn, 1) := by decide +kernel
theorem dX3_hasRoom_0 : decode cX3_hasRoom 0 = .ok (.iload_n 1, 1) := by decide +kernel
theorem dX3_hasRoom_1 : decode cX3_hasRoom 1 = .ok (.iconst 5, 1) := by decide +kernel
theorem dX3_hasRoom_2 : decode cX3_hasRoom 2 = .ok (.if_icmp .lt 8, 3) := by decide +kernel
theorem dX3_hasRoom_5 : decode cX3_hasRoom 5 = .ok (.aload_n 0, 1) := by decide +kernel
theorem dX3_hasRoom_6 : decode cX3_hasRoom 6 = .ok (.iconst 1, 1) := by decide +kernel
theorem dX3_hasRoom_7 : decode cX3_hasRoom 7 = .ok (.putfield 19, 3) := by decide +kernel
theorem dX3_hasRoom_10 : decode cX3_hasRoom 10 = .ok (.aload_n 0, 1) := by decide +kernel
theorem dX3_hasRoom_11 : decode cX3_hasRoom 11 = .ok (.getfield 19, 3) := by decide +kernel
theorem dX3_hasRoom_14 : decode cX3_hasRoom 14 = .ok (.ifCond .ne 7, 3) := by decide +kernel
theorem dX3_hasRoom_17 : decode cX3_hasRoom 17 = .ok (.iconst 1, 1) := by decide +kernel
theorem dX3_hasRoom_18 : decode cX3_hasRoom 18 = .ok (.goto 4, 3) := by decide +kernel
theorem dX3_hasRoom_21 : decode cX3_hasRoom 21 = .ok (.iconst 0, 1) := by decide +kernel
theorem dX3_hasRoom_22 : decode cX3_hasRoom 22 = .ok (.ireturn, 1) := by decide +kernel
set_option maxRecDepth 20000 in
theorem ggX3_readLetter_X5_letterAt : GoodIn wsX3_readLetter wsX5_letterAt := goodIn_r _ [8, 9, 10, 14, 15] (by decide +kernel) (by decide +kernel)
set_option maxRecDepth 20000 in
theorem gX3_readLetter_X5_letterAt : GoodIn wsX3_readLetter (wsV RX3 41 RX5 yX5_letterAt wsX5_letterAt) := goodIn_app (goodIn_of _ (by decide +kernel)) ggX3_readLetter_X5_letterAt
theorem dX3_readLetter_0 : decode cX3_readLetter 0 = .ok (.aload_n 0, 1) := by decide +kernel
theorem dX3_readLetter_1 : decode cX3_readLetter 1 = .ok (.getfield 9, 3) := by decide +kernel
theorem dX3_readLetter_4 : decode cX3_readLetter 4 = .ok (.aload_n 0, 1) := by decide +kernel
theorem dX3_readLetter_5 : decode cX3_readLetter 5 = .ok (.getfield 15, 3) := by decide +kernel
theorem dX3_readLetter_8 : decode cX3_readLetter 8 = .ok (.invokevirtual 41, 3) := by decide +kernel
theorem dX3_readLetter_11 : decode cX3_readLetter 11 = .ok (.iload_n 1, 1) := by decide +kernel
theorem dX3_readLetter_12 : decode cX3_readLetter 12 = .ok (.if_icmp .ne 16, 3) := by decide +kernel
theorem dX3_readLetter_15 : decode cX3_readLetter 15 = .ok (.aload_n 0, 1) := by decide +kernel
theorem dX3_readLetter_16 : decode cX3_readLetter 16 = .ok (.dup, 1) := by decide +kernel
theorem dX3_readLetter_17 : decode cX3_readLetter 17 = .ok (.getfield 15, 3) := by decide +kernel
theorem dX3_readLetter_20 : decode cX3_readLetter 20 = .ok (.iconst 1, 1) := by decide +kernel
theorem dX3_readLetter_21 : decode cX3_readLetter 21 = .ok (.iadd, 1) := by decide +kernel
theorem dX3_readLetter_22 : decode cX3_readLetter 22 = .ok (.putfield 15, 3) := by decide +kernel
theorem dX3_readLetter_25 : decode cX3_readLetter 25 = .ok (.goto 8, 3) := by decide +kernel
theorem dX3_readLetter_28 : decode cX3_readLetter 28 = .ok (.aload_n 0, 1) := by decide +kernel
theorem dX3_readLetter_29 : decode cX3_readLetter 29 = .ok (.iconst 1, 1) := by decide +kernel
theorem dX3_readLetter_30 : decode cX3_readLetter 30 = .ok (.putfield 19, 3) := by decide +kernel
theorem dX3_readLetter_33 : decode cX3_readLetter 33 = .ok (.return_, 1) := by decide +kernel
set_option maxRecDepth 20000 in
theorem ggX3_readFigure_X5_letterAt : GoodIn wsX3_readFigure wsX5_letterAt := goodIn_r _ [8, 9, 10, 17, 18] (by decide +kernel) (by decide +kernel)
set_option maxRecDepth 20000 in
theorem gX3_readFigure_X5_letterAt : GoodIn wsX3_readFigure (wsV RX3 41 RX5 yX5_letterAt wsX5_letterAt) := goodIn_app (goodIn_of _ (by decide +kernel)) ggX3_readFigure_X5_letterAt
set_option maxRecDepth 20000 in
theorem ggX3_readFigure_X6_within : GoodIn wsX3_readFigure wsX6_within := goodIn_r _ [13] (by decide +kernel) (by decide +kernel)
set_option maxRecDepth 20000 in
theorem gX3_readFigure_X6_within_n88 : GoodIn wsX3_readFigure (wsX6_within) := ggX3_readFigure_X6_within
theorem dX3_readFigure_0 : decode cX3_readFigure 0 = .ok (.aload_n 0, 1) := by decide +kernel
theorem dX3_readFigure_1 : decode cX3_readFigure 1 = .ok (.getfield 9, 3) := by decide +kernel
theorem dX3_readFigure_4 : decode cX3_readFigure 4 = .ok (.aload_n 0, 1) := by decide +kernel
theorem dX3_readFigure_5 : decode cX3_readFigure 5 = .ok (.getfield 15, 3) := by decide +kernel
theorem dX3_readFigure_8 : decode cX3_readFigure 8 = .ok (.invokevirtual 41, 3) := by decide +kernel
theorem dX3_readFigure_11 : decode cX3_readFigure 11 = .ok (.bipush 48, 2) := by decide +kernel
theorem dX3_readFigure_13 : decode cX3_readFigure 13 = .ok (.isub, 1) := by decide +kernel
theorem dX3_readFigure_14 : decode cX3_readFigure 14 = .ok (.istore_n 2, 1) := by decide +kernel
theorem dX3_readFigure_15 : decode cX3_readFigure 15 = .ok (.aload_n 0, 1) := by decide +kernel
theorem dX3_readFigure_16 : decode cX3_readFigure 16 = .ok (.getfield 19, 3) := by decide +kernel
theorem dX3_readFigure_19 : decode cX3_readFigure 19 = .ok (.ifCond .ne 12, 3) := by decide +kernel
theorem dX3_readFigure_22 : decode cX3_readFigure 22 = .ok (.iload_n 2, 1) := by decide +kernel
theorem dX3_readFigure_23 : decode cX3_readFigure 23 = .ok (.iconst 0, 1) := by decide +kernel
theorem dX3_readFigure_24 : decode cX3_readFigure 24 = .ok (.iload_n 1, 1) := by decide +kernel
theorem dX3_readFigure_25 : decode cX3_readFigure 25 = .ok (.invokestatic 88, 3) := by decide +kernel
theorem dX3_readFigure_28 : decode cX3_readFigure 28 = .ok (.ifCond .ne 10, 3) := by decide +kernel
theorem dX3_readFigure_31 : decode cX3_readFigure 31 = .ok (.aload_n 0, 1) := by decide +kernel
theorem dX3_readFigure_32 : decode cX3_readFigure 32 = .ok (.iconst 1, 1) := by decide +kernel
theorem dX3_readFigure_33 : decode cX3_readFigure 33 = .ok (.putfield 19, 3) := by decide +kernel
theorem dX3_readFigure_36 : decode cX3_readFigure 36 = .ok (.iconst 0, 1) := by decide +kernel
theorem dX3_readFigure_37 : decode cX3_readFigure 37 = .ok (.ireturn, 1) := by decide +kernel
theorem dX3_readFigure_38 : decode cX3_readFigure 38 = .ok (.aload_n 0, 1) := by decide +kernel
theorem dX3_readFigure_39 : decode cX3_readFigure 39 = .ok (.dup, 1) := by decide +kernel
theorem dX3_readFigure_40 : decode cX3_readFigure 40 = .ok (.getfield 15, 3) := by decide +kernel
theorem dX3_readFigure_43 : decode cX3_readFigure 43 = .ok (.iconst 1, 1) := by decide +kernel
theorem dX3_readFigure_44 : decode cX3_readFigure 44 = .ok (.iadd, 1) := by decide +kernel
theorem dX3_readFigure_45 : decode cX3_readFigure 45 = .ok (.putfield 15, 3) := by decide +kernel
theorem dX3_readFigure_48 : decode cX3_readFigure 48 = .ok (.iload_n 2, 1) := by decide +kernel
theorem dX3_readFigure_49 : decode cX3_readFigure 49 = .ok (.ireturn, 1) := by decide +kernel
theorem dX4_init_0 : decode cX4_init 0 = .ok (.aload_n 0, 1) := by decide +kernel
theorem dX4_init_1 : decode cX4_init 1 = .ok (.invokespecial 3, 3) := by decide +kernel
theorem dX4_init_4 : decode cX4_init 4 = .ok (.aload_n 0, 1) := by decide +kernel
theorem dX4_init_5 : decode cX4_init 5 = .ok (.aload_n 1, 1) := by decide +kernel
theorem dX4_init_6 : decode cX4_init 6 = .ok (.putfield 9, 3) := by decide +kernel
theorem dX4_init_9 : decode cX4_init 9 = .ok (.aload_n 0, 1) := by decide +kernel
theorem dX4_init_10 : decode cX4_init 10 = .ok (.iconst 0, 1) := by decide +kernel
theorem dX4_init_11 : decode cX4_init 11 = .ok (.putfield 15, 3) := by decide +kernel
theorem dX4_init_14 : decode cX4_init 14 = .ok (.aload_n 0, 1) := by decide +kernel
theorem dX4_init_15 : decode cX4_init 15 = .ok (.iconst 0, 1) := by decide +kernel
theorem dX4_init_16 : decode cX4_init 16 = .ok (.putfield 19, 3) := by decide +kernel
theorem dX4_init_19 : decode cX4_init 19 = .ok (.aload_n 0, 1) := by decide +kernel
theorem dX4_init_20 : decode cX4_init 20 = .ok (.iconst 0, 1) := by decide +kernel
theorem dX4_init_21 : decode cX4_init 21 = .ok (.putfield 22, 3) := by decide +kernel
theorem dX4_init_24 : decode cX4_init 24 = .ok (.aload_n 0, 1) := by decide +kernel
theorem dX4_init_25 : decode cX4_init 25 = .ok (.iconst 0, 1) := by decide +kernel
theorem dX4_init_26 : decode cX4_init 26 = .ok (.putfield 25, 3) := by decide +kernel
theorem dX4_init_29 : decode cX4_init 29 = .ok (.aload_n 0, 1) := by decide +kernel
theorem dX4_init_30 : decode cX4_init 30 = .ok (.iconst 0, 1) := by decide +kernel
theorem dX4_init_31 : decode cX4_init 31 = .ok (.putfield 28, 3) := by decide +kernel
theorem dX4_init_34 : decode cX4_init 34 = .ok (.return_, 1) := by decide +kernel
set_option maxRecDepth 20000 in
theorem ggX4_begin_X6_at : GoodIn wsX4_begin wsX6_at := goodIn_r _ [12] (by decide +kernel) (by decide +kernel)
set_option maxRecDepth 20000 in
theorem gX4_begin_X6_at_n39 : GoodIn wsX4_begin (wsX6_at) := ggX4_begin_X6_at
set_option maxRecDepth 20000 in
theorem ggX4_begin_X4_putAt : GoodIn wsX4_begin wsX4_putAt := goodIn_r _ [17, 1, 35, 36, 37, 38, 39, 40] (by decide +kernel) (by decide +kernel)
set_option maxRecDepth 20000 in
theorem gX4_begin_X4_putAt : GoodIn wsX4_begin (wsV RX4 43 RX4 yX4_putAt wsX4_putAt) := goodIn_app (goodIn_of _ (by decide +kernel)) ggX4_begin_X4_putAt
set_option maxRecDepth 20000 in
theorem ggX4_begin_X4_chooseWool : GoodIn wsX4_begin wsX4_chooseWool := goodIn_r _ [21, 3, 2, 22, 23, 24, 25, 26, 27, 28, 29, 30, 31, 32, 33, 11, 34, 10, 12, 35, 36, 37, 38, 39, 40, 41, 42, 43, 44, 45, 46, 47, 48, 49, 50, 51] (by decide +kernel) (by decide +kernel)
set_option maxRecDepth 20000 in
theorem gX4_begin_X4_chooseWool : GoodIn wsX4_begin (wsV RX4 47 RX4 yX4_chooseWool wsX4_chooseWool) := goodIn_app (goodIn_of _ (by decide +kernel)) ggX4_begin_X4_chooseWool
theorem dX4_begin_0 : decode cX4_begin 0 = .ok (.aload_n 0, 1) := by decide +kernel
theorem dX4_begin_1 : decode cX4_begin 1 = .ok (.iconst 0, 1) := by decide +kernel
theorem dX4_begin_2 : decode cX4_begin 2 = .ok (.putfield 15, 3) := by decide +kernel
theorem dX4_begin_5 : decode cX4_begin 5 = .ok (.aload_n 0, 1) := by decide +kernel
theorem dX4_begin_6 : decode cX4_begin 6 = .ok (.iconst 0, 1) := by decide +kernel
theorem dX4_begin_7 : decode cX4_begin 7 = .ok (.putfield 19, 3) := by decide +kernel
theorem dX4_begin_10 : decode cX4_begin 10 = .ok (.iconst 0, 1) := by decide +kernel
theorem dX4_begin_11 : decode cX4_begin 11 = .ok (.istore_n 1, 1) := by decide +kernel
theorem dX4_begin_12 : decode cX4_begin 12 = .ok (.iload_n 1, 1) := by decide +kernel
theorem dX4_begin_13 : decode cX4_begin 13 = .ok (.aload_n 0, 1) := by decide +kernel
theorem dX4_begin_14 : decode cX4_begin 14 = .ok (.getfield 9, 3) := by decide +kernel
theorem dX4_begin_17 : decode cX4_begin 17 = .ok (.getfield 31, 3) := by decide +kernel
theorem dX4_begin_20 : decode cX4_begin 20 = .ok (.if_icmp .ge 31, 3) := by decide +kernel
theorem dX4_begin_23 : decode cX4_begin 23 = .ok (.aload_n 0, 1) := by decide +kernel
theorem dX4_begin_24 : decode cX4_begin 24 = .ok (.iload_n 1, 1) := by decide +kernel
theorem dX4_begin_25 : decode cX4_begin 25 = .ok (.aload_n 0, 1) := by decide +kernel
theorem dX4_begin_26 : decode cX4_begin 26 = .ok (.getfield 9, 3) := by decide +kernel
theorem dX4_begin_29 : decode cX4_begin 29 = .ok (.getfield 36, 3) := by decide +kernel
theorem dX4_begin_32 : decode cX4_begin 32 = .ok (.iload_n 1, 1) := by decide +kernel
theorem dX4_begin_33 : decode cX4_begin 33 = .ok (.invokestatic 39, 3) := by decide +kernel
theorem dX4_begin_36 : decode cX4_begin 36 = .ok (.invokevirtual 43, 3) := by decide +kernel
theorem dX4_begin_39 : decode cX4_begin 39 = .ok (.aload_n 0, 1) := by decide +kernel
theorem dX4_begin_40 : decode cX4_begin 40 = .ok (.iload_n 1, 1) := by decide +kernel
theorem dX4_begin_41 : decode cX4_begin 41 = .ok (.iconst 0, 1) := by decide +kernel
theorem dX4_begin_42 : decode cX4_begin 42 = .ok (.invokevirtual 47, 3) := by decide +kernel
theorem dX4_begin_45 : decode cX4_begin 45 = .ok (.iinc 1 1, 3) := by decide +kernel
theorem dX4_begin_48 : decode cX4_begin 48 = .ok (.goto (-36), 3) := by decide +kernel
theorem dX4_begin_51 : decode cX4_begin 51 = .ok (.aload_n 0, 1) := by decide +kernel
theorem dX4_begin_52 : decode cX4_begin 52 = .ok (.iconst 1, 1) := by decide +kernel
theorem dX4_begin_53 : decode cX4_begin 53 = .ok (.aload_n 0, 1) := by decide +kernel
theorem dX4_begin_54 : decode cX4_begin 54 = .ok (.getfield 9, 3) := by decide +kernel
theorem dX4_begin_57 : decode cX4_begin 57 = .ok (.getfield 50, 3) := by decide +kernel
theorem dX4_begin_60 : decode cX4_begin 60 = .ok (.ishl, 1) := by decide +kernel
theorem dX4_begin_61 : decode cX4_begin 61 = .ok (.iconst 1, 1) := by decide +kernel
theorem dX4_begin_62 : decode cX4_begin 62 = .ok (.isub, 1) := by decide +kernel
theorem dX4_begin_63 : decode cX4_begin 63 = .ok (.putfield 22, 3) := by decide +kernel
theorem dX4_begin_66 : decode cX4_begin 66 = .ok (.aload_n 0, 1) := by decide +kernel
theorem dX4_begin_67 : decode cX4_begin 67 = .ok (.iconst 0, 1) := by decide +kernel
theorem dX4_begin_68 : decode cX4_begin 68 = .ok (.putfield 25, 3) := by decide +kernel
theorem dX4_begin_71 : decode cX4_begin 71 = .ok (.aload_n 0, 1) := by decide +kernel
theorem dX4_begin_72 : decode cX4_begin 72 = .ok (.iconst 0, 1) := by decide +kernel
theorem dX4_begin_73 : decode cX4_begin 73 = .ok (.putfield 28, 3) := by decide +kernel
theorem dX4_begin_76 : decode cX4_begin 76 = .ok (.return_, 1) := by decide +kernel
theorem dX4_copyFrom_0 : decode cX4_copyFrom 0 = .ok (.aload_n 0, 1) := by decide +kernel
theorem dX4_copyFrom_1 : decode cX4_copyFrom 1 = .ok (.aload_n 1, 1) := by decide +kernel
theorem dX4_copyFrom_2 : decode cX4_copyFrom 2 = .ok (.getfield 15, 3) := by decide +kernel
theorem dX4_copyFrom_5 : decode cX4_copyFrom 5 = .ok (.putfield 15, 3) := by decide +kernel
theorem dX4_copyFrom_8 : decode cX4_copyFrom 8 = .ok (.aload_n 0, 1) := by decide +kernel
theorem dX4_copyFrom_9 : decode cX4_copyFrom 9 = .ok (.aload_n 1, 1) := by decide +kernel
theorem dX4_copyFrom_10 : decode cX4_copyFrom 10 = .ok (.getfield 19, 3) := by decide +kernel
theorem dX4_copyFrom_13 : decode cX4_copyFrom 13 = .ok (.putfield 19, 3) := by decide +kernel
theorem dX4_copyFrom_16 : decode cX4_copyFrom 16 = .ok (.aload_n 0, 1) := by decide +kernel
theorem dX4_copyFrom_17 : decode cX4_copyFrom 17 = .ok (.aload_n 1, 1) := by decide +kernel
theorem dX4_copyFrom_18 : decode cX4_copyFrom 18 = .ok (.getfield 22, 3) := by decide +kernel
theorem dX4_copyFrom_21 : decode cX4_copyFrom 21 = .ok (.putfield 22, 3) := by decide +kernel
theorem dX4_copyFrom_24 : decode cX4_copyFrom 24 = .ok (.aload_n 0, 1) := by decide +kernel
theorem dX4_copyFrom_25 : decode cX4_copyFrom 25 = .ok (.aload_n 1, 1) := by decide +kernel
theorem dX4_copyFrom_26 : decode cX4_copyFrom 26 = .ok (.getfield 25, 3) := by decide +kernel
theorem dX4_copyFrom_29 : decode cX4_copyFrom 29 = .ok (.putfield 25, 3) := by decide +kernel
theorem dX4_copyFrom_32 : decode cX4_copyFrom 32 = .ok (.aload_n 0, 1) := by decide +kernel
theorem dX4_copyFrom_33 : decode cX4_copyFrom 33 = .ok (.aload_n 1, 1) := by decide +kernel
theorem dX4_copyFrom_34 : decode cX4_copyFrom 34 = .ok (.getfield 28, 3) := by decide +kernel
theorem dX4_copyFrom_37 : decode cX4_copyFrom 37 = .ok (.putfield 28, 3) := by decide +kernel
theorem dX4_copyFrom_40 : decode cX4_copyFrom 40 = .ok (.return_, 1) := by decide +kernel
set_option maxRecDepth 20000 in
theorem ggX4_saveTo_X6_put : GoodIn wsX4_saveTo wsX6_put := goodIn_r _ [8] (by decide +kernel) (by decide +kernel)
set_option maxRecDepth 20000 in
theorem gX4_saveTo_X6_put_n53 : GoodIn wsX4_saveTo (wsX6_put) := ggX4_saveTo_X6_put
theorem dX4_saveTo_0 : decode cX4_saveTo 0 = .ok (.iload_n 2, 1) := by decide +kernel
theorem dX4_saveTo_1 : decode cX4_saveTo 1 = .ok (.iconst 5, 1) := by decide +kernel
theorem dX4_saveTo_2 : decode cX4_saveTo 2 = .ok (.imul, 1) := by decide +kernel
theorem dX4_saveTo_3 : decode cX4_saveTo 3 = .ok (.istore_n 3, 1) := by decide +kernel
theorem dX4_saveTo_4 : decode cX4_saveTo 4 = .ok (.aload_n 1, 1) := by decide +kernel
theorem dX4_saveTo_5 : decode cX4_saveTo 5 = .ok (.iload_n 3, 1) := by decide +kernel
theorem dX4_saveTo_6 : decode cX4_saveTo 6 = .ok (.aload_n 0, 1) := by decide +kernel
theorem dX4_saveTo_7 : decode cX4_saveTo 7 = .ok (.getfield 15, 3) := by decide +kernel
theorem dX4_saveTo_10 : decode cX4_saveTo 10 = .ok (.invokestatic 53, 3) := by decide +kernel
theorem dX4_saveTo_13 : decode cX4_saveTo 13 = .ok (.aload_n 1, 1) := by decide +kernel
theorem dX4_saveTo_14 : decode cX4_saveTo 14 = .ok (.iload_n 3, 1) := by decide +kernel
theorem dX4_saveTo_15 : decode cX4_saveTo 15 = .ok (.iconst 1, 1) := by decide +kernel
theorem dX4_saveTo_16 : decode cX4_saveTo 16 = .ok (.iadd, 1) := by decide +kernel
theorem dX4_saveTo_17 : decode cX4_saveTo 17 = .ok (.aload_n 0, 1) := by decide +kernel
theorem dX4_saveTo_18 : decode cX4_saveTo 18 = .ok (.getfield 19, 3) := by decide +kernel
theorem dX4_saveTo_21 : decode cX4_saveTo 21 = .ok (.invokestatic 53, 3) := by decide +kernel
theorem dX4_saveTo_24 : decode cX4_saveTo 24 = .ok (.aload_n 1, 1) := by decide +kernel
theorem dX4_saveTo_25 : decode cX4_saveTo 25 = .ok (.iload_n 3, 1) := by decide +kernel
theorem dX4_saveTo_26 : decode cX4_saveTo 26 = .ok (.iconst 2, 1) := by decide +kernel
theorem dX4_saveTo_27 : decode cX4_saveTo 27 = .ok (.iadd, 1) := by decide +kernel
theorem dX4_saveTo_28 : decode cX4_saveTo 28 = .ok (.aload_n 0, 1) := by decide +kernel
theorem dX4_saveTo_29 : decode cX4_saveTo 29 = .ok (.getfield 22, 3) := by decide +kernel
theorem dX4_saveTo_32 : decode cX4_saveTo 32 = .ok (.invokestatic 53, 3) := by decide +kernel
theorem dX4_saveTo_35 : decode cX4_saveTo 35 = .ok (.aload_n 1, 1) := by decide +kernel
theorem dX4_saveTo_36 : decode cX4_saveTo 36 = .ok (.iload_n 3, 1) := by decide +kernel
theorem dX4_saveTo_37 : decode cX4_saveTo 37 = .ok (.iconst 3, 1) := by decide +kernel
theorem dX4_saveTo_38 : decode cX4_saveTo 38 = .ok (.iadd, 1) := by decide +kernel
theorem dX4_saveTo_39 : decode cX4_saveTo 39 = .ok (.aload_n 0, 1) := by decide +kernel
theorem dX4_saveTo_40 : decode cX4_saveTo 40 = .ok (.getfield 25, 3) := by decide +kernel
theorem dX4_saveTo_43 : decode cX4_saveTo 43 = .ok (.invokestatic 53, 3) := by decide +kernel
theorem dX4_saveTo_46 : decode cX4_saveTo 46 = .ok (.aload_n 1, 1) := by decide +kernel
theorem dX4_saveTo_47 : decode cX4_saveTo 47 = .ok (.iload_n 3, 1) := by decide +kernel
theorem dX4_saveTo_48 : decode cX4_saveTo 48 = .ok (.iconst 4, 1) := by decide +kernel
theorem dX4_saveTo_49 : decode cX4_saveTo 49 = .ok (.iadd, 1) := by decide +kernel
theorem dX4_saveTo_50 : decode cX4_saveTo 50 = .ok (.aload_n 0, 1) := by decide +kernel
theorem dX4_saveTo_51 : decode cX4_saveTo 51 = .ok (.getfield 28, 3) := by decide +kernel
theorem dX4_saveTo_54 : decode cX4_saveTo 54 = .ok (.invokestatic 53, 3) := by decide +kernel
theorem dX4_saveTo_57 : decode cX4_saveTo 57 = .ok (.return_, 1) := by decide +kernel
set_option maxRecDepth 20000 in
theorem ggX4_loadFrom_X6_at : GoodIn wsX4_loadFrom wsX6_at := goodIn_r _ [8] (by decide +kernel) (by decide +kernel)
set_option maxRecDepth 20000 in
theorem gX4_loadFrom_X6_at_n39 : GoodIn wsX4_loadFrom (wsX6_at) := ggX4_loadFrom_X6_at
theorem dX4_loadFrom_0 : decode cX4_loadFrom 0 = .ok (.iload_n 2, 1) := by decide +kernel
theorem dX4_loadFrom_1 : decode cX4_loadFrom 1 = .ok (.iconst 5, 1) := by decide +kernel
theorem dX4_loadFrom_2 : decode cX4_loadFrom 2 = .ok (.imul, 1) := by decide +kernel
theorem dX4_loadFrom_3 : decode cX4_loadFrom 3 = .ok (.istore_n 3, 1) := by decide +kernel
theorem dX4_loadFrom_4 : decode cX4_loadFrom 4 = .ok (.aload_n 0, 1) := by decide +kernel
theorem dX4_loadFrom_5 : decode cX4_loadFrom 5 = .ok (.aload_n 1, 1) := by decide +kernel
theorem dX4_loadFrom_6 : decode cX4_loadFrom 6 = .ok (.iload_n 3, 1) := by decide +kernel
theorem dX4_loadFrom_7 : decode cX4_loadFrom 7 = .ok (.invokestatic 39, 3) := by decide +kernel
theorem dX4_loadFrom_10 : decode cX4_loadFrom 10 = .ok (.putfield 15, 3) := by decide +kernel
theorem dX4_loadFrom_13 : decode cX4_loadFrom 13 = .ok (.aload_n 0, 1) := by decide +kernel
theorem dX4_loadFrom_14 : decode cX4_loadFrom 14 = .ok (.aload_n 1, 1) := by decide +kernel
theorem dX4_loadFrom_15 : decode cX4_loadFrom 15 = .ok (.iload_n 3, 1) := by decide +kernel
theorem dX4_loadFrom_16 : decode cX4_loadFrom 16 = .ok (.iconst 1, 1) := by decide +kernel
theorem dX4_loadFrom_17 : decode cX4_loadFrom 17 = .ok (.iadd, 1) := by decide +kernel
theorem dX4_loadFrom_18 : decode cX4_loadFrom 18 = .ok (.invokestatic 39, 3) := by decide +kernel
theorem dX4_loadFrom_21 : decode cX4_loadFrom 21 = .ok (.putfield 19, 3) := by decide +kernel
theorem dX4_loadFrom_24 : decode cX4_loadFrom 24 = .ok (.aload_n 0, 1) := by decide +kernel
theorem dX4_loadFrom_25 : decode cX4_loadFrom 25 = .ok (.aload_n 1, 1) := by decide +kernel
theorem dX4_loadFrom_26 : decode cX4_loadFrom 26 = .ok (.iload_n 3, 1) := by decide +kernel
theorem dX4_loadFrom_27 : decode cX4_loadFrom 27 = .ok (.iconst 2, 1) := by decide +kernel
theorem dX4_loadFrom_28 : decode cX4_loadFrom 28 = .ok (.iadd, 1) := by decide +kernel
theorem dX4_loadFrom_29 : decode cX4_loadFrom 29 = .ok (.invokestatic 39, 3) := by decide +kernel
theorem dX4_loadFrom_32 : decode cX4_loadFrom 32 = .ok (.putfield 22, 3) := by decide +kernel
theorem dX4_loadFrom_35 : decode cX4_loadFrom 35 = .ok (.aload_n 0, 1) := by decide +kernel
theorem dX4_loadFrom_36 : decode cX4_loadFrom 36 = .ok (.aload_n 1, 1) := by decide +kernel
theorem dX4_loadFrom_37 : decode cX4_loadFrom 37 = .ok (.iload_n 3, 1) := by decide +kernel
theorem dX4_loadFrom_38 : decode cX4_loadFrom 38 = .ok (.iconst 3, 1) := by decide +kernel
theorem dX4_loadFrom_39 : decode cX4_loadFrom 39 = .ok (.iadd, 1) := by decide +kernel
theorem dX4_loadFrom_40 : decode cX4_loadFrom 40 = .ok (.invokestatic 39, 3) := by decide +kernel
theorem dX4_loadFrom_43 : decode cX4_loadFrom 43 = .ok (.putfield 25, 3) := by decide +kernel
theorem dX4_loadFrom_46 : decode cX4_loadFrom 46 = .ok (.aload_n 0, 1) := by decide +kernel
theorem dX4_loadFrom_47 : decode cX4_loadFrom 47 = .ok (.aload_n 1, 1) := by decide +kernel
theorem dX4_loadFrom_48 : decode cX4_loadFrom 48 = .ok (.iload_n 3, 1) := by decide +kernel
theorem dX4_loadFrom_49 : decode cX4_loadFrom 49 = .ok (.iconst 4, 1) := by decide +kernel
theorem dX4_loadFrom_50 : decode cX4_loadFrom 50 = .ok (.iadd, 1) := by decide +kernel
theorem dX4_loadFrom_51 : decode cX4_loadFrom 51 = .ok (.invokestatic 39, 3) := by decide +kernel
theorem dX4_loadFrom_54 : decode cX4_loadFrom 54 = .ok (.putfield 28, 3) := by decide +kernel
theorem dX4_loadFrom_57 : decode cX4_loadFrom 57 = .ok (.return_, 1) := by decide +kernel
theorem dX4_placeOf_0 : decode cX4_placeOf 0 = .ok (.aload_n 0, 1) := by decide +kernel
theorem dX4_placeOf_1 : decode cX4_placeOf 1 = .ok (.getfield 15, 3) := by decide +kernel
theorem dX4_placeOf_4 : decode cX4_placeOf 4 = .ok (.iconst 4, 1) := by decide +kernel
theorem dX4_placeOf_5 : decode cX4_placeOf 5 = .ok (.iload_n 1, 1) := by decide +kernel
theorem dX4_placeOf_6 : decode cX4_placeOf 6 = .ok (.imul, 1) := by decide +kernel
theorem dX4_placeOf_7 : decode cX4_placeOf 7 = .ok (.ishr, 1) := by decide +kernel
theorem dX4_placeOf_8 : decode cX4_placeOf 8 = .ok (.bipush 15, 2) := by decide +kernel
theorem dX4_placeOf_10 : decode cX4_placeOf 10 = .ok (.iand, 1) := by decide +kernel
theorem dX4_placeOf_11 : decode cX4_placeOf 11 = .ok (.ireturn, 1) := by decide +kernel
theorem dX4_putAt_0 : decode cX4_putAt 0 = .ok (.aload_n 0, 1) := by decide +kernel
theorem dX4_putAt_1 : decode cX4_putAt 1 = .ok (.aload_n 0, 1) := by decide +kernel
theorem dX4_putAt_2 : decode cX4_putAt 2 = .ok (.getfield 15, 3) := by decide +kernel
theorem dX4_putAt_5 : decode cX4_putAt 5 = .ok (.bipush 15, 2) := by decide +kernel
theorem dX4_putAt_7 : decode cX4_putAt 7 = .ok (.iconst 4, 1) := by decide +kernel
theorem dX4_putAt_8 : decode cX4_putAt 8 = .ok (.iload_n 1, 1) := by decide +kernel
theorem dX4_putAt_9 : decode cX4_putAt 9 = .ok (.imul, 1) := by decide +kernel
theorem dX4_putAt_10 : decode cX4_putAt 10 = .ok (.ishl, 1) := by decide +kernel
theorem dX4_putAt_11 : decode cX4_putAt 11 = .ok (.iconst (-1), 1) := by decide +kernel
theorem dX4_putAt_12 : decode cX4_putAt 12 = .ok (.ixor, 1) := by decide +kernel
theorem dX4_putAt_13 : decode cX4_putAt 13 = .ok (.iand, 1) := by decide +kernel
theorem dX4_putAt_14 : decode cX4_putAt 14 = .ok (.iload_n 2, 1) := by decide +kernel
theorem dX4_putAt_15 : decode cX4_putAt 15 = .ok (.iconst 4, 1) := by decide +kernel
theorem dX4_putAt_16 : decode cX4_putAt 16 = .ok (.iload_n 1, 1) := by decide +kernel
theorem dX4_putAt_17 : decode cX4_putAt 17 = .ok (.imul, 1) := by decide +kernel
theorem dX4_putAt_18 : decode cX4_putAt 18 = .ok (.ishl, 1) := by decide +kernel
theorem dX4_putAt_19 : decode cX4_putAt 19 = .ok (.ior, 1) := by decide +kernel
theorem dX4_putAt_20 : decode cX4_putAt 20 = .ok (.putfield 15, 3) := by decide +kernel
theorem dX4_putAt_23 : decode cX4_putAt 23 = .ok (.return_, 1) := by decide +kernel
set_option maxRecDepth 20000 in
theorem ggX4_isSworn_X1_hasOath : GoodIn wsX4_isSworn wsX1_hasOath := goodIn_r _ [7, 8, 9, 10, 11, 20, 21, 22, 23, 24, 25, 26, 27, 28, 29, 30] (by decide +kernel) (by decide +kernel)
set_option maxRecDepth 20000 in
theorem gX4_isSworn_X1_hasOath : GoodIn wsX4_isSworn (wsV RX4 57 RX1 yX1_hasOath wsX1_hasOath) := goodIn_app (goodIn_of _ (by decide +kernel)) ggX4_isSworn_X1_hasOath
set_option maxRecDepth 20000 in
theorem ggX4_isSworn_X6_bit : GoodIn wsX4_isSworn wsX6_bit := goodIn_r _ [13] (by decide +kernel) (by decide +kernel)
set_option maxRecDepth 20000 in
theorem gX4_isSworn_X6_bit_n61 : GoodIn wsX4_isSworn (wsX6_bit) := ggX4_isSworn_X6_bit
theorem dX4_isSworn_0 : decode cX4_isSworn 0 = .ok (.aload_n 0, 1) := by decide +kernel
theorem dX4_isSworn_1 : decode cX4_isSworn 1 = .ok (.getfield 9, 3) := by decide +kernel
theorem dX4_isSworn_4 : decode cX4_isSworn 4 = .ok (.iload_n 1, 1) := by decide +kernel
theorem dX4_isSworn_5 : decode cX4_isSworn 5 = .ok (.invokevirtual 57, 3) := by decide +kernel
theorem dX4_isSworn_8 : decode cX4_isSworn 8 = .ok (.ifCond .eq 19, 3) := by decide +kernel
theorem dX4_isSworn_11 : decode cX4_isSworn 11 = .ok (.aload_n 0, 1) := by decide +kernel
theorem dX4_isSworn_12 : decode cX4_isSworn 12 = .ok (.getfield 22, 3) := by decide +kernel
theorem dX4_isSworn_15 : decode cX4_isSworn 15 = .ok (.iload_n 1, 1) := by decide +kernel
theorem dX4_isSworn_16 : decode cX4_isSworn 16 = .ok (.invokestatic 61, 3) := by decide +kernel
theorem dX4_isSworn_19 : decode cX4_isSworn 19 = .ok (.iconst 1, 1) := by decide +kernel
theorem dX4_isSworn_20 : decode cX4_isSworn 20 = .ok (.if_icmp .ne 7, 3) := by decide +kernel
theorem dX4_isSworn_23 : decode cX4_isSworn 23 = .ok (.iconst 1, 1) := by decide +kernel
theorem dX4_isSworn_24 : decode cX4_isSworn 24 = .ok (.goto 4, 3) := by decide +kernel
theorem dX4_isSworn_27 : decode cX4_isSworn 27 = .ok (.iconst 0, 1) := by decide +kernel
theorem dX4_isSworn_28 : decode cX4_isSworn 28 = .ok (.ireturn, 1) := by decide +kernel
set_option maxRecDepth 20000 in
theorem ggX4_canSwear_X1_hasOath : GoodIn wsX4_canSwear wsX1_hasOath := goodIn_r _ [7, 8, 9, 10, 11, 28, 29, 30, 31, 32, 33, 34, 35, 36, 37, 38] (by decide +kernel) (by decide +kernel)
set_option maxRecDepth 20000 in
theorem gX4_canSwear_X1_hasOath : GoodIn wsX4_canSwear (wsV RX4 57 RX1 yX1_hasOath wsX1_hasOath) := goodIn_app (goodIn_of _ (by decide +kernel)) ggX4_canSwear_X1_hasOath
set_option maxRecDepth 20000 in
theorem ggX4_canSwear_X4_isSworn : GoodIn wsX4_canSwear wsX4_isSworn := goodIn_r _ [16, 1, 17, 3, 4, 5, 6, 7, 8, 9, 10, 11, 18, 19, 22, 23, 24, 25, 26, 27, 28, 29, 30, 31, 32, 33, 34, 35, 36, 37, 38] (by decide +kernel) (by decide +kernel)
set_option maxRecDepth 20000 in
theorem gX4_canSwear_X4_isSworn : GoodIn wsX4_canSwear (wsV RX4 65 RX4 yX4_isSworn wsX4_isSworn) := goodIn_app (goodIn_of _ (by decide +kernel)) ggX4_canSwear_X4_isSworn
set_option maxRecDepth 20000 in
theorem ggX4_canSwear_X6_at : GoodIn wsX4_canSwear wsX6_at := goodIn_r _ [21] (by decide +kernel) (by decide +kernel)
set_option maxRecDepth 20000 in
theorem gX4_canSwear_X6_at_n39 : GoodIn wsX4_canSwear (wsX6_at) := ggX4_canSwear_X6_at
theorem dX4_canSwear_0 : decode cX4_canSwear 0 = .ok (.aload_n 0, 1) := by decide +kernel
theorem dX4_canSwear_1 : decode cX4_canSwear 1 = .ok (.getfield 9, 3) := by decide +kernel
theorem dX4_canSwear_4 : decode cX4_canSwear 4 = .ok (.iload_n 1, 1) := by decide +kernel
theorem dX4_canSwear_5 : decode cX4_canSwear 5 = .ok (.invokevirtual 57, 3) := by decide +kernel
theorem dX4_canSwear_8 : decode cX4_canSwear 8 = .ok (.ifCond .eq 11, 3) := by decide +kernel
theorem dX4_canSwear_11 : decode cX4_canSwear 11 = .ok (.aload_n 0, 1) := by decide +kernel
theorem dX4_canSwear_12 : decode cX4_canSwear 12 = .ok (.iload_n 1, 1) := by decide +kernel
theorem dX4_canSwear_13 : decode cX4_canSwear 13 = .ok (.invokevirtual 65, 3) := by decide +kernel
theorem dX4_canSwear_16 : decode cX4_canSwear 16 = .ok (.ifCond .eq 5, 3) := by decide +kernel
theorem dX4_canSwear_19 : decode cX4_canSwear 19 = .ok (.iconst 0, 1) := by decide +kernel
theorem dX4_canSwear_20 : decode cX4_canSwear 20 = .ok (.ireturn, 1) := by decide +kernel
theorem dX4_canSwear_21 : decode cX4_canSwear 21 = .ok (.aload_n 0, 1) := by decide +kernel
theorem dX4_canSwear_22 : decode cX4_canSwear 22 = .ok (.getfield 9, 3) := by decide +kernel
theorem dX4_canSwear_25 : decode cX4_canSwear 25 = .ok (.getfield 68, 3) := by decide +kernel
theorem dX4_canSwear_28 : decode cX4_canSwear 28 = .ok (.iload_n 1, 1) := by decide +kernel
theorem dX4_canSwear_29 : decode cX4_canSwear 29 = .ok (.invokestatic 39, 3) := by decide +kernel
theorem dX4_canSwear_32 : decode cX4_canSwear 32 = .ok (.istore_n 2, 1) := by decide +kernel
theorem dX4_canSwear_33 : decode cX4_canSwear 33 = .ok (.iload_n 2, 1) := by decide +kernel
theorem dX4_canSwear_34 : decode cX4_canSwear 34 = .ok (.bipush (-9), 2) := by decide +kernel
theorem dX4_canSwear_36 : decode cX4_canSwear 36 = .ok (.if_icmp .eq 11, 3) := by decide +kernel
theorem dX4_canSwear_39 : decode cX4_canSwear 39 = .ok (.aload_n 0, 1) := by decide +kernel
theorem dX4_canSwear_40 : decode cX4_canSwear 40 = .ok (.iload_n 2, 1) := by decide +kernel
theorem dX4_canSwear_41 : decode cX4_canSwear 41 = .ok (.invokevirtual 65, 3) := by decide +kernel
theorem dX4_canSwear_44 : decode cX4_canSwear 44 = .ok (.ifCond .eq 7, 3) := by decide +kernel
theorem dX4_canSwear_47 : decode cX4_canSwear 47 = .ok (.iconst 1, 1) := by decide +kernel
theorem dX4_canSwear_48 : decode cX4_canSwear 48 = .ok (.goto 4, 3) := by decide +kernel
theorem dX4_canSwear_51 : decode cX4_canSwear 51 = .ok (.iconst 0, 1) := by decide +kernel
theorem dX4_canSwear_52 : decode cX4_canSwear 52 = .ok (.ireturn, 1) := by decide +kernel
set_option maxRecDepth 20000 in
theorem ggX4_trySwear_X4_canSwear : GoodIn wsX4_trySwear wsX4_canSwear := goodIn_r _ [6, 7, 8, 9, 10, 11, 12, 13, 14, 15, 16, 17, 18, 19, 20, 5, 21, 1, 22, 23, 24, 25, 26, 27, 28, 29, 30, 31, 32, 33, 34, 35, 36, 37, 38, 39, 40, 41, 42] (by decide +kernel) (by decide +kernel)
set_option maxRecDepth 20000 in
theorem gX4_trySwear_X4_canSwear : GoodIn wsX4_trySwear (wsV RX4 71 RX4 yX4_canSwear wsX4_canSwear) := goodIn_app (goodIn_of _ (by decide +kernel)) ggX4_trySwear_X4_canSwear
theorem dX4_trySwear_0 : decode cX4_trySwear 0 = .ok (.aload_n 0, 1) := by decide +kernel
theorem dX4_trySwear_1 : decode cX4_trySwear 1 = .ok (.iload_n 1, 1) := by decide +kernel
theorem dX4_trySwear_2 : decode cX4_trySwear 2 = .ok (.invokevirtual 71, 3) := by decide +kernel
theorem dX4_trySwear_5 : decode cX4_trySwear 5 = .ok (.ifCond .ne 5, 3) := by decide +kernel
theorem dX4_trySwear_8 : decode cX4_trySwear 8 = .ok (.iconst 0, 1) := by decide +kernel
theorem dX4_trySwear_9 : decode cX4_trySwear 9 = .ok (.ireturn, 1) := by decide +kernel
theorem dX4_trySwear_10 : decode cX4_trySwear 10 = .ok (.aload_n 0, 1) := by decide +kernel
theorem dX4_trySwear_11 : decode cX4_trySwear 11 = .ok (.dup, 1) := by decide +kernel
theorem dX4_trySwear_12 : decode cX4_trySwear 12 = .ok (.getfield 22, 3) := by decide +kernel
theorem dX4_trySwear_15 : decode cX4_trySwear 15 = .ok (.iconst 1, 1) := by decide +kernel
theorem dX4_trySwear_16 : decode cX4_trySwear 16 = .ok (.iload_n 1, 1) := by decide +kernel
theorem dX4_trySwear_17 : decode cX4_trySwear 17 = .ok (.ishl, 1) := by decide +kernel
theorem dX4_trySwear_18 : decode cX4_trySwear 18 = .ok (.ior, 1) := by decide +kernel
theorem dX4_trySwear_19 : decode cX4_trySwear 19 = .ok (.putfield 22, 3) := by decide +kernel
theorem dX4_trySwear_22 : decode cX4_trySwear 22 = .ok (.iconst 1, 1) := by decide +kernel
theorem dX4_trySwear_23 : decode cX4_trySwear 23 = .ok (.ireturn, 1) := by decide +kernel
set_option maxRecDepth 20000 in
theorem ggX4_tryLetOff_X4_isSworn : GoodIn wsX4_tryLetOff wsX4_isSworn := goodIn_r _ [5, 6, 7, 8, 9, 10, 11, 12, 13, 14, 15, 16, 17, 18, 38, 39, 40, 41, 42, 43, 44, 45, 46, 47, 48, 49, 50, 51, 52, 53, 54] (by decide +kernel) (by decide +kernel)
set_option maxRecDepth 20000 in
theorem gX4_tryLetOff_X4_isSworn : GoodIn wsX4_tryLetOff (wsV RX4 65 RX4 yX4_isSworn wsX4_isSworn) := goodIn_app (goodIn_of _ (by decide +kernel)) ggX4_tryLetOff_X4_isSworn
set_option maxRecDepth 20000 in
theorem ggX4_tryLetOff_X4_letOff : GoodIn wsX4_tryLetOff wsX4_letOff := goodIn_r _ [22, 7, 23, 24, 25, 4, 26, 6, 27, 28, 29, 15, 30, 17, 18, 31, 32, 33, 34, 35, 36, 37, 38, 39, 40, 41, 42, 43, 44, 45, 46, 47, 48, 49, 50, 51, 52, 53, 54] (by decide +kernel) (by decide +kernel)
set_option maxRecDepth 20000 in
theorem gX4_tryLetOff_X4_letOff : GoodIn wsX4_tryLetOff (wsV RX4 74 RX4 yX4_letOff wsX4_letOff) := goodIn_app (goodIn_of _ (by decide +kernel)) ggX4_tryLetOff_X4_letOff
theorem dX4_tryLetOff_0 : decode cX4_tryLetOff 0 = .ok (.aload_n 0, 1) := by decide +kernel
theorem dX4_tryLetOff_1 : decode cX4_tryLetOff 1 = .ok (.iload_n 1, 1) := by decide +kernel
theorem dX4_tryLetOff_2 : decode cX4_tryLetOff 2 = .ok (.invokevirtual 65, 3) := by decide +kernel
theorem dX4_tryLetOff_5 : decode cX4_tryLetOff 5 = .ok (.ifCond .ne 5, 3) := by decide +kernel
theorem dX4_tryLetOff_8 : decode cX4_tryLetOff 8 = .ok (.iconst 0, 1) := by decide +kernel
theorem dX4_tryLetOff_9 : decode cX4_tryLetOff 9 = .ok (.ireturn, 1) := by decide +kernel
theorem dX4_tryLetOff_10 : decode cX4_tryLetOff 10 = .ok (.aload_n 0, 1) := by decide +kernel
theorem dX4_tryLetOff_11 : decode cX4_tryLetOff 11 = .ok (.iload_n 1, 1) := by decide +kernel
theorem dX4_tryLetOff_12 : decode cX4_tryLetOff 12 = .ok (.invokevirtual 74, 3) := by decide +kernel
theorem dX4_tryLetOff_15 : decode cX4_tryLetOff 15 = .ok (.pop, 1) := by decide +kernel
theorem dX4_tryLetOff_16 : decode cX4_tryLetOff 16 = .ok (.iconst 1, 1) := by decide +kernel
theorem dX4_tryLetOff_17 : decode cX4_tryLetOff 17 = .ok (.ireturn, 1) := by decide +kernel
set_option maxRecDepth 20000 in
theorem ggX4_tryMove_X1_hasPerson : GoodIn wsX4_tryMove wsX1_hasPerson := goodIn_r _ [6, 7, 8, 9, 10, 27, 28, 29, 30, 31, 32, 33, 34, 35, 36, 37] (by decide +kernel) (by decide +kernel)
set_option maxRecDepth 20000 in
theorem gX4_tryMove_X1_hasPerson : GoodIn wsX4_tryMove (wsV RX4 78 RX1 yX1_hasPerson wsX1_hasPerson) := goodIn_app (goodIn_of _ (by decide +kernel)) ggX4_tryMove_X1_hasPerson
set_option maxRecDepth 20000 in
theorem ggX4_tryMove_X4_placeOf : GoodIn wsX4_tryMove wsX4_placeOf := goodIn_r _ [15, 16, 21, 22, 23, 24, 25, 26] (by decide +kernel) (by decide +kernel)
set_option maxRecDepth 20000 in
theorem gX4_tryMove_X4_placeOf : GoodIn wsX4_tryMove (wsV RX4 81 RX4 yX4_placeOf wsX4_placeOf) := goodIn_app (goodIn_of _ (by decide +kernel)) ggX4_tryMove_X4_placeOf
set_option maxRecDepth 20000 in
theorem ggX4_tryMove_X4_putAt : GoodIn wsX4_tryMove wsX4_putAt := goodIn_r _ [20, 16, 21, 22, 23, 24, 25, 26] (by decide +kernel) (by decide +kernel)
set_option maxRecDepth 20000 in
theorem gX4_tryMove_X4_putAt : GoodIn wsX4_tryMove (wsV RX4 43 RX4 yX4_putAt wsX4_putAt) := goodIn_app (goodIn_of _ (by decide +kernel)) ggX4_tryMove_X4_putAt
theorem dX4_tryMove_0 : decode cX4_tryMove 0 = .ok (.aload_n 0, 1) := by decide +kernel
theorem dX4_tryMove_1 : decode cX4_tryMove 1 = .ok (.getfield 9, 3) := by decide +kernel
theorem dX4_tryMove_4 : decode cX4_tryMove 4 = .ok (.iload_n 1, 1) := by decide +kernel
theorem dX4_tryMove_5 : decode cX4_tryMove 5 = .ok (.invokevirtual 78, 3) := by decide +kernel
theorem dX4_tryMove_8 : decode cX4_tryMove 8 = .ok (.ifCond .eq 12, 3) := by decide +kernel
theorem dX4_tryMove_11 : decode cX4_tryMove 11 = .ok (.aload_n 0, 1) := by decide +kernel
theorem dX4_tryMove_12 : decode cX4_tryMove 12 = .ok (.iload_n 1, 1) := by decide +kernel
theorem dX4_tryMove_13 : decode cX4_tryMove 13 = .ok (.invokevirtual 81, 3) := by decide +kernel
theorem dX4_tryMove_16 : decode cX4_tryMove 16 = .ok (.iload_n 2, 1) := by decide +kernel
theorem dX4_tryMove_17 : decode cX4_tryMove 17 = .ok (.if_icmp .ne 5, 3) := by decide +kernel
theorem dX4_tryMove_20 : decode cX4_tryMove 20 = .ok (.iconst 0, 1) := by decide +kernel
theorem dX4_tryMove_21 : decode cX4_tryMove 21 = .ok (.ireturn, 1) := by decide +kernel
theorem dX4_tryMove_22 : decode cX4_tryMove 22 = .ok (.aload_n 0, 1) := by decide +kernel
theorem dX4_tryMove_23 : decode cX4_tryMove 23 = .ok (.iload_n 1, 1) := by decide +kernel
theorem dX4_tryMove_24 : decode cX4_tryMove 24 = .ok (.iload_n 2, 1) := by decide +kernel
theorem dX4_tryMove_25 : decode cX4_tryMove 25 = .ok (.invokevirtual 43, 3) := by decide +kernel
theorem dX4_tryMove_28 : decode cX4_tryMove 28 = .ok (.iconst 1, 1) := by decide +kernel
theorem dX4_tryMove_29 : decode cX4_tryMove 29 = .ok (.ireturn, 1) := by decide +kernel
set_option maxRecDepth 20000 in
theorem ggX4_tryWool_X1_canTurnWool : GoodIn wsX4_tryWool wsX1_canTurnWool := goodIn_r _ [7, 8, 9, 10, 6, 11, 12, 13, 14, 15, 16, 17, 18, 19, 20, 21, 22, 29, 30, 31, 32, 33, 34, 35, 36, 37, 38, 39] (by decide +kernel) (by decide +kernel)
set_option maxRecDepth 20000 in
theorem gX4_tryWool_X1_canTurnWool : GoodIn wsX4_tryWool (wsV RX4 84 RX1 yX1_canTurnWool wsX1_canTurnWool) := goodIn_app (goodIn_of _ (by decide +kernel)) ggX4_tryWool_X1_canTurnWool
theorem dX4_tryWool_0 : decode cX4_tryWool 0 = .ok (.aload_n 0, 1) := by decide +kernel
theorem dX4_tryWool_1 : decode cX4_tryWool 1 = .ok (.getfield 9, 3) := by decide +kernel
theorem dX4_tryWool_4 : decode cX4_tryWool 4 = .ok (.iload_n 1, 1) := by decide +kernel
theorem dX4_tryWool_5 : decode cX4_tryWool 5 = .ok (.invokevirtual 84, 3) := by decide +kernel
theorem dX4_tryWool_8 : decode cX4_tryWool 8 = .ok (.ifCond .ne 5, 3) := by decide +kernel
theorem dX4_tryWool_11 : decode cX4_tryWool 11 = .ok (.iconst 0, 1) := by decide +kernel
theorem dX4_tryWool_12 : decode cX4_tryWool 12 = .ok (.ireturn, 1) := by decide +kernel
theorem dX4_tryWool_13 : decode cX4_tryWool 13 = .ok (.aload_n 0, 1) := by decide +kernel
theorem dX4_tryWool_14 : decode cX4_tryWool 14 = .ok (.dup, 1) := by decide +kernel
theorem dX4_tryWool_15 : decode cX4_tryWool 15 = .ok (.getfield 19, 3) := by decide +kernel
theorem dX4_tryWool_18 : decode cX4_tryWool 18 = .ok (.iconst 1, 1) := by decide +kernel
theorem dX4_tryWool_19 : decode cX4_tryWool 19 = .ok (.iload_n 1, 1) := by decide +kernel
theorem dX4_tryWool_20 : decode cX4_tryWool 20 = .ok (.ishl, 1) := by decide +kernel
theorem dX4_tryWool_21 : decode cX4_tryWool 21 = .ok (.ixor, 1) := by decide +kernel
theorem dX4_tryWool_22 : decode cX4_tryWool 22 = .ok (.putfield 19, 3) := by decide +kernel
theorem dX4_tryWool_25 : decode cX4_tryWool 25 = .ok (.iconst 1, 1) := by decide +kernel
theorem dX4_tryWool_26 : decode cX4_tryWool 26 = .ok (.ireturn, 1) := by decide +kernel
set_option maxRecDepth 20000 in
theorem ggX4_chooseWool_X1_isOf : GoodIn wsX4_chooseWool wsX1_isOf := goodIn_r _ [7, 8, 9, 10, 11, 6, 12, 13, 14, 15, 16, 17, 18, 25, 26, 27, 28, 29, 30, 31, 32, 33, 34, 35] (by decide +kernel) (by decide +kernel)
set_option maxRecDepth 20000 in
theorem gX4_chooseWool_X1_isOf : GoodIn wsX4_chooseWool (wsV RX4 87 RX1 yX1_isOf wsX1_isOf) := goodIn_app (goodIn_of _ (by decide +kernel)) ggX4_chooseWool_X1_isOf
theorem dX4_chooseWool_0 : decode cX4_chooseWool 0 = .ok (.iload_n 2, 1) := by decide +kernel
theorem dX4_chooseWool_1 : decode cX4_chooseWool 1 = .ok (.iconst 1, 1) := by decide +kernel
theorem dX4_chooseWool_2 : decode cX4_chooseWool 2 = .ok (.if_icmp .eq 15, 3) := by decide +kernel
theorem dX4_chooseWool_5 : decode cX4_chooseWool 5 = .ok (.aload_n 0, 1) := by decide +kernel
theorem dX4_chooseWool_6 : decode cX4_chooseWool 6 = .ok (.getfield 9, 3) := by decide +kernel
theorem dX4_chooseWool_9 : decode cX4_chooseWool 9 = .ok (.iload_n 1, 1) := by decide +kernel
theorem dX4_chooseWool_10 : decode cX4_chooseWool 10 = .ok (.iconst 1, 1) := by decide +kernel
theorem dX4_chooseWool_11 : decode cX4_chooseWool 11 = .ok (.invokevirtual 87, 3) := by decide +kernel
theorem dX4_chooseWool_14 : decode cX4_chooseWool 14 = .ok (.ifCond .eq 18, 3) := by decide +kernel
theorem dX4_chooseWool_17 : decode cX4_chooseWool 17 = .ok (.aload_n 0, 1) := by decide +kernel
theorem dX4_chooseWool_18 : decode cX4_chooseWool 18 = .ok (.dup, 1) := by decide +kernel
theorem dX4_chooseWool_19 : decode cX4_chooseWool 19 = .ok (.getfield 19, 3) := by decide +kernel
theorem dX4_chooseWool_22 : decode cX4_chooseWool 22 = .ok (.iconst 1, 1) := by decide +kernel
theorem dX4_chooseWool_23 : decode cX4_chooseWool 23 = .ok (.iload_n 1, 1) := by decide +kernel
theorem dX4_chooseWool_24 : decode cX4_chooseWool 24 = .ok (.ishl, 1) := by decide +kernel
theorem dX4_chooseWool_25 : decode cX4_chooseWool 25 = .ok (.ior, 1) := by decide +kernel
theorem dX4_chooseWool_26 : decode cX4_chooseWool 26 = .ok (.putfield 19, 3) := by decide +kernel
theorem dX4_chooseWool_29 : decode cX4_chooseWool 29 = .ok (.goto 17, 3) := by decide +kernel
theorem dX4_chooseWool_32 : decode cX4_chooseWool 32 = .ok (.aload_n 0, 1) := by decide +kernel
theorem dX4_chooseWool_33 : decode cX4_chooseWool 33 = .ok (.dup, 1) := by decide +kernel
theorem dX4_chooseWool_34 : decode cX4_chooseWool 34 = .ok (.getfield 19, 3) := by decide +kernel
theorem dX4_chooseWool_37 : decode cX4_chooseWool 37 = .ok (.iconst 1, 1) := by decide +kernel
theorem dX4_chooseWool_38 : decode cX4_chooseWool 38 = .ok (.iload_n 1, 1) := by decide +kernel
theorem dX4_chooseWool_39 : decode cX4_chooseWool 39 = .ok (.ishl, 1) := by decide +kernel
theorem dX4_chooseWool_40 : decode cX4_chooseWool 40 = .ok (.iconst (-1), 1) := by decide +kernel
theorem dX4_chooseWool_41 : decode cX4_chooseWool 41 = .ok (.ixor, 1) := by decide +kernel
theorem dX4_chooseWool_42 : decode cX4_chooseWool 42 = .ok (.iand, 1) := by decide +kernel
theorem dX4_chooseWool_43 : decode cX4_chooseWool 43 = .ok (.putfield 19, 3) := by decide +kernel
theorem dX4_chooseWool_46 : decode cX4_chooseWool 46 = .ok (.return_, 1) := by decide +kernel
set_option maxRecDepth 20000 in
theorem ggX4_hearers_X4_placeOf : GoodIn wsX4_hearers wsX4_placeOf := goodIn_r _ [9, 10, 18, 19, 20, 21, 22, 23] (by decide +kernel) (by decide +kernel)
set_option maxRecDepth 20000 in
theorem gX4_hearers_X4_placeOf : GoodIn wsX4_hearers (wsV RX4 81 RX4 yX4_placeOf wsX4_placeOf) := goodIn_app (goodIn_of _ (by decide +kernel)) ggX4_hearers_X4_placeOf
set_option maxRecDepth 20000 in
theorem ggX4_hearers_X6_bit : GoodIn wsX4_hearers wsX6_bit := goodIn_r _ [13] (by decide +kernel) (by decide +kernel)
set_option maxRecDepth 20000 in
theorem gX4_hearers_X6_bit_n61 : GoodIn wsX4_hearers (wsX6_bit) := ggX4_hearers_X6_bit
set_option maxRecDepth 20000 in
theorem ggX4_hearers_X6_reaches : GoodIn wsX4_hearers wsX6_reaches := goodIn_r _ [15] (by decide +kernel) (by decide +kernel)
set_option maxRecDepth 20000 in
theorem gX4_hearers_X6_reaches_n91 : GoodIn wsX4_hearers (wsX6_reaches) := ggX4_hearers_X6_reaches
set_option maxRecDepth 20000 in
theorem ggX4_hearers_X6_at : GoodIn wsX4_hearers wsX6_at := goodIn_r _ [17] (by decide +kernel) (by decide +kernel)
set_option maxRecDepth 20000 in
theorem gX4_hearers_X6_at_n39 : GoodIn wsX4_hearers (wsX6_at) := ggX4_hearers_X6_at
theorem dX4_hearers_0 : decode cX4_hearers 0 = .ok (.iconst 0, 1) := by decide +kernel
theorem dX4_hearers_1 : decode cX4_hearers 1 = .ok (.istore_n 3, 1) := by decide +kernel
theorem dX4_hearers_2 : decode cX4_hearers 2 = .ok (.iconst 0, 1) := by decide +kernel
theorem dX4_hearers_3 : decode cX4_hearers 3 = .ok (.istore 4, 2) := by decide +kernel
theorem dX4_hearers_5 : decode cX4_hearers 5 = .ok (.iload 4, 2) := by decide +kernel
theorem dX4_hearers_7 : decode cX4_hearers 7 = .ok (.aload_n 0, 1) := by decide +kernel
theorem dX4_hearers_8 : decode cX4_hearers 8 = .ok (.getfield 9, 3) := by decide +kernel
theorem dX4_hearers_11 : decode cX4_hearers 11 = .ok (.getfield 31, 3) := by decide +kernel
theorem dX4_hearers_14 : decode cX4_hearers 14 = .ok (.if_icmp .ge 68, 3) := by decide +kernel
theorem dX4_hearers_17 : decode cX4_hearers 17 = .ok (.iload_n 1, 1) := by decide +kernel
theorem dX4_hearers_18 : decode cX4_hearers 18 = .ok (.iload_n 2, 1) := by decide +kernel
theorem dX4_hearers_19 : decode cX4_hearers 19 = .ok (.aload_n 0, 1) := by decide +kernel
theorem dX4_hearers_20 : decode cX4_hearers 20 = .ok (.iload 4, 2) := by decide +kernel
theorem dX4_hearers_22 : decode cX4_hearers 22 = .ok (.invokevirtual 81, 3) := by decide +kernel
theorem dX4_hearers_25 : decode cX4_hearers 25 = .ok (.aload_n 0, 1) := by decide +kernel
theorem dX4_hearers_26 : decode cX4_hearers 26 = .ok (.getfield 19, 3) := by decide +kernel
theorem dX4_hearers_29 : decode cX4_hearers 29 = .ok (.iload 4, 2) := by decide +kernel
theorem dX4_hearers_31 : decode cX4_hearers 31 = .ok (.invokestatic 61, 3) := by decide +kernel
theorem dX4_hearers_34 : decode cX4_hearers 34 = .ok (.iconst 1, 1) := by decide +kernel
theorem dX4_hearers_35 : decode cX4_hearers 35 = .ok (.if_icmp .ne 7, 3) := by decide +kernel
theorem dX4_hearers_38 : decode cX4_hearers 38 = .ok (.iconst 1, 1) := by decide +kernel
theorem dX4_hearers_39 : decode cX4_hearers 39 = .ok (.goto 4, 3) := by decide +kernel
theorem dX4_hearers_42 : decode cX4_hearers 42 = .ok (.iconst 0, 1) := by decide +kernel
theorem dX4_hearers_43 : decode cX4_hearers 43 = .ok (.invokestatic 91, 3) := by decide +kernel
theorem dX4_hearers_46 : decode cX4_hearers 46 = .ok (.istore 5, 2) := by decide +kernel
theorem dX4_hearers_48 : decode cX4_hearers 48 = .ok (.iload 5, 2) := by decide +kernel
theorem dX4_hearers_50 : decode cX4_hearers 50 = .ok (.ifCond .eq 26, 3) := by decide +kernel
theorem dX4_hearers_53 : decode cX4_hearers 53 = .ok (.aload_n 0, 1) := by decide +kernel
theorem dX4_hearers_54 : decode cX4_hearers 54 = .ok (.getfield 9, 3) := by decide +kernel
theorem dX4_hearers_57 : decode cX4_hearers 57 = .ok (.getfield 95, 3) := by decide +kernel
theorem dX4_hearers_60 : decode cX4_hearers 60 = .ok (.iload 4, 2) := by decide +kernel
theorem dX4_hearers_62 : decode cX4_hearers 62 = .ok (.invokestatic 39, 3) := by decide +kernel
theorem dX4_hearers_65 : decode cX4_hearers 65 = .ok (.iconst 2, 1) := by decide +kernel
theorem dX4_hearers_66 : decode cX4_hearers 66 = .ok (.if_icmp .eq 10, 3) := by decide +kernel
theorem dX4_hearers_69 : decode cX4_hearers 69 = .ok (.iload_n 3, 1) := by decide +kernel
theorem dX4_hearers_70 : decode cX4_hearers 70 = .ok (.iconst 1, 1) := by decide +kernel
theorem dX4_hearers_71 : decode cX4_hearers 71 = .ok (.iload 4, 2) := by decide +kernel
theorem dX4_hearers_73 : decode cX4_hearers 73 = .ok (.ishl, 1) := by decide +kernel
theorem dX4_hearers_74 : decode cX4_hearers 74 = .ok (.ior, 1) := by decide +kernel
theorem dX4_hearers_75 : decode cX4_hearers 75 = .ok (.istore_n 3, 1) := by decide +kernel
theorem dX4_hearers_76 : decode cX4_hearers 76 = .ok (.iinc 4 1, 3) := by decide +kernel
theorem dX4_hearers_79 : decode cX4_hearers 79 = .ok (.goto (-74), 3) := by decide +kernel
theorem dX4_hearers_82 : decode cX4_hearers 82 = .ok (.iload_n 3, 1) := by decide +kernel
theorem dX4_hearers_83 : decode cX4_hearers 83 = .ok (.ireturn, 1) := by decide +kernel
set_option maxRecDepth 20000 in
theorem ggX4_skyHearers_X1_skyOn : GoodIn wsX4_skyHearers wsX1_skyOn := goodIn_r _ [9, 10, 11, 12, 13, 14, 15, 16, 17, 18, 45, 46, 47, 48, 49, 50, 51, 52, 53, 54, 55] (by decide +kernel) (by decide +kernel)
set_option maxRecDepth 20000 in
theorem gX4_skyHearers_X1_skyOn : GoodIn wsX4_skyHearers (wsV RX4 98 RX1 yX1_skyOn wsX1_skyOn) := goodIn_app (goodIn_of _ (by decide +kernel)) ggX4_skyHearers_X1_skyOn
set_option maxRecDepth 20000 in
theorem ggX4_skyHearers_X6_at : GoodIn wsX4_skyHearers wsX6_at := goodIn_r _ [21] (by decide +kernel) (by decide +kernel)
set_option maxRecDepth 20000 in
theorem gX4_skyHearers_X6_at_n39 : GoodIn wsX4_skyHearers (wsX6_at) := ggX4_skyHearers_X6_at
set_option maxRecDepth 20000 in
theorem ggX4_skyHearers_X4_hearers : GoodIn wsX4_skyHearers wsX4_hearers := goodIn_r _ [26, 1, 27, 28, 29, 30, 31, 32, 25, 33, 34, 35, 20, 36, 37, 38, 19, 21, 39, 40, 41, 42, 43, 44, 45, 46, 47, 48, 49, 50, 51, 52, 53, 54, 55] (by decide +kernel) (by decide +kernel)
set_option maxRecDepth 20000 in
theorem gX4_skyHearers_X4_hearers : GoodIn wsX4_skyHearers (wsV RX4 107 RX4 yX4_hearers wsX4_hearers) := goodIn_app (goodIn_of _ (by decide +kernel)) ggX4_skyHearers_X4_hearers
theorem dX4_skyHearers_0 : decode cX4_skyHearers 0 = .ok (.aload_n 0, 1) := by decide +kernel
theorem dX4_skyHearers_1 : decode cX4_skyHearers 1 = .ok (.getfield 9, 3) := by decide +kernel
theorem dX4_skyHearers_4 : decode cX4_skyHearers 4 = .ok (.aload_n 0, 1) := by decide +kernel
theorem dX4_skyHearers_5 : decode cX4_skyHearers 5 = .ok (.getfield 28, 3) := by decide +kernel
theorem dX4_skyHearers_8 : decode cX4_skyHearers 8 = .ok (.invokevirtual 98, 3) := by decide +kernel
theorem dX4_skyHearers_11 : decode cX4_skyHearers 11 = .ok (.istore_n 1, 1) := by decide +kernel
theorem dX4_skyHearers_12 : decode cX4_skyHearers 12 = .ok (.iload_n 1, 1) := by decide +kernel
theorem dX4_skyHearers_13 : decode cX4_skyHearers 13 = .ok (.bipush (-9), 2) := by decide +kernel
theorem dX4_skyHearers_15 : decode cX4_skyHearers 15 = .ok (.if_icmp .eq 18, 3) := by decide +kernel
theorem dX4_skyHearers_18 : decode cX4_skyHearers 18 = .ok (.aload_n 0, 1) := by decide +kernel
theorem dX4_skyHearers_19 : decode cX4_skyHearers 19 = .ok (.getfield 9, 3) := by decide +kernel
theorem dX4_skyHearers_22 : decode cX4_skyHearers 22 = .ok (.getfield 101, 3) := by decide +kernel
theorem dX4_skyHearers_25 : decode cX4_skyHearers 25 = .ok (.iload_n 1, 1) := by decide +kernel
theorem dX4_skyHearers_26 : decode cX4_skyHearers 26 = .ok (.invokestatic 39, 3) := by decide +kernel
theorem dX4_skyHearers_29 : decode cX4_skyHearers 29 = .ok (.iconst (-1), 1) := by decide +kernel
theorem dX4_skyHearers_30 : decode cX4_skyHearers 30 = .ok (.if_icmp .ne 5, 3) := by decide +kernel
theorem dX4_skyHearers_33 : decode cX4_skyHearers 33 = .ok (.iconst 0, 1) := by decide +kernel
theorem dX4_skyHearers_34 : decode cX4_skyHearers 34 = .ok (.ireturn, 1) := by decide +kernel
theorem dX4_skyHearers_35 : decode cX4_skyHearers 35 = .ok (.aload_n 0, 1) := by decide +kernel
theorem dX4_skyHearers_36 : decode cX4_skyHearers 36 = .ok (.aload_n 0, 1) := by decide +kernel
theorem dX4_skyHearers_37 : decode cX4_skyHearers 37 = .ok (.getfield 9, 3) := by decide +kernel
theorem dX4_skyHearers_40 : decode cX4_skyHearers 40 = .ok (.getfield 104, 3) := by decide +kernel
theorem dX4_skyHearers_43 : decode cX4_skyHearers 43 = .ok (.iload_n 1, 1) := by decide +kernel
theorem dX4_skyHearers_44 : decode cX4_skyHearers 44 = .ok (.invokestatic 39, 3) := by decide +kernel
theorem dX4_skyHearers_47 : decode cX4_skyHearers 47 = .ok (.aload_n 0, 1) := by decide +kernel
theorem dX4_skyHearers_48 : decode cX4_skyHearers 48 = .ok (.getfield 9, 3) := by decide +kernel
theorem dX4_skyHearers_51 : decode cX4_skyHearers 51 = .ok (.getfield 101, 3) := by decide +kernel
theorem dX4_skyHearers_54 : decode cX4_skyHearers 54 = .ok (.iload_n 1, 1) := by decide +kernel
theorem dX4_skyHearers_55 : decode cX4_skyHearers 55 = .ok (.invokestatic 39, 3) := by decide +kernel
theorem dX4_skyHearers_58 : decode cX4_skyHearers 58 = .ok (.invokevirtual 107, 3) := by decide +kernel
theorem dX4_skyHearers_61 : decode cX4_skyHearers 61 = .ok (.ireturn, 1) := by decide +kernel
set_option maxRecDepth 20000 in
theorem ggX4_freeBy_X4_letsOut : GoodIn wsX4_freeBy wsX4_letsOut := goodIn_r _ [8, 2, 9, 10, 11, 12, 13, 14, 15, 16, 29, 30, 31, 32, 33, 34, 35, 36, 37, 38, 39, 40, 41, 42, 43, 44, 45] (by decide +kernel) (by decide +kernel)
set_option maxRecDepth 20000 in
theorem gX4_freeBy_X4_letsOut : GoodIn wsX4_freeBy (wsV RX4 110 RX4 yX4_letsOut wsX4_letsOut) := goodIn_app (goodIn_of _ (by decide +kernel)) ggX4_freeBy_X4_letsOut
set_option maxRecDepth 20000 in
theorem ggX4_freeBy_X4_freeHanging : GoodIn wsX4_freeBy wsX4_freeHanging := goodIn_r _ [20, 2, 3, 21, 1, 12, 13, 14, 15, 16, 22, 23, 24, 25, 26, 27, 28, 29, 30, 31, 32, 33, 34, 35, 36, 37, 38, 39, 40, 41, 42, 43, 44, 45] (by decide +kernel) (by decide +kernel)
set_option maxRecDepth 20000 in
theorem gX4_freeBy_X4_freeHanging : GoodIn wsX4_freeBy (wsV RX4 113 RX4 yX4_freeHanging wsX4_freeHanging) := goodIn_app (goodIn_of _ (by decide +kernel)) ggX4_freeBy_X4_freeHanging
theorem dX4_freeBy_0 : decode cX4_freeBy 0 = .ok (.aload_n 0, 1) := by decide +kernel
theorem dX4_freeBy_1 : decode cX4_freeBy 1 = .ok (.getfield 22, 3) := by decide +kernel
theorem dX4_freeBy_4 : decode cX4_freeBy 4 = .ok (.istore_n 2, 1) := by decide +kernel
theorem dX4_freeBy_5 : decode cX4_freeBy 5 = .ok (.iconst 0, 1) := by decide +kernel
theorem dX4_freeBy_6 : decode cX4_freeBy 6 = .ok (.istore_n 3, 1) := by decide +kernel
theorem dX4_freeBy_7 : decode cX4_freeBy 7 = .ok (.iload_n 3, 1) := by decide +kernel
theorem dX4_freeBy_8 : decode cX4_freeBy 8 = .ok (.aload_n 0, 1) := by decide +kernel
theorem dX4_freeBy_9 : decode cX4_freeBy 9 = .ok (.getfield 9, 3) := by decide +kernel
theorem dX4_freeBy_12 : decode cX4_freeBy 12 = .ok (.getfield 50, 3) := by decide +kernel
theorem dX4_freeBy_15 : decode cX4_freeBy 15 = .ok (.if_icmp .ge 32, 3) := by decide +kernel
theorem dX4_freeBy_18 : decode cX4_freeBy 18 = .ok (.aload_n 0, 1) := by decide +kernel
theorem dX4_freeBy_19 : decode cX4_freeBy 19 = .ok (.iload_n 3, 1) := by decide +kernel
theorem dX4_freeBy_20 : decode cX4_freeBy 20 = .ok (.iload_n 1, 1) := by decide +kernel
theorem dX4_freeBy_21 : decode cX4_freeBy 21 = .ok (.invokevirtual 110, 3) := by decide +kernel
theorem dX4_freeBy_24 : decode cX4_freeBy 24 = .ok (.ifCond .eq 17, 3) := by decide +kernel
theorem dX4_freeBy_27 : decode cX4_freeBy 27 = .ok (.aload_n 0, 1) := by decide +kernel
theorem dX4_freeBy_28 : decode cX4_freeBy 28 = .ok (.dup, 1) := by decide +kernel
theorem dX4_freeBy_29 : decode cX4_freeBy 29 = .ok (.getfield 22, 3) := by decide +kernel
theorem dX4_freeBy_32 : decode cX4_freeBy 32 = .ok (.iconst 1, 1) := by decide +kernel
theorem dX4_freeBy_33 : decode cX4_freeBy 33 = .ok (.iload_n 3, 1) := by decide +kernel
theorem dX4_freeBy_34 : decode cX4_freeBy 34 = .ok (.ishl, 1) := by decide +kernel
theorem dX4_freeBy_35 : decode cX4_freeBy 35 = .ok (.iconst (-1), 1) := by decide +kernel
theorem dX4_freeBy_36 : decode cX4_freeBy 36 = .ok (.ixor, 1) := by decide +kernel
theorem dX4_freeBy_37 : decode cX4_freeBy 37 = .ok (.iand, 1) := by decide +kernel
theorem dX4_freeBy_38 : decode cX4_freeBy 38 = .ok (.putfield 22, 3) := by decide +kernel
theorem dX4_freeBy_41 : decode cX4_freeBy 41 = .ok (.iinc 3 1, 3) := by decide +kernel
theorem dX4_freeBy_44 : decode cX4_freeBy 44 = .ok (.goto (-37), 3) := by decide +kernel
theorem dX4_freeBy_47 : decode cX4_freeBy 47 = .ok (.aload_n 0, 1) := by decide +kernel
theorem dX4_freeBy_48 : decode cX4_freeBy 48 = .ok (.iload_n 2, 1) := by decide +kernel
theorem dX4_freeBy_49 : decode cX4_freeBy 49 = .ok (.invokevirtual 113, 3) := by decide +kernel
theorem dX4_freeBy_52 : decode cX4_freeBy 52 = .ok (.ireturn, 1) := by decide +kernel
set_option maxRecDepth 20000 in
theorem ggX4_letsOut_X6_at : GoodIn wsX4_letsOut wsX6_at := goodIn_r _ [7] (by decide +kernel) (by decide +kernel)
set_option maxRecDepth 20000 in
theorem gX4_letsOut_X6_at_n39 : GoodIn wsX4_letsOut (wsX6_at) := ggX4_letsOut_X6_at
set_option maxRecDepth 20000 in
theorem ggX4_letsOut_X6_bit : GoodIn wsX4_letsOut wsX6_bit := goodIn_r _ [9] (by decide +kernel) (by decide +kernel)
set_option maxRecDepth 20000 in
theorem gX4_letsOut_X6_bit_n61 : GoodIn wsX4_letsOut (wsX6_bit) := ggX4_letsOut_X6_bit
theorem dX4_letsOut_0 : decode cX4_letsOut 0 = .ok (.aload_n 0, 1) := by decide +kernel
theorem dX4_letsOut_1 : decode cX4_letsOut 1 = .ok (.getfield 9, 3) := by decide +kernel
theorem dX4_letsOut_4 : decode cX4_letsOut 4 = .ok (.getfield 116, 3) := by decide +kernel
theorem dX4_letsOut_7 : decode cX4_letsOut 7 = .ok (.iload_n 1, 1) := by decide +kernel
theorem dX4_letsOut_8 : decode cX4_letsOut 8 = .ok (.invokestatic 39, 3) := by decide +kernel
theorem dX4_letsOut_11 : decode cX4_letsOut 11 = .ok (.istore_n 3, 1) := by decide +kernel
theorem dX4_letsOut_12 : decode cX4_letsOut 12 = .ok (.aload_n 0, 1) := by decide +kernel
theorem dX4_letsOut_13 : decode cX4_letsOut 13 = .ok (.getfield 9, 3) := by decide +kernel
theorem dX4_letsOut_16 : decode cX4_letsOut 16 = .ok (.getfield 119, 3) := by decide +kernel
theorem dX4_letsOut_19 : decode cX4_letsOut 19 = .ok (.iload_n 1, 1) := by decide +kernel
theorem dX4_letsOut_20 : decode cX4_letsOut 20 = .ok (.invokestatic 39, 3) := by decide +kernel
theorem dX4_letsOut_23 : decode cX4_letsOut 23 = .ok (.istore 4, 2) := by decide +kernel
theorem dX4_letsOut_25 : decode cX4_letsOut 25 = .ok (.iload_n 2, 1) := by decide +kernel
theorem dX4_letsOut_26 : decode cX4_letsOut 26 = .ok (.iload_n 3, 1) := by decide +kernel
theorem dX4_letsOut_27 : decode cX4_letsOut 27 = .ok (.invokestatic 61, 3) := by decide +kernel
theorem dX4_letsOut_30 : decode cX4_letsOut 30 = .ok (.iconst 1, 1) := by decide +kernel
theorem dX4_letsOut_31 : decode cX4_letsOut 31 = .ok (.if_icmp .ne 7, 3) := by decide +kernel
theorem dX4_letsOut_34 : decode cX4_letsOut 34 = .ok (.iconst 1, 1) := by decide +kernel
theorem dX4_letsOut_35 : decode cX4_letsOut 35 = .ok (.goto 4, 3) := by decide +kernel
theorem dX4_letsOut_38 : decode cX4_letsOut 38 = .ok (.iconst 0, 1) := by decide +kernel
theorem dX4_letsOut_39 : decode cX4_letsOut 39 = .ok (.istore 5, 2) := by decide +kernel
theorem dX4_letsOut_41 : decode cX4_letsOut 41 = .ok (.iload_n 2, 1) := by decide +kernel
theorem dX4_letsOut_42 : decode cX4_letsOut 42 = .ok (.iload 4, 2) := by decide +kernel
theorem dX4_letsOut_44 : decode cX4_letsOut 44 = .ok (.invokestatic 61, 3) := by decide +kernel
theorem dX4_letsOut_47 : decode cX4_letsOut 47 = .ok (.iconst 1, 1) := by decide +kernel
theorem dX4_letsOut_48 : decode cX4_letsOut 48 = .ok (.if_icmp .ne 7, 3) := by decide +kernel
theorem dX4_letsOut_51 : decode cX4_letsOut 51 = .ok (.iconst 1, 1) := by decide +kernel
theorem dX4_letsOut_52 : decode cX4_letsOut 52 = .ok (.goto 4, 3) := by decide +kernel
theorem dX4_letsOut_55 : decode cX4_letsOut 55 = .ok (.iconst 0, 1) := by decide +kernel
theorem dX4_letsOut_56 : decode cX4_letsOut 56 = .ok (.istore 6, 2) := by decide +kernel
theorem dX4_letsOut_58 : decode cX4_letsOut 58 = .ok (.iload 5, 2) := by decide +kernel
theorem dX4_letsOut_60 : decode cX4_letsOut 60 = .ok (.ifCond .eq 8, 3) := by decide +kernel
theorem dX4_letsOut_63 : decode cX4_letsOut 63 = .ok (.iload 6, 2) := by decide +kernel
theorem dX4_letsOut_65 : decode cX4_letsOut 65 = .ok (.ifCond .ne 44, 3) := by decide +kernel
theorem dX4_letsOut_68 : decode cX4_letsOut 68 = .ok (.iload 5, 2) := by decide +kernel
theorem dX4_letsOut_70 : decode cX4_letsOut 70 = .ok (.ifCond .eq 18, 3) := by decide +kernel
theorem dX4_letsOut_73 : decode cX4_letsOut 73 = .ok (.aload_n 0, 1) := by decide +kernel
theorem dX4_letsOut_74 : decode cX4_letsOut 74 = .ok (.getfield 9, 3) := by decide +kernel
theorem dX4_letsOut_77 : decode cX4_letsOut 77 = .ok (.getfield 95, 3) := by decide +kernel
theorem dX4_letsOut_80 : decode cX4_letsOut 80 = .ok (.iload_n 3, 1) := by decide +kernel
theorem dX4_letsOut_81 : decode cX4_letsOut 81 = .ok (.invokestatic 39, 3) := by decide +kernel
theorem dX4_letsOut_84 : decode cX4_letsOut 84 = .ok (.iconst 3, 1) := by decide +kernel
theorem dX4_letsOut_85 : decode cX4_letsOut 85 = .ok (.if_icmp .eq 24, 3) := by decide +kernel
theorem dX4_letsOut_88 : decode cX4_letsOut 88 = .ok (.iload 6, 2) := by decide +kernel
theorem dX4_letsOut_90 : decode cX4_letsOut 90 = .ok (.ifCond .eq 23, 3) := by decide +kernel
theorem dX4_letsOut_93 : decode cX4_letsOut 93 = .ok (.aload_n 0, 1) := by decide +kernel
theorem dX4_letsOut_94 : decode cX4_letsOut 94 = .ok (.getfield 9, 3) := by decide +kernel
theorem dX4_letsOut_97 : decode cX4_letsOut 97 = .ok (.getfield 95, 3) := by decide +kernel
theorem dX4_letsOut_100 : decode cX4_letsOut 100 = .ok (.iload 4, 2) := by decide +kernel
theorem dX4_letsOut_102 : decode cX4_letsOut 102 = .ok (.invokestatic 39, 3) := by decide +kernel
theorem dX4_letsOut_105 : decode cX4_letsOut 105 = .ok (.iconst 3, 1) := by decide +kernel
theorem dX4_letsOut_106 : decode cX4_letsOut 106 = .ok (.if_icmp .ne 7, 3) := by decide +kernel
theorem dX4_letsOut_109 : decode cX4_letsOut 109 = .ok (.iconst 1, 1) := by decide +kernel
theorem dX4_letsOut_110 : decode cX4_letsOut 110 = .ok (.goto 4, 3) := by decide +kernel
theorem dX4_letsOut_113 : decode cX4_letsOut 113 = .ok (.iconst 0, 1) := by decide +kernel
theorem dX4_letsOut_114 : decode cX4_letsOut 114 = .ok (.ireturn, 1) := by decide +kernel
set_option maxRecDepth 20000 in
theorem ggX4_letOff_X4_freeHanging : GoodIn wsX4_letOff wsX4_freeHanging := goodIn_r _ [6, 7, 8, 9, 1, 10, 11, 12, 13, 14, 15, 16, 17, 18, 19, 20, 21, 22, 23, 24, 25, 26, 27, 28, 29, 30, 31, 32, 33, 34, 35, 36, 37, 38] (by decide +kernel) (by decide +kernel)
set_option maxRecDepth 20000 in
theorem gX4_letOff_X4_freeHanging : GoodIn wsX4_letOff (wsV RX4 113 RX4 yX4_freeHanging wsX4_freeHanging) := goodIn_app (goodIn_of _ (by decide +kernel)) ggX4_letOff_X4_freeHanging
theorem dX4_letOff_0 : decode cX4_letOff 0 = .ok (.aload_n 0, 1) := by decide +kernel
theorem dX4_letOff_1 : decode cX4_letOff 1 = .ok (.getfield 22, 3) := by decide +kernel
theorem dX4_letOff_4 : decode cX4_letOff 4 = .ok (.istore_n 2, 1) := by decide +kernel
theorem dX4_letOff_5 : decode cX4_letOff 5 = .ok (.aload_n 0, 1) := by decide +kernel
theorem dX4_letOff_6 : decode cX4_letOff 6 = .ok (.dup, 1) := by decide +kernel
theorem dX4_letOff_7 : decode cX4_letOff 7 = .ok (.getfield 22, 3) := by decide +kernel
theorem dX4_letOff_10 : decode cX4_letOff 10 = .ok (.iconst 1, 1) := by decide +kernel
theorem dX4_letOff_11 : decode cX4_letOff 11 = .ok (.iload_n 1, 1) := by decide +kernel
theorem dX4_letOff_12 : decode cX4_letOff 12 = .ok (.ishl, 1) := by decide +kernel
theorem dX4_letOff_13 : decode cX4_letOff 13 = .ok (.iconst (-1), 1) := by decide +kernel
theorem dX4_letOff_14 : decode cX4_letOff 14 = .ok (.ixor, 1) := by decide +kernel
theorem dX4_letOff_15 : decode cX4_letOff 15 = .ok (.iand, 1) := by decide +kernel
theorem dX4_letOff_16 : decode cX4_letOff 16 = .ok (.putfield 22, 3) := by decide +kernel
theorem dX4_letOff_19 : decode cX4_letOff 19 = .ok (.aload_n 0, 1) := by decide +kernel
theorem dX4_letOff_20 : decode cX4_letOff 20 = .ok (.iload_n 2, 1) := by decide +kernel
theorem dX4_letOff_21 : decode cX4_letOff 21 = .ok (.invokevirtual 113, 3) := by decide +kernel
theorem dX4_letOff_24 : decode cX4_letOff 24 = .ok (.ireturn, 1) := by decide +kernel
set_option maxRecDepth 20000 in
theorem ggX4_freeHanging_X6_at : GoodIn wsX4_freeHanging wsX6_at := goodIn_r _ [7] (by decide +kernel) (by decide +kernel)
set_option maxRecDepth 20000 in
theorem gX4_freeHanging_X6_at_n39 : GoodIn wsX4_freeHanging (wsX6_at) := ggX4_freeHanging_X6_at
set_option maxRecDepth 20000 in
theorem ggX4_freeHanging_X6_bit : GoodIn wsX4_freeHanging wsX6_bit := goodIn_r _ [9] (by decide +kernel) (by decide +kernel)
set_option maxRecDepth 20000 in
theorem gX4_freeHanging_X6_bit_n61 : GoodIn wsX4_freeHanging (wsX6_bit) := ggX4_freeHanging_X6_bit
set_option maxRecDepth 20000 in
theorem ggX4_freeHanging_J6_bitCount_0f7a4 : GoodIn wsX4_freeHanging wsJ6_bitCount_0f7a4 := goodIn_r _ [13, 14, 15, 16] (by decide +kernel) (by decide +kernel)
set_option maxRecDepth 20000 in
theorem gX4_freeHanging_J6_bitCount_0f7a4 : GoodIn wsX4_freeHanging (va_wsS RX4 122 yJ6_bitCount_0f7a4 wsJ6_bitCount_0f7a4) := goodIn_app (goodIn_of _ (by decide +kernel)) ggX4_freeHanging_J6_bitCount_0f7a4
theorem dX4_freeHanging_0 : decode cX4_freeHanging 0 = .ok (.iconst 0, 1) := by decide +kernel
theorem dX4_freeHanging_1 : decode cX4_freeHanging 1 = .ok (.istore_n 2, 1) := by decide +kernel
theorem dX4_freeHanging_2 : decode cX4_freeHanging 2 = .ok (.iload_n 2, 1) := by decide +kernel
theorem dX4_freeHanging_3 : decode cX4_freeHanging 3 = .ok (.aload_n 0, 1) := by decide +kernel
theorem dX4_freeHanging_4 : decode cX4_freeHanging 4 = .ok (.getfield 9, 3) := by decide +kernel
theorem dX4_freeHanging_7 : decode cX4_freeHanging 7 = .ok (.getfield 50, 3) := by decide +kernel
theorem dX4_freeHanging_10 : decode cX4_freeHanging 10 = .ok (.if_icmp .ge 52, 3) := by decide +kernel
theorem dX4_freeHanging_13 : decode cX4_freeHanging 13 = .ok (.aload_n 0, 1) := by decide +kernel
theorem dX4_freeHanging_14 : decode cX4_freeHanging 14 = .ok (.getfield 9, 3) := by decide +kernel
theorem dX4_freeHanging_17 : decode cX4_freeHanging 17 = .ok (.getfield 68, 3) := by decide +kernel
theorem dX4_freeHanging_20 : decode cX4_freeHanging 20 = .ok (.iload_n 2, 1) := by decide +kernel
theorem dX4_freeHanging_21 : decode cX4_freeHanging 21 = .ok (.invokestatic 39, 3) := by decide +kernel
theorem dX4_freeHanging_24 : decode cX4_freeHanging 24 = .ok (.istore_n 3, 1) := by decide +kernel
theorem dX4_freeHanging_25 : decode cX4_freeHanging 25 = .ok (.iload_n 3, 1) := by decide +kernel
theorem dX4_freeHanging_26 : decode cX4_freeHanging 26 = .ok (.bipush (-9), 2) := by decide +kernel
theorem dX4_freeHanging_28 : decode cX4_freeHanging 28 = .ok (.if_icmp .eq 28, 3) := by decide +kernel
theorem dX4_freeHanging_31 : decode cX4_freeHanging 31 = .ok (.aload_n 0, 1) := by decide +kernel
theorem dX4_freeHanging_32 : decode cX4_freeHanging 32 = .ok (.getfield 22, 3) := by decide +kernel
theorem dX4_freeHanging_35 : decode cX4_freeHanging 35 = .ok (.iload_n 3, 1) := by decide +kernel
theorem dX4_freeHanging_36 : decode cX4_freeHanging 36 = .ok (.invokestatic 61, 3) := by decide +kernel
theorem dX4_freeHanging_39 : decode cX4_freeHanging 39 = .ok (.ifCond .ne 17, 3) := by decide +kernel
theorem dX4_freeHanging_42 : decode cX4_freeHanging 42 = .ok (.aload_n 0, 1) := by decide +kernel
theorem dX4_freeHanging_43 : decode cX4_freeHanging 43 = .ok (.dup, 1) := by decide +kernel
theorem dX4_freeHanging_44 : decode cX4_freeHanging 44 = .ok (.getfield 22, 3) := by decide +kernel
theorem dX4_freeHanging_47 : decode cX4_freeHanging 47 = .ok (.iconst 1, 1) := by decide +kernel
theorem dX4_freeHanging_48 : decode cX4_freeHanging 48 = .ok (.iload_n 2, 1) := by decide +kernel
theorem dX4_freeHanging_49 : decode cX4_freeHanging 49 = .ok (.ishl, 1) := by decide +kernel
theorem dX4_freeHanging_50 : decode cX4_freeHanging 50 = .ok (.iconst (-1), 1) := by decide +kernel
theorem dX4_freeHanging_51 : decode cX4_freeHanging 51 = .ok (.ixor, 1) := by decide +kernel
theorem dX4_freeHanging_52 : decode cX4_freeHanging 52 = .ok (.iand, 1) := by decide +kernel
theorem dX4_freeHanging_53 : decode cX4_freeHanging 53 = .ok (.putfield 22, 3) := by decide +kernel
theorem dX4_freeHanging_56 : decode cX4_freeHanging 56 = .ok (.iinc 2 1, 3) := by decide +kernel
theorem dX4_freeHanging_59 : decode cX4_freeHanging 59 = .ok (.goto (-57), 3) := by decide +kernel
theorem dX4_freeHanging_62 : decode cX4_freeHanging 62 = .ok (.iload_n 1, 1) := by decide +kernel
theorem dX4_freeHanging_63 : decode cX4_freeHanging 63 = .ok (.invokestatic 122, 3) := by decide +kernel
theorem dX4_freeHanging_66 : decode cX4_freeHanging 66 = .ok (.aload_n 0, 1) := by decide +kernel
theorem dX4_freeHanging_67 : decode cX4_freeHanging 67 = .ok (.getfield 22, 3) := by decide +kernel
theorem dX4_freeHanging_70 : decode cX4_freeHanging 70 = .ok (.invokestatic 122, 3) := by decide +kernel
theorem dX4_freeHanging_73 : decode cX4_freeHanging 73 = .ok (.isub, 1) := by decide +kernel
theorem dX4_freeHanging_74 : decode cX4_freeHanging 74 = .ok (.ireturn, 1) := by decide +kernel
set_option maxRecDepth 20000 in
theorem ggX4_passDay_X4_skyHearers : GoodIn wsX4_passDay wsX4_skyHearers := goodIn_r _ [13, 2, 8, 14, 15, 16, 17, 18, 19, 20, 21, 22, 23, 6, 24, 25, 26, 27, 28, 29, 30, 31, 32, 33, 34, 12, 35, 36, 37, 38, 39, 40, 41, 42, 43, 44, 45, 46, 47, 77, 78, 79, 80, 81, 82, 83, 84, 85, 86, 87, 88, 89, 90, 91, 92, 93] (by decide +kernel) (by decide +kernel)
set_option maxRecDepth 20000 in
theorem gX4_passDay_X4_skyHearers : GoodIn wsX4_passDay (wsV RX4 127 RX4 yX4_skyHearers wsX4_skyHearers) := goodIn_app (goodIn_of _ (by decide +kernel)) ggX4_passDay_X4_skyHearers
set_option maxRecDepth 20000 in
theorem ggX4_passDay_X4_freeBy : GoodIn wsX4_passDay wsX4_freeBy := goodIn_r _ [51, 3, 2, 52, 53, 54, 55, 12, 56, 57, 58, 38, 29, 30, 31, 44, 45, 59, 60, 61, 62, 63, 64, 65, 66, 67, 68, 69, 70, 77, 78, 79, 80, 81, 82, 83, 84, 85, 86, 87, 88, 89, 90, 91, 92, 93] (by decide +kernel) (by decide +kernel)
set_option maxRecDepth 20000 in
theorem gX4_passDay_X4_freeBy : GoodIn wsX4_passDay (wsV RX4 131 RX4 yX4_freeBy wsX4_freeBy) := goodIn_app (goodIn_of _ (by decide +kernel)) ggX4_passDay_X4_freeBy
set_option maxRecDepth 20000 in
theorem ggX4_passDay_X1_worthOf : GoodIn wsX4_passDay wsX1_worthOf := goodIn_r _ [74, 75, 76, 44, 30, 45, 29, 31, 83, 84, 85, 86, 87, 88, 89, 90, 91, 92, 93] (by decide +kernel) (by decide +kernel)
set_option maxRecDepth 20000 in
theorem gX4_passDay_X1_worthOf : GoodIn wsX4_passDay (wsV RX4 134 RX1 yX1_worthOf wsX1_worthOf) := goodIn_app (goodIn_of _ (by decide +kernel)) ggX4_passDay_X1_worthOf
theorem dX4_passDay_0 : decode cX4_passDay 0 = .ok (.iload_n 1, 1) := by decide +kernel
theorem dX4_passDay_1 : decode cX4_passDay 1 = .ok (.ifCond .eq 14, 3) := by decide +kernel
theorem dX4_passDay_4 : decode cX4_passDay 4 = .ok (.aload_n 0, 1) := by decide +kernel
theorem dX4_passDay_5 : decode cX4_passDay 5 = .ok (.aload_n 0, 1) := by decide +kernel
theorem dX4_passDay_6 : decode cX4_passDay 6 = .ok (.invokevirtual 127, 3) := by decide +kernel
theorem dX4_passDay_9 : decode cX4_passDay 9 = .ok (.invokevirtual 131, 3) := by decide +kernel
theorem dX4_passDay_12 : decode cX4_passDay 12 = .ok (.goto 4, 3) := by decide +kernel
theorem dX4_passDay_15 : decode cX4_passDay 15 = .ok (.iconst 0, 1) := by decide +kernel
theorem dX4_passDay_16 : decode cX4_passDay 16 = .ok (.istore_n 2, 1) := by decide +kernel
theorem dX4_passDay_17 : decode cX4_passDay 17 = .ok (.aload_n 0, 1) := by decide +kernel
theorem dX4_passDay_18 : decode cX4_passDay 18 = .ok (.sipush 9999, 3) := by decide +kernel
theorem dX4_passDay_21 : decode cX4_passDay 21 = .ok (.aload_n 0, 1) := by decide +kernel
theorem dX4_passDay_22 : decode cX4_passDay 22 = .ok (.getfield 25, 3) := by decide +kernel
theorem dX4_passDay_25 : decode cX4_passDay 25 = .ok (.aload_n 0, 1) := by decide +kernel
theorem dX4_passDay_26 : decode cX4_passDay 26 = .ok (.getfield 9, 3) := by decide +kernel
theorem dX4_passDay_29 : decode cX4_passDay 29 = .ok (.aload_n 0, 1) := by decide +kernel
theorem dX4_passDay_30 : decode cX4_passDay 30 = .ok (.getfield 22, 3) := by decide +kernel
theorem dX4_passDay_33 : decode cX4_passDay 33 = .ok (.invokevirtual 134, 3) := by decide +kernel
theorem dX4_passDay_36 : decode cX4_passDay 36 = .ok (.iadd, 1) := by decide +kernel
theorem dX4_passDay_37 : decode cX4_passDay 37 = .ok (.invokestatic 137, 3) := by decide +kernel
theorem dX4_passDay_40 : decode cX4_passDay 40 = .ok (.putfield 25, 3) := by decide +kernel
theorem dX4_passDay_43 : decode cX4_passDay 43 = .ok (.aload_n 0, 1) := by decide +kernel
theorem dX4_passDay_44 : decode cX4_passDay 44 = .ok (.dup, 1) := by decide +kernel
theorem dX4_passDay_45 : decode cX4_passDay 45 = .ok (.getfield 28, 3) := by decide +kernel
theorem dX4_passDay_48 : decode cX4_passDay 48 = .ok (.iconst 1, 1) := by decide +kernel
theorem dX4_passDay_49 : decode cX4_passDay 49 = .ok (.iadd, 1) := by decide +kernel
theorem dX4_passDay_50 : decode cX4_passDay 50 = .ok (.putfield 28, 3) := by decide +kernel
theorem dX4_passDay_53 : decode cX4_passDay 53 = .ok (.iload_n 2, 1) := by decide +kernel
theorem dX4_passDay_54 : decode cX4_passDay 54 = .ok (.ireturn, 1) := by decide +kernel
set_option maxRecDepth 20000 in
theorem ggX4_passDays_X4_passDay : GoodIn wsX4_passDays wsX4_passDay := goodIn_r _ [5, 6, 7, 8, 9, 10, 11, 12, 13, 14, 15, 16, 4, 17, 18, 19, 20, 21, 22, 23, 24, 25, 26, 27, 28, 29, 30, 31, 32, 33, 34, 35, 36, 37, 38, 39, 40, 41, 42, 43, 44, 45, 46, 47, 48, 49, 50, 51, 52, 53, 54, 55, 56, 57, 58, 59, 60, 61, 62, 63, 64, 65, 66, 67, 68, 69, 70, 71, 72, 73, 74, 75, 76, 77, 78, 79, 80, 81, 82, 83, 84, 85, 86, 87, 88, 89, 90, 91, 92, 93, 94, 95, 96, 97] (by decide +kernel) (by decide +kernel)
set_option maxRecDepth 20000 in
theorem gX4_passDays_X4_passDay : GoodIn wsX4_passDays (wsV RX4 142 RX4 yX4_passDay wsX4_passDay) := goodIn_app (goodIn_of _ (by decide +kernel)) ggX4_passDays_X4_passDay
theorem dX4_passDays_0 : decode cX4_passDays 0 = .ok (.iconst 0, 1) := by decide +kernel
theorem dX4_passDays_1 : decode cX4_passDays 1 = .ok (.istore_n 2, 1) := by decide +kernel
theorem dX4_passDays_2 : decode cX4_passDays 2 = .ok (.iload_n 2, 1) := by decide +kernel
theorem dX4_passDays_3 : decode cX4_passDays 3 = .ok (.iload_n 1, 1) := by decide +kernel
theorem dX4_passDays_4 : decode cX4_passDays 4 = .ok (.if_icmp .ge 15, 3) := by decide +kernel
theorem dX4_passDays_7 : decode cX4_passDays 7 = .ok (.aload_n 0, 1) := by decide +kernel
theorem dX4_passDays_8 : decode cX4_passDays 8 = .ok (.iconst 1, 1) := by decide +kernel
theorem dX4_passDays_9 : decode cX4_passDays 9 = .ok (.invokevirtual 142, 3) := by decide +kernel
theorem dX4_passDays_12 : decode cX4_passDays 12 = .ok (.pop, 1) := by decide +kernel
theorem dX4_passDays_13 : decode cX4_passDays 13 = .ok (.iinc 2 1, 3) := by decide +kernel
theorem dX4_passDays_16 : decode cX4_passDays 16 = .ok (.goto (-14), 3) := by decide +kernel
theorem dX4_passDays_19 : decode cX4_passDays 19 = .ok (.return_, 1) := by decide +kernel
theorem dX5_init_0 : decode cX5_init 0 = .ok (.aload_n 0, 1) := by decide +kernel
theorem dX5_init_1 : decode cX5_init 1 = .ok (.invokespecial 3, 3) := by decide +kernel
theorem dX5_init_4 : decode cX5_init 4 = .ok (.aload_n 0, 1) := by decide +kernel
theorem dX5_init_5 : decode cX5_init 5 = .ok (.bipush 60, 2) := by decide +kernel
theorem dX5_init_7 : decode cX5_init 7 = .ok (.newarray .int, 2) := by decide +kernel
theorem dX5_init_9 : decode cX5_init 9 = .ok (.putfield 9, 3) := by decide +kernel
theorem dX5_init_12 : decode cX5_init 12 = .ok (.aload_n 0, 1) := by decide +kernel
theorem dX5_init_13 : decode cX5_init 13 = .ok (.iconst 0, 1) := by decide +kernel
theorem dX5_init_14 : decode cX5_init 14 = .ok (.putfield 15, 3) := by decide +kernel
theorem dX5_init_17 : decode cX5_init 17 = .ok (.return_, 1) := by decide +kernel
set_option maxRecDepth 20000 in
theorem ggX5_add_X6_put : GoodIn wsX5_add wsX6_put := goodIn_r _ [5] (by decide +kernel) (by decide +kernel)
set_option maxRecDepth 20000 in
theorem gX5_add_X6_put_n19 : GoodIn wsX5_add (wsX6_put) := ggX5_add_X6_put
theorem dX5_add_0 : decode cX5_add 0 = .ok (.aload_n 0, 1) := by decide +kernel
theorem dX5_add_1 : decode cX5_add 1 = .ok (.getfield 9, 3) := by decide +kernel
theorem dX5_add_4 : decode cX5_add 4 = .ok (.aload_n 0, 1) := by decide +kernel
theorem dX5_add_5 : decode cX5_add 5 = .ok (.getfield 15, 3) := by decide +kernel
theorem dX5_add_8 : decode cX5_add 8 = .ok (.iload_n 1, 1) := by decide +kernel
theorem dX5_add_9 : decode cX5_add 9 = .ok (.invokestatic 19, 3) := by decide +kernel
theorem dX5_add_12 : decode cX5_add 12 = .ok (.aload_n 0, 1) := by decide +kernel
theorem dX5_add_13 : decode cX5_add 13 = .ok (.dup, 1) := by decide +kernel
theorem dX5_add_14 : decode cX5_add 14 = .ok (.getfield 15, 3) := by decide +kernel
theorem dX5_add_17 : decode cX5_add 17 = .ok (.iconst 1, 1) := by decide +kernel
theorem dX5_add_18 : decode cX5_add 18 = .ok (.iadd, 1) := by decide +kernel
theorem dX5_add_19 : decode cX5_add 19 = .ok (.putfield 15, 3) := by decide +kernel
theorem dX5_add_22 : decode cX5_add 22 = .ok (.aload_n 0, 1) := by decide +kernel
theorem dX5_add_23 : decode cX5_add 23 = .ok (.getfield 15, 3) := by decide +kernel
theorem dX5_add_26 : decode cX5_add 26 = .ok (.ireturn, 1) := by decide +kernel
theorem dX5_letterAt_0 : decode cX5_letterAt 0 = .ok (.iload_n 1, 1) := by decide +kernel
theorem dX5_letterAt_1 : decode cX5_letterAt 1 = .ok (.ifCond .lt 29, 3) := by decide +kernel
theorem dX5_letterAt_4 : decode cX5_letterAt 4 = .ok (.iload_n 1, 1) := by decide +kernel
theorem dX5_letterAt_5 : decode cX5_letterAt 5 = .ok (.aload_n 0, 1) := by decide +kernel
theorem dX5_letterAt_6 : decode cX5_letterAt 6 = .ok (.getfield 15, 3) := by decide +kernel
theorem dX5_letterAt_9 : decode cX5_letterAt 9 = .ok (.if_icmp .ge 21, 3) := by decide +kernel
theorem dX5_letterAt_12 : decode cX5_letterAt 12 = .ok (.iload_n 1, 1) := by decide +kernel
theorem dX5_letterAt_13 : decode cX5_letterAt 13 = .ok (.aload_n 0, 1) := by decide +kernel
theorem dX5_letterAt_14 : decode cX5_letterAt 14 = .ok (.getfield 9, 3) := by decide +kernel
theorem dX5_letterAt_17 : decode cX5_letterAt 17 = .ok (.arraylength, 1) := by decide +kernel
theorem dX5_letterAt_18 : decode cX5_letterAt 18 = .ok (.if_icmp .ge 12, 3) := by decide +kernel
theorem dX5_letterAt_21 : decode cX5_letterAt 21 = .ok (.aload_n 0, 1) := by decide +kernel
theorem dX5_letterAt_22 : decode cX5_letterAt 22 = .ok (.getfield 9, 3) := by decide +kernel
theorem dX5_letterAt_25 : decode cX5_letterAt 25 = .ok (.iload_n 1, 1) := by decide +kernel
theorem dX5_letterAt_26 : decode cX5_letterAt 26 = .ok (.iaload, 1) := by decide +kernel
theorem dX5_letterAt_27 : decode cX5_letterAt 27 = .ok (.goto 4, 3) := by decide +kernel
theorem dX5_letterAt_30 : decode cX5_letterAt 30 = .ok (.iconst (-1), 1) := by decide +kernel
theorem dX5_letterAt_31 : decode cX5_letterAt 31 = .ok (.ireturn, 1) := by decide +kernel
set_option maxRecDepth 20000 in
theorem ggX6_init_X5_init : GoodIn wsX6_init wsX5_init := goodIn_r _ [36, 37, 2, 3, 30, 38, 39, 86, 87] (by decide +kernel) (by decide +kernel)
set_option maxRecDepth 20000 in
theorem gX6_init_X5_init : GoodIn wsX6_init (wsX5_init) := ggX6_init_X5_init
set_option maxRecDepth 20000 in
theorem ggX6_init_X3_init : GoodIn wsX6_init wsX3_init := goodIn_r _ [42, 43, 2, 3, 44, 45, 46, 99, 100, 101] (by decide +kernel) (by decide +kernel)
set_option maxRecDepth 20000 in
theorem gX6_init_X3_init : GoodIn wsX6_init (wsX3_init) := ggX6_init_X3_init
set_option maxRecDepth 20000 in
theorem ggX6_init_X1_init : GoodIn wsX6_init wsX1_init := goodIn_r _ [49, 50, 2, 3, 30, 51, 52, 53, 54, 55, 56, 57, 58, 59, 60, 61, 102, 103, 104, 105, 106, 107, 108, 109, 110, 111, 112] (by decide +kernel) (by decide +kernel)
set_option maxRecDepth 20000 in
theorem gX6_init_X1_init : GoodIn wsX6_init (wsX1_init) := ggX6_init_X1_init
set_option maxRecDepth 20000 in
theorem ggX6_init_X4_init : GoodIn wsX6_init wsX4_init := goodIn_r _ [64, 65, 2, 3, 66, 67, 68, 69, 70, 71, 113, 114, 115, 116, 117, 118] (by decide +kernel) (by decide +kernel)
set_option maxRecDepth 20000 in
theorem gX6_init_X4_init : GoodIn wsX6_init (wsX4_init) := ggX6_init_X4_init
set_option maxRecDepth 20000 in
theorem ggX6_init_X0_init : GoodIn wsX6_init wsX0_init := goodIn_r _ [74, 75, 2, 3, 30, 76, 77, 119, 120] (by decide +kernel) (by decide +kernel)
set_option maxRecDepth 20000 in
theorem gX6_init_X0_init : GoodIn wsX6_init (wsX0_init) := ggX6_init_X0_init
set_option maxRecDepth 20000 in
theorem ggX6_init_X2_init : GoodIn wsX6_init wsX2_init := goodIn_r _ [80, 81, 2, 3, 30, 82, 83, 84, 85, 121, 122, 123, 124] (by decide +kernel) (by decide +kernel)
set_option maxRecDepth 20000 in
theorem gX6_init_X2_init : GoodIn wsX6_init (wsX2_init) := ggX6_init_X2_init
theorem dX6_init_0 : decode cX6_init 0 = .ok (.aload_n 0, 1) := by decide +kernel
theorem dX6_init_1 : decode cX6_init 1 = .ok (.invokespecial 1, 3) := by decide +kernel
theorem dX6_init_4 : decode cX6_init 4 = .ok (.aload_n 0, 1) := by decide +kernel
theorem dX6_init_5 : decode cX6_init 5 = .ok (.new 7, 3) := by decide +kernel
theorem dX6_init_8 : decode cX6_init 8 = .ok (.dup, 1) := by decide +kernel
theorem dX6_init_9 : decode cX6_init 9 = .ok (.invokespecial 9, 3) := by decide +kernel
theorem dX6_init_12 : decode cX6_init 12 = .ok (.putfield 10, 3) := by decide +kernel
theorem dX6_init_15 : decode cX6_init 15 = .ok (.aload_n 0, 1) := by decide +kernel
theorem dX6_init_16 : decode cX6_init 16 = .ok (.new 16, 3) := by decide +kernel
theorem dX6_init_19 : decode cX6_init 19 = .ok (.dup, 1) := by decide +kernel
theorem dX6_init_20 : decode cX6_init 20 = .ok (.aload_n 0, 1) := by decide +kernel
theorem dX6_init_21 : decode cX6_init 21 = .ok (.getfield 10, 3) := by decide +kernel
theorem dX6_init_24 : decode cX6_init 24 = .ok (.invokespecial 18, 3) := by decide +kernel
theorem dX6_init_27 : decode cX6_init 27 = .ok (.putfield 21, 3) := by decide +kernel
theorem dX6_init_30 : decode cX6_init 30 = .ok (.aload_n 0, 1) := by decide +kernel
theorem dX6_init_31 : decode cX6_init 31 = .ok (.new 25, 3) := by decide +kernel
theorem dX6_init_34 : decode cX6_init 34 = .ok (.dup, 1) := by decide +kernel
theorem dX6_init_35 : decode cX6_init 35 = .ok (.invokespecial 27, 3) := by decide +kernel
theorem dX6_init_38 : decode cX6_init 38 = .ok (.putfield 28, 3) := by decide +kernel
theorem dX6_init_41 : decode cX6_init 41 = .ok (.aload_n 0, 1) := by decide +kernel
theorem dX6_init_42 : decode cX6_init 42 = .ok (.new 25, 3) := by decide +kernel
theorem dX6_init_45 : decode cX6_init 45 = .ok (.dup, 1) := by decide +kernel
theorem dX6_init_46 : decode cX6_init 46 = .ok (.invokespecial 27, 3) := by decide +kernel
theorem dX6_init_49 : decode cX6_init 49 = .ok (.putfield 32, 3) := by decide +kernel
theorem dX6_init_52 : decode cX6_init 52 = .ok (.aload_n 0, 1) := by decide +kernel
theorem dX6_init_53 : decode cX6_init 53 = .ok (.new 35, 3) := by decide +kernel
theorem dX6_init_56 : decode cX6_init 56 = .ok (.dup, 1) := by decide +kernel
theorem dX6_init_57 : decode cX6_init 57 = .ok (.aload_n 0, 1) := by decide +kernel
theorem dX6_init_58 : decode cX6_init 58 = .ok (.getfield 32, 3) := by decide +kernel
theorem dX6_init_61 : decode cX6_init 61 = .ok (.invokespecial 37, 3) := by decide +kernel
theorem dX6_init_64 : decode cX6_init 64 = .ok (.putfield 40, 3) := by decide +kernel
theorem dX6_init_67 : decode cX6_init 67 = .ok (.aload_n 0, 1) := by decide +kernel
theorem dX6_init_68 : decode cX6_init 68 = .ok (.new 35, 3) := by decide +kernel
theorem dX6_init_71 : decode cX6_init 71 = .ok (.dup, 1) := by decide +kernel
theorem dX6_init_72 : decode cX6_init 72 = .ok (.aload_n 0, 1) := by decide +kernel
theorem dX6_init_73 : decode cX6_init 73 = .ok (.getfield 32, 3) := by decide +kernel
theorem dX6_init_76 : decode cX6_init 76 = .ok (.invokespecial 37, 3) := by decide +kernel
theorem dX6_init_79 : decode cX6_init 79 = .ok (.putfield 44, 3) := by decide +kernel
theorem dX6_init_82 : decode cX6_init 82 = .ok (.aload_n 0, 1) := by decide +kernel
theorem dX6_init_83 : decode cX6_init 83 = .ok (.new 47, 3) := by decide +kernel
theorem dX6_init_86 : decode cX6_init 86 = .ok (.dup, 1) := by decide +kernel
theorem dX6_init_87 : decode cX6_init 87 = .ok (.invokespecial 49, 3) := by decide +kernel
theorem dX6_init_90 : decode cX6_init 90 = .ok (.putfield 50, 3) := by decide +kernel
theorem dX6_init_93 : decode cX6_init 93 = .ok (.aload_n 0, 1) := by decide +kernel
theorem dX6_init_94 : decode cX6_init 94 = .ok (.new 54, 3) := by decide +kernel
theorem dX6_init_97 : decode cX6_init 97 = .ok (.dup, 1) := by decide +kernel
theorem dX6_init_98 : decode cX6_init 98 = .ok (.invokespecial 56, 3) := by decide +kernel
theorem dX6_init_101 : decode cX6_init 101 = .ok (.putfield 57, 3) := by decide +kernel
theorem dX6_init_104 : decode cX6_init 104 = .ok (.aload_n 0, 1) := by decide +kernel
theorem dX6_init_105 : decode cX6_init 105 = .ok (.bipush 10, 2) := by decide +kernel
theorem dX6_init_107 : decode cX6_init 107 = .ok (.newarray .int, 2) := by decide +kernel
theorem dX6_init_109 : decode cX6_init 109 = .ok (.putfield 61, 3) := by decide +kernel
theorem dX6_init_112 : decode cX6_init 112 = .ok (.aload_n 0, 1) := by decide +kernel
theorem dX6_init_113 : decode cX6_init 113 = .ok (.iconst 0, 1) := by decide +kernel
theorem dX6_init_114 : decode cX6_init 114 = .ok (.putfield 65, 3) := by decide +kernel
theorem dX6_init_117 : decode cX6_init 117 = .ok (.aload_n 0, 1) := by decide +kernel
theorem dX6_init_118 : decode cX6_init 118 = .ok (.lconst 0, 1) := by decide +kernel
theorem dX6_init_119 : decode cX6_init 119 = .ok (.putfield 69, 3) := by decide +kernel
theorem dX6_init_122 : decode cX6_init 122 = .ok (.return_, 1) := by decide +kernel
set_option maxRecDepth 20000 in
theorem ggX6_write_X6_within : GoodIn wsX6_write wsX6_within := goodIn_r _ [6] (by decide +kernel) (by decide +kernel)
set_option maxRecDepth 20000 in
theorem gX6_write_X6_within : GoodIn wsX6_write (va_wsS RX6 73 yX6_within wsX6_within) := goodIn_app (goodIn_of _ (by decide +kernel)) ggX6_write_X6_within
set_option maxRecDepth 20000 in
theorem ggX6_write_X5_add : GoodIn wsX6_write wsX5_add := goodIn_r _ [11, 12, 13, 14, 5, 15, 27, 28] (by decide +kernel) (by decide +kernel)
set_option maxRecDepth 20000 in
theorem gX6_write_X5_add : GoodIn wsX6_write (wsV RX6 80 RX5 yX5_add wsX5_add) := goodIn_app (goodIn_of _ (by decide +kernel)) ggX6_write_X5_add
theorem dX6_write_0 : decode cX6_write 0 = .ok (.iload_n 1, 1) := by decide +kernel
theorem dX6_write_1 : decode cX6_write 1 = .ok (.iconst 0, 1) := by decide +kernel
theorem dX6_write_2 : decode cX6_write 2 = .ok (.sipush 255, 3) := by decide +kernel
theorem dX6_write_5 : decode cX6_write 5 = .ok (.invokestatic 73, 3) := by decide +kernel
theorem dX6_write_8 : decode cX6_write 8 = .ok (.ifCond .ne 6, 3) := by decide +kernel
theorem dX6_write_11 : decode cX6_write 11 = .ok (.bipush (-2), 2) := by decide +kernel
theorem dX6_write_13 : decode cX6_write 13 = .ok (.ireturn, 1) := by decide +kernel
theorem dX6_write_14 : decode cX6_write 14 = .ok (.aload_n 0, 1) := by decide +kernel
theorem dX6_write_15 : decode cX6_write 15 = .ok (.getfield 10, 3) := by decide +kernel
theorem dX6_write_18 : decode cX6_write 18 = .ok (.getfield 77, 3) := by decide +kernel
theorem dX6_write_21 : decode cX6_write 21 = .ok (.bipush 60, 2) := by decide +kernel
theorem dX6_write_23 : decode cX6_write 23 = .ok (.if_icmp .lt 6, 3) := by decide +kernel
theorem dX6_write_26 : decode cX6_write 26 = .ok (.bipush (-4), 2) := by decide +kernel
theorem dX6_write_28 : decode cX6_write 28 = .ok (.ireturn, 1) := by decide +kernel
theorem dX6_write_29 : decode cX6_write 29 = .ok (.aload_n 0, 1) := by decide +kernel
theorem dX6_write_30 : decode cX6_write 30 = .ok (.getfield 10, 3) := by decide +kernel
theorem dX6_write_33 : decode cX6_write 33 = .ok (.iload_n 1, 1) := by decide +kernel
theorem dX6_write_34 : decode cX6_write 34 = .ok (.invokevirtual 80, 3) := by decide +kernel
theorem dX6_write_37 : decode cX6_write 37 = .ok (.ireturn, 1) := by decide +kernel
theorem dX6_wipe_0 : decode cX6_wipe 0 = .ok (.aload_n 0, 1) := by decide +kernel
theorem dX6_wipe_1 : decode cX6_wipe 1 = .ok (.getfield 10, 3) := by decide +kernel
theorem dX6_wipe_4 : decode cX6_wipe 4 = .ok (.getfield 77, 3) := by decide +kernel
theorem dX6_wipe_7 : decode cX6_wipe 7 = .ok (.istore_n 1, 1) := by decide +kernel
theorem dX6_wipe_8 : decode cX6_wipe 8 = .ok (.aload_n 0, 1) := by decide +kernel
theorem dX6_wipe_9 : decode cX6_wipe 9 = .ok (.getfield 10, 3) := by decide +kernel
theorem dX6_wipe_12 : decode cX6_wipe 12 = .ok (.iconst 0, 1) := by decide +kernel
theorem dX6_wipe_13 : decode cX6_wipe 13 = .ok (.putfield 77, 3) := by decide +kernel
theorem dX6_wipe_16 : decode cX6_wipe 16 = .ok (.iload_n 1, 1) := by decide +kernel
theorem dX6_wipe_17 : decode cX6_wipe 17 = .ok (.ireturn, 1) := by decide +kernel
set_option maxRecDepth 20000 in
theorem ggX6_fault_X3_readInto : GoodIn wsX6_fault wsX3_readInto := goodIn_r _ [7, 8, 9, 10, 11, 12, 13, 14, 15, 16, 17, 18, 19, 20, 21, 22, 6, 23, 24, 25, 26, 27, 28, 29, 30, 31, 32, 33, 34, 35, 36, 37, 38, 39, 40, 41, 42, 43, 44, 45, 46, 47, 48, 49, 50, 51, 52, 53, 54, 55, 56, 57, 58, 59, 60, 61, 62, 63, 64, 65, 66, 67, 68, 69, 70, 71, 72, 73, 74, 75, 76, 77, 78, 79, 80, 81, 82, 83, 84, 85, 86, 87, 88, 89, 90, 102, 103, 104, 105, 106, 107, 108, 109, 110, 111, 112, 113, 114, 115, 116, 117] (by decide +kernel) (by decide +kernel)
set_option maxRecDepth 20000 in
theorem gX6_fault_X3_readInto : GoodIn wsX6_fault (wsV RX6 84 RX3 yX3_readInto wsX3_readInto) := goodIn_app (goodIn_of _ (by decide +kernel)) ggX6_fault_X3_readInto
theorem dX6_fault_0 : decode cX6_fault 0 = .ok (.aload_n 0, 1) := by decide +kernel
theorem dX6_fault_1 : decode cX6_fault 1 = .ok (.getfield 21, 3) := by decide +kernel
theorem dX6_fault_4 : decode cX6_fault 4 = .ok (.aload_n 0, 1) := by decide +kernel
theorem dX6_fault_5 : decode cX6_fault 5 = .ok (.getfield 28, 3) := by decide +kernel
theorem dX6_fault_8 : decode cX6_fault 8 = .ok (.invokevirtual 84, 3) := by decide +kernel
theorem dX6_fault_11 : decode cX6_fault 11 = .ok (.ireturn, 1) := by decide +kernel
set_option maxRecDepth 20000 in
theorem ggX6_county_X3_readInto : GoodIn wsX6_county wsX3_readInto := goodIn_r _ [15, 16, 17, 18, 19, 20, 21, 22, 23, 24, 25, 26, 27, 28, 29, 30, 14, 31, 32, 33, 34, 35, 36, 37, 38, 39, 40, 41, 42, 43, 44, 45, 46, 47, 48, 49, 50, 51, 52, 53, 54, 55, 56, 57, 58, 59, 60, 61, 62, 63, 64, 65, 66, 67, 68, 69, 70, 71, 72, 73, 74, 75, 76, 77, 78, 79, 80, 81, 82, 83, 84, 85, 86, 87, 88, 89, 90, 91, 92, 93, 94, 95, 96, 97, 98, 155, 156, 157, 158, 159, 144, 145, 146, 147, 148, 149, 150, 151, 152, 153, 154] (by decide +kernel) (by decide +kernel)
set_option maxRecDepth 20000 in
theorem gX6_county_X3_readInto : GoodIn wsX6_county (wsV RX6 84 RX3 yX3_readInto wsX3_readInto) := goodIn_app (goodIn_of _ (by decide +kernel)) ggX6_county_X3_readInto
set_option maxRecDepth 20000 in
theorem ggX6_county_X4_begin : GoodIn wsX6_county wsX4_begin := goodIn_r _ [103, 104, 105, 106, 107, 108, 109, 110, 111, 112, 113, 58, 114, 115, 116, 117, 102, 118, 119, 120, 121, 122, 123, 124, 125, 23, 126, 65, 127, 128, 129, 130, 25, 57, 59, 160, 161, 162, 163, 164, 165, 144, 145, 146, 147, 148, 149, 150, 151, 152, 153, 154] (by decide +kernel) (by decide +kernel)
set_option maxRecDepth 20000 in
theorem gX6_county_X4_begin : GoodIn wsX6_county (wsV RX6 88 RX4 yX4_begin wsX4_begin) := goodIn_app (goodIn_of _ (by decide +kernel)) ggX6_county_X4_begin
theorem dX6_county_0 : decode cX6_county 0 = .ok (.aload_n 0, 1) := by decide +kernel
theorem dX6_county_1 : decode cX6_county 1 = .ok (.getfield 21, 3) := by decide +kernel
theorem dX6_county_4 : decode cX6_county 4 = .ok (.aload_n 0, 1) := by decide +kernel
theorem dX6_county_5 : decode cX6_county 5 = .ok (.getfield 28, 3) := by decide +kernel
theorem dX6_county_8 : decode cX6_county 8 = .ok (.invokevirtual 84, 3) := by decide +kernel
theorem dX6_county_11 : decode cX6_county 11 = .ok (.bipush (-9), 2) := by decide +kernel
theorem dX6_county_13 : decode cX6_county 13 = .ok (.if_icmp .eq 6, 3) := by decide +kernel
theorem dX6_county_16 : decode cX6_county 16 = .ok (.bipush (-3), 2) := by decide +kernel
theorem dX6_county_18 : decode cX6_county 18 = .ok (.ireturn, 1) := by decide +kernel
theorem dX6_county_19 : decode cX6_county 19 = .ok (.aload_n 0, 1) := by decide +kernel
theorem dX6_county_20 : decode cX6_county 20 = .ok (.getfield 21, 3) := by decide +kernel
theorem dX6_county_23 : decode cX6_county 23 = .ok (.aload_n 0, 1) := by decide +kernel
theorem dX6_county_24 : decode cX6_county 24 = .ok (.getfield 32, 3) := by decide +kernel
theorem dX6_county_27 : decode cX6_county 27 = .ok (.invokevirtual 84, 3) := by decide +kernel
theorem dX6_county_30 : decode cX6_county 30 = .ok (.pop, 1) := by decide +kernel
theorem dX6_county_31 : decode cX6_county 31 = .ok (.aload_n 0, 1) := by decide +kernel
theorem dX6_county_32 : decode cX6_county 32 = .ok (.getfield 40, 3) := by decide +kernel
theorem dX6_county_35 : decode cX6_county 35 = .ok (.invokevirtual 88, 3) := by decide +kernel
theorem dX6_county_38 : decode cX6_county 38 = .ok (.aload_n 0, 1) := by decide +kernel
theorem dX6_county_39 : decode cX6_county 39 = .ok (.getfield 50, 3) := by decide +kernel
theorem dX6_county_42 : decode cX6_county 42 = .ok (.iconst 0, 1) := by decide +kernel
theorem dX6_county_43 : decode cX6_county 43 = .ok (.putfield 91, 3) := by decide +kernel
theorem dX6_county_46 : decode cX6_county 46 = .ok (.aload_n 0, 1) := by decide +kernel
theorem dX6_county_47 : decode cX6_county 47 = .ok (.iconst 0, 1) := by decide +kernel
theorem dX6_county_48 : decode cX6_county 48 = .ok (.putfield 65, 3) := by decide +kernel
theorem dX6_county_51 : decode cX6_county 51 = .ok (.bipush 100, 2) := by decide +kernel
theorem dX6_county_53 : decode cX6_county 53 = .ok (.aload_n 0, 1) := by decide +kernel
theorem dX6_county_54 : decode cX6_county 54 = .ok (.getfield 32, 3) := by decide +kernel
theorem dX6_county_57 : decode cX6_county 57 = .ok (.getfield 92, 3) := by decide +kernel
theorem dX6_county_60 : decode cX6_county 60 = .ok (.imul, 1) := by decide +kernel
theorem dX6_county_61 : decode cX6_county 61 = .ok (.bipush 10, 2) := by decide +kernel
theorem dX6_county_63 : decode cX6_county 63 = .ok (.aload_n 0, 1) := by decide +kernel
theorem dX6_county_64 : decode cX6_county 64 = .ok (.getfield 32, 3) := by decide +kernel
theorem dX6_county_67 : decode cX6_county 67 = .ok (.getfield 95, 3) := by decide +kernel
theorem dX6_county_70 : decode cX6_county 70 = .ok (.imul, 1) := by decide +kernel
theorem dX6_county_71 : decode cX6_county 71 = .ok (.iadd, 1) := by decide +kernel
theorem dX6_county_72 : decode cX6_county 72 = .ok (.aload_n 0, 1) := by decide +kernel
theorem dX6_county_73 : decode cX6_county 73 = .ok (.getfield 32, 3) := by decide +kernel
theorem dX6_county_76 : decode cX6_county 76 = .ok (.getfield 98, 3) := by decide +kernel
theorem dX6_county_79 : decode cX6_county 79 = .ok (.iadd, 1) := by decide +kernel
theorem dX6_county_80 : decode cX6_county 80 = .ok (.ireturn, 1) := by decide +kernel
set_option maxRecDepth 20000 in
theorem ggX6_person_X1_hasPerson : GoodIn wsX6_person wsX1_hasPerson := goodIn_r _ [10, 11, 12, 13, 14, 76, 77, 78, 79, 80, 81, 82, 83, 84, 85, 86] (by decide +kernel) (by decide +kernel)
set_option maxRecDepth 20000 in
theorem gX6_person_X1_hasPerson : GoodIn wsX6_person (wsV RX6 101 RX1 yX1_hasPerson wsX1_hasPerson) := goodIn_app (goodIn_of _ (by decide +kernel)) ggX6_person_X1_hasPerson
set_option maxRecDepth 20000 in
theorem ggX6_person_X4_placeOf : GoodIn wsX6_person wsX4_placeOf := goodIn_r _ [19, 20, 87, 88, 89, 90, 91, 92] (by decide +kernel) (by decide +kernel)
set_option maxRecDepth 20000 in
theorem gX6_person_X4_placeOf : GoodIn wsX6_person (wsV RX6 105 RX4 yX4_placeOf wsX4_placeOf) := goodIn_app (goodIn_of _ (by decide +kernel)) ggX6_person_X4_placeOf
set_option maxRecDepth 20000 in
theorem ggX6_person_X6_at : GoodIn wsX6_person wsX6_at := goodIn_r _ [23] (by decide +kernel) (by decide +kernel)
set_option maxRecDepth 20000 in
theorem gX6_person_X6_at : GoodIn wsX6_person (va_wsS RX6 111 yX6_at wsX6_at) := goodIn_app (goodIn_of _ (by decide +kernel)) ggX6_person_X6_at
set_option maxRecDepth 20000 in
theorem ggX6_person_X6_bit : GoodIn wsX6_person wsX6_bit := goodIn_r _ [26] (by decide +kernel) (by decide +kernel)
set_option maxRecDepth 20000 in
theorem gX6_person_X6_bit : GoodIn wsX6_person (va_wsS RX6 118 yX6_bit wsX6_bit) := goodIn_app (goodIn_of _ (by decide +kernel)) ggX6_person_X6_bit
set_option maxRecDepth 20000 in
theorem ggX6_person_X1_oathsOf : GoodIn wsX6_person wsX1_oathsOf := goodIn_r _ [30, 31, 32, 33, 22, 13, 23, 76, 77, 78, 79, 80, 81, 82, 83, 84, 85, 86] (by decide +kernel) (by decide +kernel)
set_option maxRecDepth 20000 in
theorem gX6_person_X1_oathsOf : GoodIn wsX6_person (wsV RX6 122 RX1 yX1_oathsOf wsX1_oathsOf) := goodIn_app (goodIn_of _ (by decide +kernel)) ggX6_person_X1_oathsOf
set_option maxRecDepth 20000 in
theorem ggX6_person_X4_skyHearers : GoodIn wsX6_person wsX4_skyHearers := goodIn_r _ [37, 38, 39, 40, 41, 42, 43, 44, 9, 45, 46, 47, 48, 49, 50, 51, 52, 53, 54, 22, 13, 23, 55, 56, 57, 18, 58, 59, 60, 61, 62, 16, 17, 19, 20, 25, 26, 63, 64, 87, 88, 89, 90, 91, 92, 76, 77, 78, 79, 80, 81, 82, 83, 84, 85, 86] (by decide +kernel) (by decide +kernel)
set_option maxRecDepth 20000 in
theorem gX6_person_X4_skyHearers : GoodIn wsX6_person (wsV RX6 128 RX4 yX4_skyHearers wsX4_skyHearers) := goodIn_app (goodIn_of _ (by decide +kernel)) ggX6_person_X4_skyHearers
theorem dX6_person_0 : decode cX6_person 0 = .ok (.aload_n 0, 1) := by decide +kernel
theorem dX6_person_1 : decode cX6_person 1 = .ok (.getfield 32, 3) := by decide +kernel
theorem dX6_person_4 : decode cX6_person 4 = .ok (.iload_n 1, 1) := by decide +kernel
theorem dX6_person_5 : decode cX6_person 5 = .ok (.invokevirtual 101, 3) := by decide +kernel
theorem dX6_person_8 : decode cX6_person 8 = .ok (.ifCond .ne 5, 3) := by decide +kernel
theorem dX6_person_11 : decode cX6_person 11 = .ok (.iconst (-1), 1) := by decide +kernel
theorem dX6_person_12 : decode cX6_person 12 = .ok (.ireturn, 1) := by decide +kernel
theorem dX6_person_13 : decode cX6_person 13 = .ok (.iload_n 2, 1) := by decide +kernel
theorem dX6_person_14 : decode cX6_person 14 = .ok (.tableswitch 109 0 5 #[38, 47, 59, 71, 80, 97], 38) := by decide +kernel
theorem dX6_person_52 : decode cX6_person 52 = .ok (.aload_n 0, 1) := by decide +kernel
theorem dX6_person_53 : decode cX6_person 53 = .ok (.getfield 40, 3) := by decide +kernel
theorem dX6_person_56 : decode cX6_person 56 = .ok (.iload_n 1, 1) := by decide +kernel
theorem dX6_person_57 : decode cX6_person 57 = .ok (.invokevirtual 105, 3) := by decide +kernel
theorem dX6_person_60 : decode cX6_person 60 = .ok (.ireturn, 1) := by decide +kernel
theorem dX6_person_61 : decode cX6_person 61 = .ok (.aload_n 0, 1) := by decide +kernel
theorem dX6_person_62 : decode cX6_person 62 = .ok (.getfield 32, 3) := by decide +kernel
theorem dX6_person_65 : decode cX6_person 65 = .ok (.getfield 108, 3) := by decide +kernel
theorem dX6_person_68 : decode cX6_person 68 = .ok (.iload_n 1, 1) := by decide +kernel
theorem dX6_person_69 : decode cX6_person 69 = .ok (.invokestatic 111, 3) := by decide +kernel
theorem dX6_person_72 : decode cX6_person 72 = .ok (.ireturn, 1) := by decide +kernel
theorem dX6_person_73 : decode cX6_person 73 = .ok (.aload_n 0, 1) := by decide +kernel
theorem dX6_person_74 : decode cX6_person 74 = .ok (.getfield 40, 3) := by decide +kernel
theorem dX6_person_77 : decode cX6_person 77 = .ok (.getfield 115, 3) := by decide +kernel
theorem dX6_person_80 : decode cX6_person 80 = .ok (.iload_n 1, 1) := by decide +kernel
theorem dX6_person_81 : decode cX6_person 81 = .ok (.invokestatic 118, 3) := by decide +kernel
theorem dX6_person_84 : decode cX6_person 84 = .ok (.ireturn, 1) := by decide +kernel
theorem dX6_person_85 : decode cX6_person 85 = .ok (.aload_n 0, 1) := by decide +kernel
theorem dX6_person_86 : decode cX6_person 86 = .ok (.getfield 32, 3) := by decide +kernel
theorem dX6_person_89 : decode cX6_person 89 = .ok (.iload_n 1, 1) := by decide +kernel
theorem dX6_person_90 : decode cX6_person 90 = .ok (.invokevirtual 122, 3) := by decide +kernel
theorem dX6_person_93 : decode cX6_person 93 = .ok (.ireturn, 1) := by decide +kernel
theorem dX6_person_94 : decode cX6_person 94 = .ok (.aload_n 0, 1) := by decide +kernel
theorem dX6_person_95 : decode cX6_person 95 = .ok (.getfield 32, 3) := by decide +kernel
theorem dX6_person_98 : decode cX6_person 98 = .ok (.iload_n 1, 1) := by decide +kernel
theorem dX6_person_99 : decode cX6_person 99 = .ok (.invokevirtual 122, 3) := by decide +kernel
theorem dX6_person_102 : decode cX6_person 102 = .ok (.aload_n 0, 1) := by decide +kernel
theorem dX6_person_103 : decode cX6_person 103 = .ok (.getfield 40, 3) := by decide +kernel
theorem dX6_person_106 : decode cX6_person 106 = .ok (.getfield 125, 3) := by decide +kernel
theorem dX6_person_109 : decode cX6_person 109 = .ok (.iand, 1) := by decide +kernel
theorem dX6_person_110 : decode cX6_person 110 = .ok (.ireturn, 1) := by decide +kernel
theorem dX6_person_111 : decode cX6_person 111 = .ok (.aload_n 0, 1) := by decide +kernel
theorem dX6_person_112 : decode cX6_person 112 = .ok (.getfield 40, 3) := by decide +kernel
theorem dX6_person_115 : decode cX6_person 115 = .ok (.invokevirtual 128, 3) := by decide +kernel
theorem dX6_person_118 : decode cX6_person 118 = .ok (.iload_n 1, 1) := by decide +kernel
theorem dX6_person_119 : decode cX6_person 119 = .ok (.invokestatic 118, 3) := by decide +kernel
theorem dX6_person_122 : decode cX6_person 122 = .ok (.ireturn, 1) := by decide +kernel
theorem dX6_person_123 : decode cX6_person 123 = .ok (.bipush (-2), 2) := by decide +kernel
theorem dX6_person_125 : decode cX6_person 125 = .ok (.ireturn, 1) := by decide +kernel
set_option maxRecDepth 20000 in
theorem ggX6_oath_X1_hasOath : GoodIn wsX6_oath wsX1_hasOath := goodIn_r _ [12, 13, 14, 15, 16, 34, 35, 36, 37, 38, 39, 40, 41, 42, 43, 44] (by decide +kernel) (by decide +kernel)
set_option maxRecDepth 20000 in
theorem gX6_oath_X1_hasOath : GoodIn wsX6_oath (wsV RX6 132 RX1 yX1_hasOath wsX1_hasOath) := goodIn_app (goodIn_of _ (by decide +kernel)) ggX6_oath_X1_hasOath
set_option maxRecDepth 20000 in
theorem ggX6_oath_X6_at : GoodIn wsX6_oath wsX6_at := goodIn_r _ [19] (by decide +kernel) (by decide +kernel)
set_option maxRecDepth 20000 in
theorem gX6_oath_X6_at : GoodIn wsX6_oath (va_wsS RX6 111 yX6_at wsX6_at) := goodIn_app (goodIn_of _ (by decide +kernel)) ggX6_oath_X6_at
set_option maxRecDepth 20000 in
theorem ggX6_oath_X6_bit : GoodIn wsX6_oath wsX6_bit := goodIn_r _ [22] (by decide +kernel) (by decide +kernel)
set_option maxRecDepth 20000 in
theorem gX6_oath_X6_bit : GoodIn wsX6_oath (va_wsS RX6 118 yX6_bit wsX6_bit) := goodIn_app (goodIn_of _ (by decide +kernel)) ggX6_oath_X6_bit
theorem dX6_oath_0 : decode cX6_oath 0 = .ok (.aload_n 0, 1) := by decide +kernel
theorem dX6_oath_1 : decode cX6_oath 1 = .ok (.getfield 32, 3) := by decide +kernel
theorem dX6_oath_4 : decode cX6_oath 4 = .ok (.iload_n 1, 1) := by decide +kernel
theorem dX6_oath_5 : decode cX6_oath 5 = .ok (.invokevirtual 132, 3) := by decide +kernel
theorem dX6_oath_8 : decode cX6_oath 8 = .ok (.ifCond .ne 5, 3) := by decide +kernel
theorem dX6_oath_11 : decode cX6_oath 11 = .ok (.iconst (-1), 1) := by decide +kernel
theorem dX6_oath_12 : decode cX6_oath 12 = .ok (.ireturn, 1) := by decide +kernel
theorem dX6_oath_13 : decode cX6_oath 13 = .ok (.iload_n 2, 1) := by decide +kernel
theorem dX6_oath_14 : decode cX6_oath 14 = .ok (.tableswitch 94 0 4 #[34, 46, 58, 70, 82], 34) := by decide +kernel
theorem dX6_oath_48 : decode cX6_oath 48 = .ok (.aload_n 0, 1) := by decide +kernel
theorem dX6_oath_49 : decode cX6_oath 49 = .ok (.getfield 32, 3) := by decide +kernel
theorem dX6_oath_52 : decode cX6_oath 52 = .ok (.getfield 135, 3) := by decide +kernel
theorem dX6_oath_55 : decode cX6_oath 55 = .ok (.iload_n 1, 1) := by decide +kernel
theorem dX6_oath_56 : decode cX6_oath 56 = .ok (.invokestatic 111, 3) := by decide +kernel
theorem dX6_oath_59 : decode cX6_oath 59 = .ok (.ireturn, 1) := by decide +kernel
theorem dX6_oath_60 : decode cX6_oath 60 = .ok (.aload_n 0, 1) := by decide +kernel
theorem dX6_oath_61 : decode cX6_oath 61 = .ok (.getfield 32, 3) := by decide +kernel
theorem dX6_oath_64 : decode cX6_oath 64 = .ok (.getfield 138, 3) := by decide +kernel
theorem dX6_oath_67 : decode cX6_oath 67 = .ok (.iload_n 1, 1) := by decide +kernel
theorem dX6_oath_68 : decode cX6_oath 68 = .ok (.invokestatic 111, 3) := by decide +kernel
theorem dX6_oath_71 : decode cX6_oath 71 = .ok (.ireturn, 1) := by decide +kernel
theorem dX6_oath_72 : decode cX6_oath 72 = .ok (.aload_n 0, 1) := by decide +kernel
theorem dX6_oath_73 : decode cX6_oath 73 = .ok (.getfield 32, 3) := by decide +kernel
theorem dX6_oath_76 : decode cX6_oath 76 = .ok (.getfield 141, 3) := by decide +kernel
theorem dX6_oath_79 : decode cX6_oath 79 = .ok (.iload_n 1, 1) := by decide +kernel
theorem dX6_oath_80 : decode cX6_oath 80 = .ok (.invokestatic 111, 3) := by decide +kernel
theorem dX6_oath_83 : decode cX6_oath 83 = .ok (.ireturn, 1) := by decide +kernel
theorem dX6_oath_84 : decode cX6_oath 84 = .ok (.aload_n 0, 1) := by decide +kernel
theorem dX6_oath_85 : decode cX6_oath 85 = .ok (.getfield 32, 3) := by decide +kernel
theorem dX6_oath_88 : decode cX6_oath 88 = .ok (.getfield 144, 3) := by decide +kernel
theorem dX6_oath_91 : decode cX6_oath 91 = .ok (.iload_n 1, 1) := by decide +kernel
theorem dX6_oath_92 : decode cX6_oath 92 = .ok (.invokestatic 111, 3) := by decide +kernel
theorem dX6_oath_95 : decode cX6_oath 95 = .ok (.ireturn, 1) := by decide +kernel
theorem dX6_oath_96 : decode cX6_oath 96 = .ok (.aload_n 0, 1) := by decide +kernel
theorem dX6_oath_97 : decode cX6_oath 97 = .ok (.getfield 40, 3) := by decide +kernel
theorem dX6_oath_100 : decode cX6_oath 100 = .ok (.getfield 125, 3) := by decide +kernel
theorem dX6_oath_103 : decode cX6_oath 103 = .ok (.iload_n 1, 1) := by decide +kernel
theorem dX6_oath_104 : decode cX6_oath 104 = .ok (.invokestatic 118, 3) := by decide +kernel
theorem dX6_oath_107 : decode cX6_oath 107 = .ok (.ireturn, 1) := by decide +kernel
theorem dX6_oath_108 : decode cX6_oath 108 = .ok (.bipush (-2), 2) := by decide +kernel
theorem dX6_oath_110 : decode cX6_oath 110 = .ok (.ireturn, 1) := by decide +kernel
set_option maxRecDepth 20000 in
theorem ggX6_day_X0_push : GoodIn wsX6_day wsX0_push := goodIn_r _ [7, 8, 9, 10, 11, 12, 13, 14, 15, 16, 17, 18, 19, 20, 21, 22, 23, 24, 25, 26, 111, 112, 113, 114, 115, 116, 117, 118] (by decide +kernel) (by decide +kernel)
set_option maxRecDepth 20000 in
theorem gX6_day_X0_push : GoodIn wsX6_day (wsV RX6 147 RX0 yX0_push wsX0_push) := goodIn_app (goodIn_of _ (by decide +kernel)) ggX6_day_X0_push
set_option maxRecDepth 20000 in
theorem ggX6_day_X4_passDay : GoodIn wsX6_day wsX4_passDay := goodIn_r _ [30, 22, 31, 21, 32, 33, 34, 35, 23, 36, 37, 38, 17, 39, 40, 41, 42, 43, 44, 45, 46, 47, 48, 49, 50, 51, 52, 53, 54, 55, 25, 56, 57, 58, 59, 60, 61, 20, 62, 63, 64, 65, 66, 19, 67, 68, 69, 70, 71, 72, 73, 74, 75, 76, 77, 78, 79, 80, 81, 82, 83, 84, 85, 86, 87, 88, 89, 90, 91, 92, 93, 94, 95, 96, 97, 98, 99, 113, 114, 115, 116, 117, 118, 119, 120, 121, 122, 123, 124, 125, 126, 127, 128, 129] (by decide +kernel) (by decide +kernel)
set_option maxRecDepth 20000 in
theorem gX6_day_X4_passDay : GoodIn wsX6_day (wsV RX6 151 RX4 yX4_passDay wsX4_passDay) := goodIn_app (goodIn_of _ (by decide +kernel)) ggX6_day_X4_passDay
theorem dX6_day_0 : decode cX6_day 0 = .ok (.aload_n 0, 1) := by decide +kernel
theorem dX6_day_1 : decode cX6_day 1 = .ok (.getfield 50, 3) := by decide +kernel
theorem dX6_day_4 : decode cX6_day 4 = .ok (.aload_n 0, 1) := by decide +kernel
theorem dX6_day_5 : decode cX6_day 5 = .ok (.getfield 40, 3) := by decide +kernel
theorem dX6_day_8 : decode cX6_day 8 = .ok (.invokevirtual 147, 3) := by decide +kernel
theorem dX6_day_11 : decode cX6_day 11 = .ok (.aload_n 0, 1) := by decide +kernel
theorem dX6_day_12 : decode cX6_day 12 = .ok (.getfield 40, 3) := by decide +kernel
theorem dX6_day_15 : decode cX6_day 15 = .ok (.iconst 1, 1) := by decide +kernel
theorem dX6_day_16 : decode cX6_day 16 = .ok (.invokevirtual 151, 3) := by decide +kernel
theorem dX6_day_19 : decode cX6_day 19 = .ok (.ireturn, 1) := by decide +kernel
set_option maxRecDepth 20000 in
theorem ggX6_drum_X6_isPlace : GoodIn wsX6_drum wsX6_isPlace := goodIn_r _ [6, 7, 8, 5, 9] (by decide +kernel) (by decide +kernel)
set_option maxRecDepth 20000 in
theorem gX6_drum_X6_isPlace : GoodIn wsX6_drum (va_wsS RX6 155 yX6_isPlace wsX6_isPlace) := goodIn_app (goodIn_of _ (by decide +kernel)) ggX6_drum_X6_isPlace
set_option maxRecDepth 20000 in
theorem ggX6_drum_X6_within : GoodIn wsX6_drum wsX6_within := goodIn_r _ [9] (by decide +kernel) (by decide +kernel)
set_option maxRecDepth 20000 in
theorem gX6_drum_X6_within : GoodIn wsX6_drum (va_wsS RX6 73 yX6_within wsX6_within) := goodIn_app (goodIn_of _ (by decide +kernel)) ggX6_drum_X6_within
set_option maxRecDepth 20000 in
theorem ggX6_drum_X0_push : GoodIn wsX6_drum wsX0_push := goodIn_r _ [14, 15, 16, 17, 18, 19, 20, 21, 22, 23, 24, 25, 26, 27, 28, 29, 30, 31, 5, 32, 84, 85, 86, 87, 88, 89, 90, 91] (by decide +kernel) (by decide +kernel)
set_option maxRecDepth 20000 in
theorem gX6_drum_X0_push : GoodIn wsX6_drum (wsV RX6 147 RX0 yX0_push wsX0_push) := goodIn_app (goodIn_of _ (by decide +kernel)) ggX6_drum_X0_push
set_option maxRecDepth 20000 in
theorem ggX6_drum_X4_hearers : GoodIn wsX6_drum wsX4_hearers := goodIn_r _ [36, 37, 38, 27, 39, 40, 41, 42, 24, 43, 26, 44, 5, 45, 46, 47, 48, 49, 86, 87, 88, 89, 90, 91, 92, 93, 94, 95, 96, 97, 98, 99, 100, 101, 102] (by decide +kernel) (by decide +kernel)
set_option maxRecDepth 20000 in
theorem gX6_drum_X4_hearers : GoodIn wsX6_drum (wsV RX6 158 RX4 yX4_hearers wsX4_hearers) := goodIn_app (goodIn_of _ (by decide +kernel)) ggX6_drum_X4_hearers
set_option maxRecDepth 20000 in
theorem ggX6_drum_X4_freeBy : GoodIn wsX6_drum wsX4_freeBy := goodIn_r _ [53, 28, 37, 54, 55, 56, 57, 24, 58, 59, 60, 39, 48, 5, 49, 44, 45, 61, 62, 63, 64, 65, 66, 67, 68, 69, 70, 71, 72, 86, 87, 88, 89, 90, 91, 92, 93, 94, 95, 96, 97, 98, 99, 100, 101, 102] (by decide +kernel) (by decide +kernel)
set_option maxRecDepth 20000 in
theorem gX6_drum_X4_freeBy : GoodIn wsX6_drum (wsV RX6 161 RX4 yX4_freeBy wsX4_freeBy) := goodIn_app (goodIn_of _ (by decide +kernel)) ggX6_drum_X4_freeBy
theorem dX6_drum_0 : decode cX6_drum 0 = .ok (.iload_n 1, 1) := by decide +kernel
theorem dX6_drum_1 : decode cX6_drum 1 = .ok (.invokestatic 155, 3) := by decide +kernel
theorem dX6_drum_4 : decode cX6_drum 4 = .ok (.ifCond .ne 5, 3) := by decide +kernel
theorem dX6_drum_7 : decode cX6_drum 7 = .ok (.iconst (-1), 1) := by decide +kernel
theorem dX6_drum_8 : decode cX6_drum 8 = .ok (.ireturn, 1) := by decide +kernel
theorem dX6_drum_9 : decode cX6_drum 9 = .ok (.iload_n 2, 1) := by decide +kernel
theorem dX6_drum_10 : decode cX6_drum 10 = .ok (.iconst 0, 1) := by decide +kernel
theorem dX6_drum_11 : decode cX6_drum 11 = .ok (.bipush 9, 2) := by decide +kernel
theorem dX6_drum_13 : decode cX6_drum 13 = .ok (.invokestatic 73, 3) := by decide +kernel
theorem dX6_drum_16 : decode cX6_drum 16 = .ok (.ifCond .ne 6, 3) := by decide +kernel
theorem dX6_drum_19 : decode cX6_drum 19 = .ok (.bipush (-2), 2) := by decide +kernel
theorem dX6_drum_21 : decode cX6_drum 21 = .ok (.ireturn, 1) := by decide +kernel
theorem dX6_drum_22 : decode cX6_drum 22 = .ok (.aload_n 0, 1) := by decide +kernel
theorem dX6_drum_23 : decode cX6_drum 23 = .ok (.getfield 50, 3) := by decide +kernel
theorem dX6_drum_26 : decode cX6_drum 26 = .ok (.aload_n 0, 1) := by decide +kernel
theorem dX6_drum_27 : decode cX6_drum 27 = .ok (.getfield 40, 3) := by decide +kernel
theorem dX6_drum_30 : decode cX6_drum 30 = .ok (.invokevirtual 147, 3) := by decide +kernel
theorem dX6_drum_33 : decode cX6_drum 33 = .ok (.aload_n 0, 1) := by decide +kernel
theorem dX6_drum_34 : decode cX6_drum 34 = .ok (.getfield 40, 3) := by decide +kernel
theorem dX6_drum_37 : decode cX6_drum 37 = .ok (.aload_n 0, 1) := by decide +kernel
theorem dX6_drum_38 : decode cX6_drum 38 = .ok (.getfield 40, 3) := by decide +kernel
theorem dX6_drum_41 : decode cX6_drum 41 = .ok (.iload_n 1, 1) := by decide +kernel
theorem dX6_drum_42 : decode cX6_drum 42 = .ok (.iload_n 2, 1) := by decide +kernel
theorem dX6_drum_43 : decode cX6_drum 43 = .ok (.invokevirtual 158, 3) := by decide +kernel
theorem dX6_drum_46 : decode cX6_drum 46 = .ok (.invokevirtual 161, 3) := by decide +kernel
theorem dX6_drum_49 : decode cX6_drum 49 = .ok (.ireturn, 1) := by decide +kernel
set_option maxRecDepth 20000 in
theorem ggX6_swear_X1_hasOath : GoodIn wsX6_swear wsX1_hasOath := goodIn_r _ [9, 10, 11, 12, 13, 76, 77, 78, 79, 80, 81, 82, 83, 84, 85, 86] (by decide +kernel) (by decide +kernel)
set_option maxRecDepth 20000 in
theorem gX6_swear_X1_hasOath : GoodIn wsX6_swear (wsV RX6 132 RX1 yX1_hasOath wsX1_hasOath) := goodIn_app (goodIn_of _ (by decide +kernel)) ggX6_swear_X1_hasOath

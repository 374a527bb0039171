set_option maxRecDepth 20000 in
theorem ggX0_init_X2_init : GoodIn wsX0_init wsX2_init := goodIn_r _ [10, 11, 2, 3, 12, 13, 14, 15, 16, 17, 20, 21, 22, 23, 24] (by decide +kernel) (by decide +kernel)
set_option maxRecDepth 20000 in
theorem gX0_init_X2_init_n21 : GoodIn wsX0_init (wsX2_init) := ggX0_init_X2_init
theorem dX0_init_0 : decode cX0_init 0 = .ok (.aload_n 0, 1) := by decide +kernel
theorem dX0_init_1 : decode cX0_init 1 = .ok (.invokespecial 3, 3) := by decide +kernel
theorem dX0_init_4 : decode cX0_init 4 = .ok (.aload_n 0, 1) := by decide +kernel
theorem dX0_init_5 : decode cX0_init 5 = .ok (.bipush 6, 2) := by decide +kernel
theorem dX0_init_7 : decode cX0_init 7 = .ok (.anewarray 9, 3) := by decide +kernel
theorem dX0_init_10 : decode cX0_init 10 = .ok (.putfield 11, 3) := by decide +kernel
theorem dX0_init_13 : decode cX0_init 13 = .ok (.aload_n 0, 1) := by decide +kernel
theorem dX0_init_14 : decode cX0_init 14 = .ok (.iconst 0, 1) := by decide +kernel
theorem dX0_init_15 : decode cX0_init 15 = .ok (.putfield 17, 3) := by decide +kernel
theorem dX0_init_18 : decode cX0_init 18 = .ok (.iconst 0, 1) := by decide +kernel
theorem dX0_init_19 : decode cX0_init 19 = .ok (.istore_n 1, 1) := by decide +kernel
theorem dX0_init_20 : decode cX0_init 20 = .ok (.iload_n 1, 1) := by decide +kernel
theorem dX0_init_21 : decode cX0_init 21 = .ok (.bipush 6, 2) := by decide +kernel
theorem dX0_init_23 : decode cX0_init 23 = .ok (.if_icmp .ge 22, 3) := by decide +kernel
theorem dX0_init_26 : decode cX0_init 26 = .ok (.aload_n 0, 1) := by decide +kernel
theorem dX0_init_27 : decode cX0_init 27 = .ok (.getfield 11, 3) := by decide +kernel
theorem dX0_init_30 : decode cX0_init 30 = .ok (.iload_n 1, 1) := by decide +kernel
theorem dX0_init_31 : decode cX0_init 31 = .ok (.new 9, 3) := by decide +kernel
theorem dX0_init_34 : decode cX0_init 34 = .ok (.dup, 1) := by decide +kernel
theorem dX0_init_35 : decode cX0_init 35 = .ok (.invokespecial 21, 3) := by decide +kernel
theorem dX0_init_38 : decode cX0_init 38 = .ok (.aastore, 1) := by decide +kernel
theorem dX0_init_39 : decode cX0_init 39 = .ok (.iinc 1 1, 3) := by decide +kernel
theorem dX0_init_42 : decode cX0_init 42 = .ok (.goto (-22), 3) := by decide +kernel
theorem dX0_init_45 : decode cX0_init 45 = .ok (.return_, 1) := by decide +kernel
set_option maxRecDepth 20000 in
theorem ggX0_save_X0_dropOldest : GoodIn wsX0_save wsX0_dropOldest := goodIn_r _ [6, 7, 1, 25, 26] (by decide +kernel) (by decide +kernel)
set_option maxRecDepth 20000 in
theorem gX0_save_X0_dropOldest : GoodIn wsX0_save (wsV RX0 22 RX0 yX0_dropOldest wsX0_dropOldest) := goodIn_app (goodIn_of _ (by decide +kernel)) ggX0_save_X0_dropOldest
set_option maxRecDepth 20000 in
theorem ggX0_save_X0_storyAt : GoodIn wsX0_save wsX0_storyAt := goodIn_r _ [11, 7, 25, 26] (by decide +kernel) (by decide +kernel)
set_option maxRecDepth 20000 in
theorem gX0_save_X0_storyAt : GoodIn wsX0_save (wsV RX0 25 RX0 yX0_storyAt wsX0_storyAt) := goodIn_app (goodIn_of _ (by decide +kernel)) ggX0_save_X0_storyAt
set_option maxRecDepth 20000 in
theorem ggX0_save_X2_copyFrom : GoodIn wsX0_save wsX2_copyFrom := goodIn_r _ [15, 16, 17, 18, 19, 20, 21, 22, 23, 24, 27, 28, 29, 30, 31] (by decide +kernel) (by decide +kernel)
set_option maxRecDepth 20000 in
theorem gX0_save_X2_copyFrom_n29 : GoodIn wsX0_save (wsX2_copyFrom) := ggX0_save_X2_copyFrom
theorem dX0_save_0 : decode cX0_save 0 = .ok (.aload_n 0, 1) := by decide +kernel
theorem dX0_save_1 : decode cX0_save 1 = .ok (.getfield 17, 3) := by decide +kernel
theorem dX0_save_4 : decode cX0_save 4 = .ok (.bipush 6, 2) := by decide +kernel
theorem dX0_save_6 : decode cX0_save 6 = .ok (.if_icmp .lt 7, 3) := by decide +kernel
theorem dX0_save_9 : decode cX0_save 9 = .ok (.aload_n 0, 1) := by decide +kernel
theorem dX0_save_10 : decode cX0_save 10 = .ok (.invokevirtual 22, 3) := by decide +kernel
theorem dX0_save_13 : decode cX0_save 13 = .ok (.aload_n 0, 1) := by decide +kernel
theorem dX0_save_14 : decode cX0_save 14 = .ok (.aload_n 0, 1) := by decide +kernel
theorem dX0_save_15 : decode cX0_save 15 = .ok (.getfield 17, 3) := by decide +kernel
theorem dX0_save_18 : decode cX0_save 18 = .ok (.invokevirtual 25, 3) := by decide +kernel
theorem dX0_save_21 : decode cX0_save 21 = .ok (.astore_n 2, 1) := by decide +kernel
theorem dX0_save_22 : decode cX0_save 22 = .ok (.aload_n 2, 1) := by decide +kernel
theorem dX0_save_23 : decode cX0_save 23 = .ok (.ifnull 18, 3) := by decide +kernel
theorem dX0_save_26 : decode cX0_save 26 = .ok (.aload_n 2, 1) := by decide +kernel
theorem dX0_save_27 : decode cX0_save 27 = .ok (.aload_n 1, 1) := by decide +kernel
theorem dX0_save_28 : decode cX0_save 28 = .ok (.invokevirtual 29, 3) := by decide +kernel
theorem dX0_save_31 : decode cX0_save 31 = .ok (.aload_n 0, 1) := by decide +kernel
theorem dX0_save_32 : decode cX0_save 32 = .ok (.dup, 1) := by decide +kernel
theorem dX0_save_33 : decode cX0_save 33 = .ok (.getfield 17, 3) := by decide +kernel
theorem dX0_save_36 : decode cX0_save 36 = .ok (.iconst 1, 1) := by decide +kernel
theorem dX0_save_37 : decode cX0_save 37 = .ok (.iadd, 1) := by decide +kernel
theorem dX0_save_38 : decode cX0_save 38 = .ok (.putfield 17, 3) := by decide +kernel
theorem dX0_save_41 : decode cX0_save 41 = .ok (.return_, 1) := by decide +kernel
theorem dX0_storyAt_0 : decode cX0_storyAt 0 = .ok (.iload_n 1, 1) := by decide +kernel
theorem dX0_storyAt_1 : decode cX0_storyAt 1 = .ok (.ifCond .lt 18, 3) := by decide +kernel
theorem dX0_storyAt_4 : decode cX0_storyAt 4 = .ok (.iload_n 1, 1) := by decide +kernel
theorem dX0_storyAt_5 : decode cX0_storyAt 5 = .ok (.bipush 6, 2) := by decide +kernel
theorem dX0_storyAt_7 : decode cX0_storyAt 7 = .ok (.if_icmp .ge 12, 3) := by decide +kernel
theorem dX0_storyAt_10 : decode cX0_storyAt 10 = .ok (.aload_n 0, 1) := by decide +kernel
theorem dX0_storyAt_11 : decode cX0_storyAt 11 = .ok (.getfield 11, 3) := by decide +kernel
theorem dX0_storyAt_14 : decode cX0_storyAt 14 = .ok (.iload_n 1, 1) := by decide +kernel
theorem dX0_storyAt_15 : decode cX0_storyAt 15 = .ok (.aaload, 1) := by decide +kernel
theorem dX0_storyAt_16 : decode cX0_storyAt 16 = .ok (.goto 4, 3) := by decide +kernel
theorem dX0_storyAt_19 : decode cX0_storyAt 19 = .ok (.aconst_null, 1) := by decide +kernel
theorem dX0_storyAt_20 : decode cX0_storyAt 20 = .ok (.areturn, 1) := by decide +kernel
theorem dX0_dropOldest_0 : decode cX0_dropOldest 0 = .ok (.aload_n 0, 1) := by decide +kernel
theorem dX0_dropOldest_1 : decode cX0_dropOldest 1 = .ok (.getfield 11, 3) := by decide +kernel
theorem dX0_dropOldest_4 : decode cX0_dropOldest 4 = .ok (.iconst 0, 1) := by decide +kernel
theorem dX0_dropOldest_5 : decode cX0_dropOldest 5 = .ok (.aaload, 1) := by decide +kernel
theorem dX0_dropOldest_6 : decode cX0_dropOldest 6 = .ok (.astore_n 1, 1) := by decide +kernel
theorem dX0_dropOldest_7 : decode cX0_dropOldest 7 = .ok (.iconst 0, 1) := by decide +kernel
theorem dX0_dropOldest_8 : decode cX0_dropOldest 8 = .ok (.istore_n 2, 1) := by decide +kernel
theorem dX0_dropOldest_9 : decode cX0_dropOldest 9 = .ok (.iload_n 2, 1) := by decide +kernel
theorem dX0_dropOldest_10 : decode cX0_dropOldest 10 = .ok (.iconst 5, 1) := by decide +kernel
theorem dX0_dropOldest_11 : decode cX0_dropOldest 11 = .ok (.if_icmp .ge 23, 3) := by decide +kernel
theorem dX0_dropOldest_14 : decode cX0_dropOldest 14 = .ok (.aload_n 0, 1) := by decide +kernel
theorem dX0_dropOldest_15 : decode cX0_dropOldest 15 = .ok (.getfield 11, 3) := by decide +kernel
theorem dX0_dropOldest_18 : decode cX0_dropOldest 18 = .ok (.iload_n 2, 1) := by decide +kernel
theorem dX0_dropOldest_19 : decode cX0_dropOldest 19 = .ok (.aload_n 0, 1) := by decide +kernel
theorem dX0_dropOldest_20 : decode cX0_dropOldest 20 = .ok (.getfield 11, 3) := by decide +kernel
theorem dX0_dropOldest_23 : decode cX0_dropOldest 23 = .ok (.iload_n 2, 1) := by decide +kernel
theorem dX0_dropOldest_24 : decode cX0_dropOldest 24 = .ok (.iconst 1, 1) := by decide +kernel
theorem dX0_dropOldest_25 : decode cX0_dropOldest 25 = .ok (.iadd, 1) := by decide +kernel
theorem dX0_dropOldest_26 : decode cX0_dropOldest 26 = .ok (.aaload, 1) := by decide +kernel
theorem dX0_dropOldest_27 : decode cX0_dropOldest 27 = .ok (.aastore, 1) := by decide +kernel
theorem dX0_dropOldest_28 : decode cX0_dropOldest 28 = .ok (.iinc 2 1, 3) := by decide +kernel
theorem dX0_dropOldest_31 : decode cX0_dropOldest 31 = .ok (.goto (-22), 3) := by decide +kernel
theorem dX0_dropOldest_34 : decode cX0_dropOldest 34 = .ok (.aload_n 0, 1) := by decide +kernel
theorem dX0_dropOldest_35 : decode cX0_dropOldest 35 = .ok (.getfield 11, 3) := by decide +kernel
theorem dX0_dropOldest_38 : decode cX0_dropOldest 38 = .ok (.iconst 5, 1) := by decide +kernel
theorem dX0_dropOldest_39 : decode cX0_dropOldest 39 = .ok (.aload_n 1, 1) := by decide +kernel
theorem dX0_dropOldest_40 : decode cX0_dropOldest 40 = .ok (.aastore, 1) := by decide +kernel
theorem dX0_dropOldest_41 : decode cX0_dropOldest 41 = .ok (.aload_n 0, 1) := by decide +kernel
theorem dX0_dropOldest_42 : decode cX0_dropOldest 42 = .ok (.iconst 5, 1) := by decide +kernel
theorem dX0_dropOldest_43 : decode cX0_dropOldest 43 = .ok (.putfield 17, 3) := by decide +kernel
theorem dX0_dropOldest_46 : decode cX0_dropOldest 46 = .ok (.return_, 1) := by decide +kernel
theorem dX1_init_0 : decode cX1_init 0 = .ok (.aload_n 0, 1) := by decide +kernel
theorem dX1_init_1 : decode cX1_init 1 = .ok (.invokespecial 3, 3) := by decide +kernel
theorem dX1_init_4 : decode cX1_init 4 = .ok (.aload_n 0, 1) := by decide +kernel
theorem dX1_init_5 : decode cX1_init 5 = .ok (.bipush 24, 2) := by decide +kernel
theorem dX1_init_7 : decode cX1_init 7 = .ok (.newarray .int, 2) := by decide +kernel
theorem dX1_init_9 : decode cX1_init 9 = .ok (.putfield 9, 3) := by decide +kernel
theorem dX1_init_12 : decode cX1_init 12 = .ok (.aload_n 0, 1) := by decide +kernel
theorem dX1_init_13 : decode cX1_init 13 = .ok (.bipush 24, 2) := by decide +kernel
theorem dX1_init_15 : decode cX1_init 15 = .ok (.newarray .int, 2) := by decide +kernel
theorem dX1_init_17 : decode cX1_init 17 = .ok (.putfield 15, 3) := by decide +kernel
theorem dX1_init_20 : decode cX1_init 20 = .ok (.aload_n 0, 1) := by decide +kernel
theorem dX1_init_21 : decode cX1_init 21 = .ok (.bipush 24, 2) := by decide +kernel
theorem dX1_init_23 : decode cX1_init 23 = .ok (.newarray .int, 2) := by decide +kernel
theorem dX1_init_25 : decode cX1_init 25 = .ok (.putfield 18, 3) := by decide +kernel
theorem dX1_init_28 : decode cX1_init 28 = .ok (.aload_n 0, 1) := by decide +kernel
theorem dX1_init_29 : decode cX1_init 29 = .ok (.bipush 16, 2) := by decide +kernel
theorem dX1_init_31 : decode cX1_init 31 = .ok (.newarray .int, 2) := by decide +kernel
theorem dX1_init_33 : decode cX1_init 33 = .ok (.putfield 21, 3) := by decide +kernel
theorem dX1_init_36 : decode cX1_init 36 = .ok (.aload_n 0, 1) := by decide +kernel
theorem dX1_init_37 : decode cX1_init 37 = .ok (.bipush 16, 2) := by decide +kernel
theorem dX1_init_39 : decode cX1_init 39 = .ok (.newarray .int, 2) := by decide +kernel
theorem dX1_init_41 : decode cX1_init 41 = .ok (.putfield 24, 3) := by decide +kernel
theorem dX1_init_44 : decode cX1_init 44 = .ok (.aload_n 0, 1) := by decide +kernel
theorem dX1_init_45 : decode cX1_init 45 = .ok (.bipush 16, 2) := by decide +kernel
theorem dX1_init_47 : decode cX1_init 47 = .ok (.newarray .int, 2) := by decide +kernel
theorem dX1_init_49 : decode cX1_init 49 = .ok (.putfield 27, 3) := by decide +kernel
theorem dX1_init_52 : decode cX1_init 52 = .ok (.aload_n 0, 1) := by decide +kernel
theorem dX1_init_53 : decode cX1_init 53 = .ok (.bipush 16, 2) := by decide +kernel
theorem dX1_init_55 : decode cX1_init 55 = .ok (.newarray .int, 2) := by decide +kernel
theorem dX1_init_57 : decode cX1_init 57 = .ok (.putfield 30, 3) := by decide +kernel
theorem dX1_init_60 : decode cX1_init 60 = .ok (.aload_n 0, 1) := by decide +kernel
theorem dX1_init_61 : decode cX1_init 61 = .ok (.bipush 16, 2) := by decide +kernel
theorem dX1_init_63 : decode cX1_init 63 = .ok (.newarray .int, 2) := by decide +kernel
theorem dX1_init_65 : decode cX1_init 65 = .ok (.putfield 33, 3) := by decide +kernel
theorem dX1_init_68 : decode cX1_init 68 = .ok (.aload_n 0, 1) := by decide +kernel
theorem dX1_init_69 : decode cX1_init 69 = .ok (.iconst 0, 1) := by decide +kernel
theorem dX1_init_70 : decode cX1_init 70 = .ok (.putfield 36, 3) := by decide +kernel
theorem dX1_init_73 : decode cX1_init 73 = .ok (.aload_n 0, 1) := by decide +kernel
theorem dX1_init_74 : decode cX1_init 74 = .ok (.iconst 0, 1) := by decide +kernel
theorem dX1_init_75 : decode cX1_init 75 = .ok (.putfield 40, 3) := by decide +kernel
theorem dX1_init_78 : decode cX1_init 78 = .ok (.aload_n 0, 1) := by decide +kernel
theorem dX1_init_79 : decode cX1_init 79 = .ok (.iconst 0, 1) := by decide +kernel
theorem dX1_init_80 : decode cX1_init 80 = .ok (.putfield 43, 3) := by decide +kernel
theorem dX1_init_83 : decode cX1_init 83 = .ok (.aload_n 0, 1) := by decide +kernel
theorem dX1_init_84 : decode cX1_init 84 = .ok (.iconst 0, 1) := by decide +kernel
theorem dX1_init_85 : decode cX1_init 85 = .ok (.putfield 46, 3) := by decide +kernel
theorem dX1_init_88 : decode cX1_init 88 = .ok (.aload_n 0, 1) := by decide +kernel
theorem dX1_init_89 : decode cX1_init 89 = .ok (.iconst 0, 1) := by decide +kernel
theorem dX1_init_90 : decode cX1_init 90 = .ok (.putfield 49, 3) := by decide +kernel
theorem dX1_init_93 : decode cX1_init 93 = .ok (.aload_n 0, 1) := by decide +kernel
theorem dX1_init_94 : decode cX1_init 94 = .ok (.iconst 0, 1) := by decide +kernel
theorem dX1_init_95 : decode cX1_init 95 = .ok (.putfield 52, 3) := by decide +kernel
theorem dX1_init_98 : decode cX1_init 98 = .ok (.aload_n 0, 1) := by decide +kernel
theorem dX1_init_99 : decode cX1_init 99 = .ok (.iconst 0, 1) := by decide +kernel
theorem dX1_init_100 : decode cX1_init 100 = .ok (.putfield 55, 3) := by decide +kernel
theorem dX1_init_103 : decode cX1_init 103 = .ok (.return_, 1) := by decide +kernel
set_option maxRecDepth 20000 in
theorem ggX1_pour_X1_clear : GoodIn wsX1_pour wsX1_clear := goodIn_r _ [6, 7, 8, 9, 10, 11, 12, 13, 14, 15, 16, 17, 5, 18, 19, 20, 21, 70, 71, 72, 73, 74, 75, 76, 77, 78, 79, 80, 81, 82, 83, 84] (by decide +kernel) (by decide +kernel)
set_option maxRecDepth 20000 in
theorem gX1_pour_X1_clear : GoodIn wsX1_pour (wsV RX1 58 RX1 yX1_clear wsX1_clear) := goodIn_app (goodIn_of _ (by decide +kernel)) ggX1_pour_X1_clear
set_option maxRecDepth 20000 in
theorem ggX1_pour_X1_place : GoodIn wsX1_pour wsX1_place := goodIn_r _ [25, 26, 27, 28, 29, 30, 31, 5, 32, 19, 33, 34, 35, 36, 7, 37, 38, 39, 40, 41, 42, 43, 44, 45, 46, 47, 48, 49, 50, 10, 13, 8, 9, 14, 12, 15, 16, 17, 18, 20, 21, 51, 52, 53, 54, 55, 56, 57, 58, 11, 59, 60, 61, 62, 63, 64, 65, 66, 67, 68, 69, 70, 71, 72, 73, 74, 75, 76, 77, 78, 79, 80, 81, 82, 83, 84] (by decide +kernel) (by decide +kernel)
set_option maxRecDepth 20000 in
theorem gX1_pour_X1_place : GoodIn wsX1_pour (wsV RX1 66 RX1 yX1_place wsX1_place) := goodIn_app (goodIn_of _ (by decide +kernel)) ggX1_pour_X1_place
set_option maxRecDepth 20000 in
theorem ggX1_pour_X1_note : GoodIn wsX1_pour wsX1_note := goodIn_r _ [43, 44, 45, 46, 70, 71, 72, 73, 74, 75, 76, 77, 78, 79, 80, 81, 82, 83, 84] (by decide +kernel) (by decide +kernel)
set_option maxRecDepth 20000 in
theorem gX1_pour_X1_note : GoodIn wsX1_pour (wsV RX1 70 RX1 yX1_note wsX1_note) := goodIn_app (goodIn_of _ (by decide +kernel)) ggX1_pour_X1_note
theorem dX1_pour_0 : decode cX1_pour 0 = .ok (.aload_n 0, 1) := by decide +kernel
theorem dX1_pour_1 : decode cX1_pour 1 = .ok (.invokevirtual 58, 3) := by decide +kernel
theorem dX1_pour_4 : decode cX1_pour 4 = .ok (.iconst 0, 1) := by decide +kernel
theorem dX1_pour_5 : decode cX1_pour 5 = .ok (.istore_n 2, 1) := by decide +kernel
theorem dX1_pour_6 : decode cX1_pour 6 = .ok (.iload_n 2, 1) := by decide +kernel
theorem dX1_pour_7 : decode cX1_pour 7 = .ok (.aload_n 1, 1) := by decide +kernel
theorem dX1_pour_8 : decode cX1_pour 8 = .ok (.getfield 61, 3) := by decide +kernel
theorem dX1_pour_11 : decode cX1_pour 11 = .ok (.if_icmp .ge 18, 3) := by decide +kernel
theorem dX1_pour_14 : decode cX1_pour 14 = .ok (.aload_n 0, 1) := by decide +kernel
theorem dX1_pour_15 : decode cX1_pour 15 = .ok (.aload_n 1, 1) := by decide +kernel
theorem dX1_pour_16 : decode cX1_pour 16 = .ok (.iload_n 2, 1) := by decide +kernel
theorem dX1_pour_17 : decode cX1_pour 17 = .ok (.invokevirtual 66, 3) := by decide +kernel
theorem dX1_pour_20 : decode cX1_pour 20 = .ok (.ifCond .eq 9, 3) := by decide +kernel
theorem dX1_pour_23 : decode cX1_pour 23 = .ok (.iinc 2 1, 3) := by decide +kernel
theorem dX1_pour_26 : decode cX1_pour 26 = .ok (.goto (-20), 3) := by decide +kernel
theorem dX1_pour_29 : decode cX1_pour 29 = .ok (.aload_n 0, 1) := by decide +kernel
theorem dX1_pour_30 : decode cX1_pour 30 = .ok (.aload_n 1, 1) := by decide +kernel
theorem dX1_pour_31 : decode cX1_pour 31 = .ok (.getfield 61, 3) := by decide +kernel
theorem dX1_pour_34 : decode cX1_pour 34 = .ok (.iload_n 2, 1) := by decide +kernel
theorem dX1_pour_35 : decode cX1_pour 35 = .ok (.isub, 1) := by decide +kernel
theorem dX1_pour_36 : decode cX1_pour 36 = .ok (.putfield 55, 3) := by decide +kernel
theorem dX1_pour_39 : decode cX1_pour 39 = .ok (.iload_n 2, 1) := by decide +kernel
theorem dX1_pour_40 : decode cX1_pour 40 = .ok (.aload_n 1, 1) := by decide +kernel
theorem dX1_pour_41 : decode cX1_pour 41 = .ok (.getfield 61, 3) := by decide +kernel
theorem dX1_pour_44 : decode cX1_pour 44 = .ok (.if_icmp .ge 17, 3) := by decide +kernel
theorem dX1_pour_47 : decode cX1_pour 47 = .ok (.aload_n 0, 1) := by decide +kernel
theorem dX1_pour_48 : decode cX1_pour 48 = .ok (.iload_n 2, 1) := by decide +kernel
theorem dX1_pour_49 : decode cX1_pour 49 = .ok (.iconst (-1), 1) := by decide +kernel
theorem dX1_pour_50 : decode cX1_pour 50 = .ok (.iconst (-1), 1) := by decide +kernel
theorem dX1_pour_51 : decode cX1_pour 51 = .ok (.iconst (-1), 1) := by decide +kernel
theorem dX1_pour_52 : decode cX1_pour 52 = .ok (.invokevirtual 70, 3) := by decide +kernel
theorem dX1_pour_55 : decode cX1_pour 55 = .ok (.iinc 2 1, 3) := by decide +kernel
theorem dX1_pour_58 : decode cX1_pour 58 = .ok (.goto (-19), 3) := by decide +kernel
theorem dX1_pour_61 : decode cX1_pour 61 = .ok (.return_, 1) := by decide +kernel
set_option maxRecDepth 20000 in
theorem ggX1_clear_X1_beginPage : GoodIn wsX1_clear wsX1_beginPage := goodIn_r _ [13, 14, 15, 16, 17, 18, 19, 20, 21, 22, 23, 24, 25, 26, 27, 28, 29, 30, 31] (by decide +kernel) (by decide +kernel)
set_option maxRecDepth 20000 in
theorem gX1_clear_X1_beginPage : GoodIn wsX1_clear (wsV RX1 74 RX1 yX1_beginPage wsX1_beginPage) := goodIn_app (goodIn_of _ (by decide +kernel)) ggX1_clear_X1_beginPage
theorem dX1_clear_0 : decode cX1_clear 0 = .ok (.iconst 0, 1) := by decide +kernel
theorem dX1_clear_1 : decode cX1_clear 1 = .ok (.istore_n 1, 1) := by decide +kernel
theorem dX1_clear_2 : decode cX1_clear 2 = .ok (.iload_n 1, 1) := by decide +kernel
theorem dX1_clear_3 : decode cX1_clear 3 = .ok (.bipush 16, 2) := by decide +kernel
theorem dX1_clear_5 : decode cX1_clear 5 = .ok (.if_icmp .ge 44, 3) := by decide +kernel
theorem dX1_clear_8 : decode cX1_clear 8 = .ok (.aload_n 0, 1) := by decide +kernel
theorem dX1_clear_9 : decode cX1_clear 9 = .ok (.getfield 21, 3) := by decide +kernel
theorem dX1_clear_12 : decode cX1_clear 12 = .ok (.iload_n 1, 1) := by decide +kernel
theorem dX1_clear_13 : decode cX1_clear 13 = .ok (.iconst 0, 1) := by decide +kernel
theorem dX1_clear_14 : decode cX1_clear 14 = .ok (.iastore, 1) := by decide +kernel
theorem dX1_clear_15 : decode cX1_clear 15 = .ok (.aload_n 0, 1) := by decide +kernel
theorem dX1_clear_16 : decode cX1_clear 16 = .ok (.getfield 24, 3) := by decide +kernel
theorem dX1_clear_19 : decode cX1_clear 19 = .ok (.iload_n 1, 1) := by decide +kernel
theorem dX1_clear_20 : decode cX1_clear 20 = .ok (.iconst 0, 1) := by decide +kernel
theorem dX1_clear_21 : decode cX1_clear 21 = .ok (.iastore, 1) := by decide +kernel
theorem dX1_clear_22 : decode cX1_clear 22 = .ok (.aload_n 0, 1) := by decide +kernel
theorem dX1_clear_23 : decode cX1_clear 23 = .ok (.getfield 27, 3) := by decide +kernel
theorem dX1_clear_26 : decode cX1_clear 26 = .ok (.iload_n 1, 1) := by decide +kernel
theorem dX1_clear_27 : decode cX1_clear 27 = .ok (.iconst 0, 1) := by decide +kernel
theorem dX1_clear_28 : decode cX1_clear 28 = .ok (.iastore, 1) := by decide +kernel
theorem dX1_clear_29 : decode cX1_clear 29 = .ok (.aload_n 0, 1) := by decide +kernel
theorem dX1_clear_30 : decode cX1_clear 30 = .ok (.getfield 30, 3) := by decide +kernel
theorem dX1_clear_33 : decode cX1_clear 33 = .ok (.iload_n 1, 1) := by decide +kernel
theorem dX1_clear_34 : decode cX1_clear 34 = .ok (.iconst 0, 1) := by decide +kernel
theorem dX1_clear_35 : decode cX1_clear 35 = .ok (.iastore, 1) := by decide +kernel
theorem dX1_clear_36 : decode cX1_clear 36 = .ok (.aload_n 0, 1) := by decide +kernel
theorem dX1_clear_37 : decode cX1_clear 37 = .ok (.getfield 33, 3) := by decide +kernel
theorem dX1_clear_40 : decode cX1_clear 40 = .ok (.iload_n 1, 1) := by decide +kernel
theorem dX1_clear_41 : decode cX1_clear 41 = .ok (.iconst 0, 1) := by decide +kernel
theorem dX1_clear_42 : decode cX1_clear 42 = .ok (.iastore, 1) := by decide +kernel
theorem dX1_clear_43 : decode cX1_clear 43 = .ok (.iinc 1 1, 3) := by decide +kernel
theorem dX1_clear_46 : decode cX1_clear 46 = .ok (.goto (-44), 3) := by decide +kernel
theorem dX1_clear_49 : decode cX1_clear 49 = .ok (.aload_n 0, 1) := by decide +kernel
theorem dX1_clear_50 : decode cX1_clear 50 = .ok (.iconst 0, 1) := by decide +kernel
theorem dX1_clear_51 : decode cX1_clear 51 = .ok (.invokevirtual 74, 3) := by decide +kernel
theorem dX1_clear_54 : decode cX1_clear 54 = .ok (.aload_n 0, 1) := by decide +kernel
theorem dX1_clear_55 : decode cX1_clear 55 = .ok (.iconst 0, 1) := by decide +kernel
theorem dX1_clear_56 : decode cX1_clear 56 = .ok (.putfield 46, 3) := by decide +kernel
theorem dX1_clear_59 : decode cX1_clear 59 = .ok (.aload_n 0, 1) := by decide +kernel
theorem dX1_clear_60 : decode cX1_clear 60 = .ok (.iconst 0, 1) := by decide +kernel
theorem dX1_clear_61 : decode cX1_clear 61 = .ok (.putfield 49, 3) := by decide +kernel
theorem dX1_clear_64 : decode cX1_clear 64 = .ok (.aload_n 0, 1) := by decide +kernel
theorem dX1_clear_65 : decode cX1_clear 65 = .ok (.iconst 0, 1) := by decide +kernel
theorem dX1_clear_66 : decode cX1_clear 66 = .ok (.putfield 52, 3) := by decide +kernel
theorem dX1_clear_69 : decode cX1_clear 69 = .ok (.return_, 1) := by decide +kernel
set_option maxRecDepth 20000 in
theorem ggX1_place_X4_read : GoodIn wsX1_place wsX4_read := goodIn_r _ [3] (by decide +kernel) (by decide +kernel)
set_option maxRecDepth 20000 in
theorem gX1_place_X4_read_n81 : GoodIn wsX1_place (wsX4_read) := ggX1_place_X4_read
set_option maxRecDepth 20000 in
theorem ggX1_place_X1_placeOnWholePages : GoodIn wsX1_place wsX1_placeOnWholePages := goodIn_r _ [8, 9, 10, 11, 12, 7, 13, 14, 15, 16, 17, 18, 19, 20, 21, 22, 23, 24, 25, 26, 27, 28, 29, 30, 31, 32, 33, 34, 35, 36, 37, 38, 39, 40, 61, 62, 63, 64, 65, 66, 67, 68, 69, 70, 71, 72, 73, 74, 75] (by decide +kernel) (by decide +kernel)
set_option maxRecDepth 20000 in
theorem gX1_place_X1_placeOnWholePages : GoodIn wsX1_place (wsV RX1 88 RX1 yX1_placeOnWholePages wsX1_placeOnWholePages) := goodIn_app (goodIn_of _ (by decide +kernel)) ggX1_place_X1_placeOnWholePages
set_option maxRecDepth 20000 in
theorem ggX1_place_X1_goOnIfTooManyBeats : GoodIn wsX1_place wsX1_goOnIfTooManyBeats := goodIn_r _ [44, 9, 31, 10, 11, 12, 7, 13, 14, 1, 2, 3, 35, 36, 37, 38, 39, 40, 61, 62, 63, 64, 65, 66, 67, 68, 69, 70, 71, 72, 73, 74, 75] (by decide +kernel) (by decide +kernel)
set_option maxRecDepth 20000 in
theorem gX1_place_X1_goOnIfTooManyBeats : GoodIn wsX1_place (wsV RX1 95 RX1 yX1_goOnIfTooManyBeats wsX1_goOnIfTooManyBeats) := goodIn_app (goodIn_of _ (by decide +kernel)) ggX1_place_X1_goOnIfTooManyBeats
set_option maxRecDepth 20000 in
theorem ggX1_place_X1_placeInRow : GoodIn wsX1_place wsX1_placeInRow := goodIn_r _ [48, 40, 9, 39, 49, 50, 51, 52, 7, 53, 15, 16, 17, 18, 19, 20, 21, 22, 23, 24, 25, 26, 27, 28, 14, 29, 30, 31, 32, 33, 34, 1, 2, 3, 54, 55, 61, 62, 63, 64, 65, 66, 67, 68, 69, 70, 71, 72, 73, 74, 75] (by decide +kernel) (by decide +kernel)
set_option maxRecDepth 20000 in
theorem gX1_place_X1_placeInRow : GoodIn wsX1_place (wsV RX1 102 RX1 yX1_placeInRow wsX1_placeInRow) := goodIn_app (goodIn_of _ (by decide +kernel)) ggX1_place_X1_placeInRow
theorem dX1_place_0 : decode cX1_place 0 = .ok (.aload_n 1, 1) := by decide +kernel
theorem dX1_place_1 : decode cX1_place 1 = .ok (.getfield 78, 3) := by decide +kernel
theorem dX1_place_4 : decode cX1_place 4 = .ok (.iload_n 2, 1) := by decide +kernel
theorem dX1_place_5 : decode cX1_place 5 = .ok (.invokestatic 81, 3) := by decide +kernel
theorem dX1_place_8 : decode cX1_place 8 = .ok (.istore_n 3, 1) := by decide +kernel
theorem dX1_place_9 : decode cX1_place 9 = .ok (.aload_n 1, 1) := by decide +kernel
theorem dX1_place_10 : decode cX1_place 10 = .ok (.getfield 85, 3) := by decide +kernel
theorem dX1_place_13 : decode cX1_place 13 = .ok (.iload_n 2, 1) := by decide +kernel
theorem dX1_place_14 : decode cX1_place 14 = .ok (.invokestatic 81, 3) := by decide +kernel
theorem dX1_place_17 : decode cX1_place 17 = .ok (.istore 4, 2) := by decide +kernel
theorem dX1_place_19 : decode cX1_place 19 = .ok (.iload_n 3, 1) := by decide +kernel
theorem dX1_place_20 : decode cX1_place 20 = .ok (.iconst 2, 1) := by decide +kernel
theorem dX1_place_21 : decode cX1_place 21 = .ok (.if_icmp .ne 12, 3) := by decide +kernel
theorem dX1_place_24 : decode cX1_place 24 = .ok (.aload_n 0, 1) := by decide +kernel
theorem dX1_place_25 : decode cX1_place 25 = .ok (.iload_n 2, 1) := by decide +kernel
theorem dX1_place_26 : decode cX1_place 26 = .ok (.iload 4, 2) := by decide +kernel
theorem dX1_place_28 : decode cX1_place 28 = .ok (.iconst 1, 1) := by decide +kernel
theorem dX1_place_29 : decode cX1_place 29 = .ok (.invokevirtual 88, 3) := by decide +kernel
theorem dX1_place_32 : decode cX1_place 32 = .ok (.ireturn, 1) := by decide +kernel
theorem dX1_place_33 : decode cX1_place 33 = .ok (.iload_n 3, 1) := by decide +kernel
theorem dX1_place_34 : decode cX1_place 34 = .ok (.iconst 3, 1) := by decide +kernel
theorem dX1_place_35 : decode cX1_place 35 = .ok (.if_icmp .ne 12, 3) := by decide +kernel
theorem dX1_place_38 : decode cX1_place 38 = .ok (.aload_n 0, 1) := by decide +kernel
theorem dX1_place_39 : decode cX1_place 39 = .ok (.iload_n 2, 1) := by decide +kernel
theorem dX1_place_40 : decode cX1_place 40 = .ok (.iload 4, 2) := by decide +kernel
theorem dX1_place_42 : decode cX1_place 42 = .ok (.iconst 2, 1) := by decide +kernel
theorem dX1_place_43 : decode cX1_place 43 = .ok (.invokevirtual 88, 3) := by decide +kernel
theorem dX1_place_46 : decode cX1_place 46 = .ok (.ireturn, 1) := by decide +kernel
theorem dX1_place_47 : decode cX1_place 47 = .ok (.aload_n 0, 1) := by decide +kernel
theorem dX1_place_48 : decode cX1_place 48 = .ok (.iload 4, 2) := by decide +kernel
theorem dX1_place_50 : decode cX1_place 50 = .ok (.aload_n 1, 1) := by decide +kernel
theorem dX1_place_51 : decode cX1_place 51 = .ok (.getfield 92, 3) := by decide +kernel
theorem dX1_place_54 : decode cX1_place 54 = .ok (.invokevirtual 95, 3) := by decide +kernel
theorem dX1_place_57 : decode cX1_place 57 = .ok (.aload_n 0, 1) := by decide +kernel
theorem dX1_place_58 : decode cX1_place 58 = .ok (.iload_n 2, 1) := by decide +kernel
theorem dX1_place_59 : decode cX1_place 59 = .ok (.iload_n 3, 1) := by decide +kernel
theorem dX1_place_60 : decode cX1_place 60 = .ok (.iconst 1, 1) := by decide +kernel
theorem dX1_place_61 : decode cX1_place 61 = .ok (.if_icmp .ne 7, 3) := by decide +kernel
theorem dX1_place_64 : decode cX1_place 64 = .ok (.iconst 1, 1) := by decide +kernel
theorem dX1_place_65 : decode cX1_place 65 = .ok (.goto 4, 3) := by decide +kernel
theorem dX1_place_68 : decode cX1_place 68 = .ok (.iconst 0, 1) := by decide +kernel
theorem dX1_place_69 : decode cX1_place 69 = .ok (.aload_n 1, 1) := by decide +kernel
theorem dX1_place_70 : decode cX1_place 70 = .ok (.getfield 99, 3) := by decide +kernel
theorem dX1_place_73 : decode cX1_place 73 = .ok (.iload_n 2, 1) := by decide +kernel
theorem dX1_place_74 : decode cX1_place 74 = .ok (.invokestatic 81, 3) := by decide +kernel
theorem dX1_place_77 : decode cX1_place 77 = .ok (.iload 4, 2) := by decide +kernel
theorem dX1_place_79 : decode cX1_place 79 = .ok (.invokevirtual 102, 3) := by decide +kernel
theorem dX1_place_82 : decode cX1_place 82 = .ok (.ireturn, 1) := by decide +kernel
set_option maxRecDepth 20000 in
theorem ggX1_placeOnWholePages_X1_isBearing : GoodIn wsX1_placeOnWholePages wsX1_isBearing := goodIn_r _ [6, 7, 34, 35, 36, 37, 38, 39, 40, 41, 42, 43, 44, 45, 46, 47, 48] (by decide +kernel) (by decide +kernel)
set_option maxRecDepth 20000 in
theorem gX1_placeOnWholePages_X1_isBearing : GoodIn wsX1_placeOnWholePages (wsV RX1 106 RX1 yX1_isBearing wsX1_isBearing) := goodIn_app (goodIn_of _ (by decide +kernel)) ggX1_placeOnWholePages_X1_isBearing
set_option maxRecDepth 20000 in
theorem ggX1_placeOnWholePages_X1_isOnLeft : GoodIn wsX1_placeOnWholePages wsX1_isOnLeft := goodIn_r _ [10] (by decide +kernel) (by decide +kernel)
set_option maxRecDepth 20000 in
theorem gX1_placeOnWholePages_X1_isOnLeft : GoodIn wsX1_placeOnWholePages (va_wsS RX1 110 yX1_isOnLeft wsX1_isOnLeft) := goodIn_app (goodIn_of _ (by decide +kernel)) ggX1_placeOnWholePages_X1_isOnLeft
set_option maxRecDepth 20000 in
theorem ggX1_placeOnWholePages_X1_note : GoodIn wsX1_placeOnWholePages wsX1_note := goodIn_r _ [14, 15, 16, 17, 34, 35, 36, 37, 38, 39, 40, 41, 42, 43, 44, 45, 46, 47, 48] (by decide +kernel) (by decide +kernel)
set_option maxRecDepth 20000 in
theorem gX1_placeOnWholePages_X1_note : GoodIn wsX1_placeOnWholePages (wsV RX1 70 RX1 yX1_note wsX1_note) := goodIn_app (goodIn_of _ (by decide +kernel)) ggX1_placeOnWholePages_X1_note
set_option maxRecDepth 20000 in
theorem ggX1_placeOnWholePages_X1_bear : GoodIn wsX1_placeOnWholePages wsX1_bear := goodIn_r _ [21, 7, 22, 23, 24, 25, 26, 27, 34, 35, 36, 37, 38, 39, 40, 41, 42, 43, 44, 45, 46, 47, 48] (by decide +kernel) (by decide +kernel)
set_option maxRecDepth 20000 in
theorem gX1_placeOnWholePages_X1_bear : GoodIn wsX1_placeOnWholePages (wsV RX1 113 RX1 yX1_bear wsX1_bear) := goodIn_app (goodIn_of _ (by decide +kernel)) ggX1_placeOnWholePages_X1_bear
set_option maxRecDepth 20000 in
theorem ggX1_placeOnWholePages_X1_beginPage : GoodIn wsX1_placeOnWholePages wsX1_beginPage := goodIn_r _ [31, 1, 32, 33, 34, 35, 36, 37, 38, 39, 40, 41, 42, 43, 44, 45, 46, 47, 48] (by decide +kernel) (by decide +kernel)
set_option maxRecDepth 20000 in
theorem gX1_placeOnWholePages_X1_beginPage : GoodIn wsX1_placeOnWholePages (wsV RX1 74 RX1 yX1_beginPage wsX1_beginPage) := goodIn_app (goodIn_of _ (by decide +kernel)) ggX1_placeOnWholePages_X1_beginPage
theorem dX1_placeOnWholePages_0 : decode cX1_placeOnWholePages 0 = .ok (.aload_n 0, 1) := by decide +kernel
theorem dX1_placeOnWholePages_1 : decode cX1_placeOnWholePages 1 = .ok (.aload_n 0, 1) := by decide +kernel
theorem dX1_placeOnWholePages_2 : decode cX1_placeOnWholePages 2 = .ok (.getfield 36, 3) := by decide +kernel
theorem dX1_placeOnWholePages_5 : decode cX1_placeOnWholePages 5 = .ok (.invokevirtual 106, 3) := by decide +kernel
theorem dX1_placeOnWholePages_8 : decode cX1_placeOnWholePages 8 = .ok (.ifCond .eq 12, 3) := by decide +kernel
theorem dX1_placeOnWholePages_11 : decode cX1_placeOnWholePages 11 = .ok (.aload_n 0, 1) := by decide +kernel
theorem dX1_placeOnWholePages_12 : decode cX1_placeOnWholePages 12 = .ok (.getfield 36, 3) := by decide +kernel
theorem dX1_placeOnWholePages_15 : decode cX1_placeOnWholePages 15 = .ok (.iconst 1, 1) := by decide +kernel
theorem dX1_placeOnWholePages_16 : decode cX1_placeOnWholePages 16 = .ok (.iadd, 1) := by decide +kernel
theorem dX1_placeOnWholePages_17 : decode cX1_placeOnWholePages 17 = .ok (.goto 7, 3) := by decide +kernel
theorem dX1_placeOnWholePages_20 : decode cX1_placeOnWholePages 20 = .ok (.aload_n 0, 1) := by decide +kernel
theorem dX1_placeOnWholePages_21 : decode cX1_placeOnWholePages 21 = .ok (.getfield 36, 3) := by decide +kernel
theorem dX1_placeOnWholePages_24 : decode cX1_placeOnWholePages 24 = .ok (.istore 4, 2) := by decide +kernel
theorem dX1_placeOnWholePages_26 : decode cX1_placeOnWholePages 26 = .ok (.iload_n 3, 1) := by decide +kernel
theorem dX1_placeOnWholePages_27 : decode cX1_placeOnWholePages 27 = .ok (.iconst 2, 1) := by decide +kernel
theorem dX1_placeOnWholePages_28 : decode cX1_placeOnWholePages 28 = .ok (.if_icmp .ne 14, 3) := by decide +kernel
theorem dX1_placeOnWholePages_31 : decode cX1_placeOnWholePages 31 = .ok (.iload 4, 2) := by decide +kernel
theorem dX1_placeOnWholePages_33 : decode cX1_placeOnWholePages 33 = .ok (.invokestatic 110, 3) := by decide +kernel
theorem dX1_placeOnWholePages_36 : decode cX1_placeOnWholePages 36 = .ok (.ifCond .eq 6, 3) := by decide +kernel
theorem dX1_placeOnWholePages_39 : decode cX1_placeOnWholePages 39 = .ok (.iinc 4 1, 3) := by decide +kernel
theorem dX1_placeOnWholePages_42 : decode cX1_placeOnWholePages 42 = .ok (.iload 4, 2) := by decide +kernel
theorem dX1_placeOnWholePages_44 : decode cX1_placeOnWholePages 44 = .ok (.iload_n 3, 1) := by decide +kernel
theorem dX1_placeOnWholePages_45 : decode cX1_placeOnWholePages 45 = .ok (.iadd, 1) := by decide +kernel
theorem dX1_placeOnWholePages_46 : decode cX1_placeOnWholePages 46 = .ok (.bipush 16, 2) := by decide +kernel
theorem dX1_placeOnWholePages_48 : decode cX1_placeOnWholePages 48 = .ok (.if_icmp .le 5, 3) := by decide +kernel
theorem dX1_placeOnWholePages_51 : decode cX1_placeOnWholePages 51 = .ok (.iconst 0, 1) := by decide +kernel
theorem dX1_placeOnWholePages_52 : decode cX1_placeOnWholePages 52 = .ok (.ireturn, 1) := by decide +kernel
theorem dX1_placeOnWholePages_53 : decode cX1_placeOnWholePages 53 = .ok (.aload_n 0, 1) := by decide +kernel
theorem dX1_placeOnWholePages_54 : decode cX1_placeOnWholePages 54 = .ok (.iload_n 1, 1) := by decide +kernel
theorem dX1_placeOnWholePages_55 : decode cX1_placeOnWholePages 55 = .ok (.iload 4, 2) := by decide +kernel
theorem dX1_placeOnWholePages_57 : decode cX1_placeOnWholePages 57 = .ok (.iconst (-1), 1) := by decide +kernel
theorem dX1_placeOnWholePages_58 : decode cX1_placeOnWholePages 58 = .ok (.iconst (-1), 1) := by decide +kernel
theorem dX1_placeOnWholePages_59 : decode cX1_placeOnWholePages 59 = .ok (.invokevirtual 70, 3) := by decide +kernel
theorem dX1_placeOnWholePages_62 : decode cX1_placeOnWholePages 62 = .ok (.aload_n 0, 1) := by decide +kernel
theorem dX1_placeOnWholePages_63 : decode cX1_placeOnWholePages 63 = .ok (.iload 4, 2) := by decide +kernel
theorem dX1_placeOnWholePages_65 : decode cX1_placeOnWholePages 65 = .ok (.iload_n 1, 1) := by decide +kernel
theorem dX1_placeOnWholePages_66 : decode cX1_placeOnWholePages 66 = .ok (.bipush 24, 2) := by decide +kernel
theorem dX1_placeOnWholePages_68 : decode cX1_placeOnWholePages 68 = .ok (.iload_n 2, 1) := by decide +kernel
theorem dX1_placeOnWholePages_69 : decode cX1_placeOnWholePages 69 = .ok (.invokevirtual 113, 3) := by decide +kernel
theorem dX1_placeOnWholePages_72 : decode cX1_placeOnWholePages 72 = .ok (.iload_n 3, 1) := by decide +kernel
theorem dX1_placeOnWholePages_73 : decode cX1_placeOnWholePages 73 = .ok (.iconst 2, 1) := by decide +kernel
theorem dX1_placeOnWholePages_74 : decode cX1_placeOnWholePages 74 = .ok (.if_icmp .ne 15, 3) := by decide +kernel
theorem dX1_placeOnWholePages_77 : decode cX1_placeOnWholePages 77 = .ok (.aload_n 0, 1) := by decide +kernel
theorem dX1_placeOnWholePages_78 : decode cX1_placeOnWholePages 78 = .ok (.iload 4, 2) := by decide +kernel
theorem dX1_placeOnWholePages_80 : decode cX1_placeOnWholePages 80 = .ok (.iconst 1, 1) := by decide +kernel
theorem dX1_placeOnWholePages_81 : decode cX1_placeOnWholePages 81 = .ok (.iadd, 1) := by decide +kernel
theorem dX1_placeOnWholePages_82 : decode cX1_placeOnWholePages 82 = .ok (.iload_n 1, 1) := by decide +kernel
theorem dX1_placeOnWholePages_83 : decode cX1_placeOnWholePages 83 = .ok (.bipush 24, 2) := by decide +kernel
theorem dX1_placeOnWholePages_85 : decode cX1_placeOnWholePages 85 = .ok (.iconst 0, 1) := by decide +kernel
theorem dX1_placeOnWholePages_86 : decode cX1_placeOnWholePages 86 = .ok (.invokevirtual 113, 3) := by decide +kernel
theorem dX1_placeOnWholePages_89 : decode cX1_placeOnWholePages 89 = .ok (.aload_n 0, 1) := by decide +kernel
theorem dX1_placeOnWholePages_90 : decode cX1_placeOnWholePages 90 = .ok (.iload 4, 2) := by decide +kernel
theorem dX1_placeOnWholePages_92 : decode cX1_placeOnWholePages 92 = .ok (.iload_n 3, 1) := by decide +kernel
theorem dX1_placeOnWholePages_93 : decode cX1_placeOnWholePages 93 = .ok (.iadd, 1) := by decide +kernel
theorem dX1_placeOnWholePages_94 : decode cX1_placeOnWholePages 94 = .ok (.invokevirtual 74, 3) := by decide +kernel
theorem dX1_placeOnWholePages_97 : decode cX1_placeOnWholePages 97 = .ok (.iconst 1, 1) := by decide +kernel
theorem dX1_placeOnWholePages_98 : decode cX1_placeOnWholePages 98 = .ok (.ireturn, 1) := by decide +kernel
set_option maxRecDepth 20000 in
theorem ggX1_goOnIfTooManyBeats_X1_isBearing : GoodIn wsX1_goOnIfTooManyBeats wsX1_isBearing := goodIn_r _ [7, 8, 18, 19, 20, 21, 22, 23, 24, 25, 26, 27, 28, 29, 30, 31, 32] (by decide +kernel) (by decide +kernel)
set_option maxRecDepth 20000 in
theorem gX1_goOnIfTooManyBeats_X1_isBearing : GoodIn wsX1_goOnIfTooManyBeats (wsV RX1 106 RX1 yX1_isBearing wsX1_isBearing) := goodIn_app (goodIn_of _ (by decide +kernel)) ggX1_goOnIfTooManyBeats_X1_isBearing
set_option maxRecDepth 20000 in
theorem ggX1_goOnIfTooManyBeats_X4_read : GoodIn wsX1_goOnIfTooManyBeats wsX4_read := goodIn_r _ [11] (by decide +kernel) (by decide +kernel)
set_option maxRecDepth 20000 in
theorem gX1_goOnIfTooManyBeats_X4_read_n81 : GoodIn wsX1_goOnIfTooManyBeats (wsX4_read) := ggX1_goOnIfTooManyBeats_X4_read
set_option maxRecDepth 20000 in
theorem ggX1_goOnIfTooManyBeats_X1_beginPage : GoodIn wsX1_goOnIfTooManyBeats wsX1_beginPage := goodIn_r _ [15, 1, 16, 17, 18, 19, 20, 21, 22, 23, 24, 25, 26, 27, 28, 29, 30, 31, 32] (by decide +kernel) (by decide +kernel)
set_option maxRecDepth 20000 in
theorem gX1_goOnIfTooManyBeats_X1_beginPage : GoodIn wsX1_goOnIfTooManyBeats (wsV RX1 74 RX1 yX1_beginPage wsX1_beginPage) := goodIn_app (goodIn_of _ (by decide +kernel)) ggX1_goOnIfTooManyBeats_X1_beginPage
theorem dX1_goOnIfTooManyBeats_0 : decode cX1_goOnIfTooManyBeats 0 = .ok (.aload_n 0, 1) := by decide +kernel
theorem dX1_goOnIfTooManyBeats_1 : decode cX1_goOnIfTooManyBeats 1 = .ok (.aload_n 0, 1) := by decide +kernel
theorem dX1_goOnIfTooManyBeats_2 : decode cX1_goOnIfTooManyBeats 2 = .ok (.getfield 36, 3) := by decide +kernel
theorem dX1_goOnIfTooManyBeats_5 : decode cX1_goOnIfTooManyBeats 5 = .ok (.invokevirtual 106, 3) := by decide +kernel
theorem dX1_goOnIfTooManyBeats_8 : decode cX1_goOnIfTooManyBeats 8 = .ok (.ifCond .eq 30, 3) := by decide +kernel
theorem dX1_goOnIfTooManyBeats_11 : decode cX1_goOnIfTooManyBeats 11 = .ok (.aload_n 0, 1) := by decide +kernel
theorem dX1_goOnIfTooManyBeats_12 : decode cX1_goOnIfTooManyBeats 12 = .ok (.getfield 24, 3) := by decide +kernel
theorem dX1_goOnIfTooManyBeats_15 : decode cX1_goOnIfTooManyBeats 15 = .ok (.aload_n 0, 1) := by decide +kernel
theorem dX1_goOnIfTooManyBeats_16 : decode cX1_goOnIfTooManyBeats 16 = .ok (.getfield 36, 3) := by decide +kernel
theorem dX1_goOnIfTooManyBeats_19 : decode cX1_goOnIfTooManyBeats 19 = .ok (.invokestatic 81, 3) := by decide +kernel
theorem dX1_goOnIfTooManyBeats_22 : decode cX1_goOnIfTooManyBeats 22 = .ok (.iload_n 1, 1) := by decide +kernel
theorem dX1_goOnIfTooManyBeats_23 : decode cX1_goOnIfTooManyBeats 23 = .ok (.iadd, 1) := by decide +kernel
theorem dX1_goOnIfTooManyBeats_24 : decode cX1_goOnIfTooManyBeats 24 = .ok (.iload_n 2, 1) := by decide +kernel
theorem dX1_goOnIfTooManyBeats_25 : decode cX1_goOnIfTooManyBeats 25 = .ok (.if_icmp .le 13, 3) := by decide +kernel
theorem dX1_goOnIfTooManyBeats_28 : decode cX1_goOnIfTooManyBeats 28 = .ok (.aload_n 0, 1) := by decide +kernel
theorem dX1_goOnIfTooManyBeats_29 : decode cX1_goOnIfTooManyBeats 29 = .ok (.aload_n 0, 1) := by decide +kernel
theorem dX1_goOnIfTooManyBeats_30 : decode cX1_goOnIfTooManyBeats 30 = .ok (.getfield 36, 3) := by decide +kernel
theorem dX1_goOnIfTooManyBeats_33 : decode cX1_goOnIfTooManyBeats 33 = .ok (.iconst 1, 1) := by decide +kernel
theorem dX1_goOnIfTooManyBeats_34 : decode cX1_goOnIfTooManyBeats 34 = .ok (.iadd, 1) := by decide +kernel
theorem dX1_goOnIfTooManyBeats_35 : decode cX1_goOnIfTooManyBeats 35 = .ok (.invokevirtual 74, 3) := by decide +kernel
theorem dX1_goOnIfTooManyBeats_38 : decode cX1_goOnIfTooManyBeats 38 = .ok (.return_, 1) := by decide +kernel
set_option maxRecDepth 20000 in
theorem ggX1_placeInRow_X1_beginRow : GoodIn wsX1_placeInRow wsX1_beginRow := goodIn_r _ [9, 1, 3, 2, 36, 37, 38, 39, 40, 41, 42, 43, 44, 45, 46, 47, 48, 49, 50] (by decide +kernel) (by decide +kernel)
set_option maxRecDepth 20000 in
theorem gX1_placeInRow_X1_beginRow : GoodIn wsX1_placeInRow (wsV RX1 116 RX1 yX1_beginRow wsX1_beginRow) := goodIn_app (goodIn_of _ (by decide +kernel)) ggX1_placeInRow_X1_beginRow
set_option maxRecDepth 20000 in
theorem ggX1_placeInRow_X1_isOnLeft : GoodIn wsX1_placeInRow wsX1_isOnLeft := goodIn_r _ [12] (by decide +kernel) (by decide +kernel)
set_option maxRecDepth 20000 in
theorem gX1_placeInRow_X1_isOnLeft : GoodIn wsX1_placeInRow (va_wsS RX1 110 yX1_isOnLeft wsX1_isOnLeft) := goodIn_app (goodIn_of _ (by decide +kernel)) ggX1_placeInRow_X1_isOnLeft
set_option maxRecDepth 20000 in
theorem ggX1_placeInRow_X1_note : GoodIn wsX1_placeInRow wsX1_note := goodIn_r _ [16, 17, 18, 19, 36, 37, 38, 39, 40, 41, 42, 43, 44, 45, 46, 47, 48, 49, 50] (by decide +kernel) (by decide +kernel)
set_option maxRecDepth 20000 in
theorem gX1_placeInRow_X1_note : GoodIn wsX1_placeInRow (wsV RX1 70 RX1 yX1_note wsX1_note) := goodIn_app (goodIn_of _ (by decide +kernel)) ggX1_placeInRow_X1_note
set_option maxRecDepth 20000 in
theorem ggX1_placeInRow_X1_bear : GoodIn wsX1_placeInRow wsX1_bear := goodIn_r _ [23, 24, 25, 26, 27, 28, 29, 30, 36, 37, 38, 39, 40, 41, 42, 43, 44, 45, 46, 47, 48, 49, 50] (by decide +kernel) (by decide +kernel)
set_option maxRecDepth 20000 in
theorem gX1_placeInRow_X1_bear : GoodIn wsX1_placeInRow (wsV RX1 113 RX1 yX1_bear wsX1_bear) := goodIn_app (goodIn_of _ (by decide +kernel)) ggX1_placeInRow_X1_bear
set_option maxRecDepth 20000 in
theorem ggX1_placeInRow_X4_read : GoodIn wsX1_placeInRow wsX4_read := goodIn_r _ [33] (by decide +kernel) (by decide +kernel)
set_option maxRecDepth 20000 in
theorem gX1_placeInRow_X4_read_n81 : GoodIn wsX1_placeInRow (wsX4_read) := ggX1_placeInRow_X4_read
set_option maxRecDepth 20000 in
theorem ggX1_placeInRow_X4_write : GoodIn wsX1_placeInRow wsX4_write := goodIn_r _ [35] (by decide +kernel) (by decide +kernel)
set_option maxRecDepth 20000 in
theorem gX1_placeInRow_X4_write_n119 : GoodIn wsX1_placeInRow (wsX4_write) := ggX1_placeInRow_X4_write
theorem dX1_placeInRow_0 : decode cX1_placeInRow 0 = .ok (.bipush 6, 2) := by decide +kernel
theorem dX1_placeInRow_2 : decode cX1_placeInRow 2 = .ok (.aload_n 0, 1) := by decide +kernel
theorem dX1_placeInRow_3 : decode cX1_placeInRow 3 = .ok (.getfield 43, 3) := by decide +kernel
theorem dX1_placeInRow_6 : decode cX1_placeInRow 6 = .ok (.isub, 1) := by decide +kernel
theorem dX1_placeInRow_7 : decode cX1_placeInRow 7 = .ok (.iload_n 3, 1) := by decide +kernel
theorem dX1_placeInRow_8 : decode cX1_placeInRow 8 = .ok (.if_icmp .ge 7, 3) := by decide +kernel
theorem dX1_placeInRow_11 : decode cX1_placeInRow 11 = .ok (.aload_n 0, 1) := by decide +kernel
theorem dX1_placeInRow_12 : decode cX1_placeInRow 12 = .ok (.invokevirtual 116, 3) := by decide +kernel
theorem dX1_placeInRow_15 : decode cX1_placeInRow 15 = .ok (.iload_n 2, 1) := by decide +kernel
theorem dX1_placeInRow_16 : decode cX1_placeInRow 16 = .ok (.ifCond .eq 24, 3) := by decide +kernel
theorem dX1_placeInRow_19 : decode cX1_placeInRow 19 = .ok (.aload_n 0, 1) := by decide +kernel
theorem dX1_placeInRow_20 : decode cX1_placeInRow 20 = .ok (.getfield 36, 3) := by decide +kernel
theorem dX1_placeInRow_23 : decode cX1_placeInRow 23 = .ok (.invokestatic 110, 3) := by decide +kernel
theorem dX1_placeInRow_26 : decode cX1_placeInRow 26 = .ok (.ifCond .ne 14, 3) := by decide +kernel
theorem dX1_placeInRow_29 : decode cX1_placeInRow 29 = .ok (.aload_n 0, 1) := by decide +kernel
theorem dX1_placeInRow_30 : decode cX1_placeInRow 30 = .ok (.getfield 43, 3) := by decide +kernel
theorem dX1_placeInRow_33 : decode cX1_placeInRow 33 = .ok (.ifCond .eq 7, 3) := by decide +kernel
theorem dX1_placeInRow_36 : decode cX1_placeInRow 36 = .ok (.aload_n 0, 1) := by decide +kernel
theorem dX1_placeInRow_37 : decode cX1_placeInRow 37 = .ok (.invokevirtual 116, 3) := by decide +kernel
theorem dX1_placeInRow_40 : decode cX1_placeInRow 40 = .ok (.aload_n 0, 1) := by decide +kernel
theorem dX1_placeInRow_41 : decode cX1_placeInRow 41 = .ok (.getfield 36, 3) := by decide +kernel
theorem dX1_placeInRow_44 : decode cX1_placeInRow 44 = .ok (.bipush 16, 2) := by decide +kernel
theorem dX1_placeInRow_46 : decode cX1_placeInRow 46 = .ok (.if_icmp .lt 5, 3) := by decide +kernel
theorem dX1_placeInRow_49 : decode cX1_placeInRow 49 = .ok (.iconst 0, 1) := by decide +kernel
theorem dX1_placeInRow_50 : decode cX1_placeInRow 50 = .ok (.ireturn, 1) := by decide +kernel
theorem dX1_placeInRow_51 : decode cX1_placeInRow 51 = .ok (.iload_n 2, 1) := by decide +kernel
theorem dX1_placeInRow_52 : decode cX1_placeInRow 52 = .ok (.ifCond .eq 20, 3) := by decide +kernel
theorem dX1_placeInRow_55 : decode cX1_placeInRow 55 = .ok (.aload_n 0, 1) := by decide +kernel
theorem dX1_placeInRow_56 : decode cX1_placeInRow 56 = .ok (.getfield 36, 3) := by decide +kernel
theorem dX1_placeInRow_59 : decode cX1_placeInRow 59 = .ok (.invokestatic 110, 3) := by decide +kernel
theorem dX1_placeInRow_62 : decode cX1_placeInRow 62 = .ok (.ifCond .eq 10, 3) := by decide +kernel
theorem dX1_placeInRow_65 : decode cX1_placeInRow 65 = .ok (.bipush 6, 2) := by decide +kernel
theorem dX1_placeInRow_67 : decode cX1_placeInRow 67 = .ok (.iload_n 3, 1) := by decide +kernel
theorem dX1_placeInRow_68 : decode cX1_placeInRow 68 = .ok (.isub, 1) := by decide +kernel
theorem dX1_placeInRow_69 : decode cX1_placeInRow 69 = .ok (.goto 7, 3) := by decide +kernel
theorem dX1_placeInRow_72 : decode cX1_placeInRow 72 = .ok (.aload_n 0, 1) := by decide +kernel
theorem dX1_placeInRow_73 : decode cX1_placeInRow 73 = .ok (.getfield 43, 3) := by decide +kernel
theorem dX1_placeInRow_76 : decode cX1_placeInRow 76 = .ok (.istore 5, 2) := by decide +kernel
theorem dX1_placeInRow_78 : decode cX1_placeInRow 78 = .ok (.aload_n 0, 1) := by decide +kernel
theorem dX1_placeInRow_79 : decode cX1_placeInRow 79 = .ok (.iload_n 1, 1) := by decide +kernel
theorem dX1_placeInRow_80 : decode cX1_placeInRow 80 = .ok (.aload_n 0, 1) := by decide +kernel
theorem dX1_placeInRow_81 : decode cX1_placeInRow 81 = .ok (.getfield 36, 3) := by decide +kernel
theorem dX1_placeInRow_84 : decode cX1_placeInRow 84 = .ok (.aload_n 0, 1) := by decide +kernel
theorem dX1_placeInRow_85 : decode cX1_placeInRow 85 = .ok (.getfield 40, 3) := by decide +kernel
theorem dX1_placeInRow_88 : decode cX1_placeInRow 88 = .ok (.iload 5, 2) := by decide +kernel
theorem dX1_placeInRow_90 : decode cX1_placeInRow 90 = .ok (.invokevirtual 70, 3) := by decide +kernel
theorem dX1_placeInRow_93 : decode cX1_placeInRow 93 = .ok (.aload_n 0, 1) := by decide +kernel
theorem dX1_placeInRow_94 : decode cX1_placeInRow 94 = .ok (.aload_n 0, 1) := by decide +kernel
theorem dX1_placeInRow_95 : decode cX1_placeInRow 95 = .ok (.getfield 36, 3) := by decide +kernel
theorem dX1_placeInRow_98 : decode cX1_placeInRow 98 = .ok (.iload_n 1, 1) := by decide +kernel
theorem dX1_placeInRow_99 : decode cX1_placeInRow 99 = .ok (.iload_n 3, 1) := by decide +kernel
theorem dX1_placeInRow_100 : decode cX1_placeInRow 100 = .ok (.iload 4, 2) := by decide +kernel
theorem dX1_placeInRow_102 : decode cX1_placeInRow 102 = .ok (.invokevirtual 113, 3) := by decide +kernel
theorem dX1_placeInRow_105 : decode cX1_placeInRow 105 = .ok (.iload_n 2, 1) := by decide +kernel
theorem dX1_placeInRow_106 : decode cX1_placeInRow 106 = .ok (.ifCond .eq 27, 3) := by decide +kernel
theorem dX1_placeInRow_109 : decode cX1_placeInRow 109 = .ok (.aload_n 0, 1) := by decide +kernel
theorem dX1_placeInRow_110 : decode cX1_placeInRow 110 = .ok (.getfield 33, 3) := by decide +kernel
theorem dX1_placeInRow_113 : decode cX1_placeInRow 113 = .ok (.aload_n 0, 1) := by decide +kernel
theorem dX1_placeInRow_114 : decode cX1_placeInRow 114 = .ok (.getfield 36, 3) := by decide +kernel
theorem dX1_placeInRow_117 : decode cX1_placeInRow 117 = .ok (.aload_n 0, 1) := by decide +kernel
theorem dX1_placeInRow_118 : decode cX1_placeInRow 118 = .ok (.getfield 33, 3) := by decide +kernel
theorem dX1_placeInRow_121 : decode cX1_placeInRow 121 = .ok (.aload_n 0, 1) := by decide +kernel
theorem dX1_placeInRow_122 : decode cX1_placeInRow 122 = .ok (.getfield 36, 3) := by decide +kernel
theorem dX1_placeInRow_125 : decode cX1_placeInRow 125 = .ok (.invokestatic 81, 3) := by decide +kernel
theorem dX1_placeInRow_128 : decode cX1_placeInRow 128 = .ok (.iconst 1, 1) := by decide +kernel
theorem dX1_placeInRow_129 : decode cX1_placeInRow 129 = .ok (.iadd, 1) := by decide +kernel
theorem dX1_placeInRow_130 : decode cX1_placeInRow 130 = .ok (.invokestatic 119, 3) := by decide +kernel
theorem dX1_placeInRow_133 : decode cX1_placeInRow 133 = .ok (.aload_n 0, 1) := by decide +kernel
theorem dX1_placeInRow_134 : decode cX1_placeInRow 134 = .ok (.iload 5, 2) := by decide +kernel
theorem dX1_placeInRow_136 : decode cX1_placeInRow 136 = .ok (.iload_n 3, 1) := by decide +kernel
theorem dX1_placeInRow_137 : decode cX1_placeInRow 137 = .ok (.iadd, 1) := by decide +kernel
theorem dX1_placeInRow_138 : decode cX1_placeInRow 138 = .ok (.putfield 43, 3) := by decide +kernel
theorem dX1_placeInRow_141 : decode cX1_placeInRow 141 = .ok (.iconst 1, 1) := by decide +kernel
theorem dX1_placeInRow_142 : decode cX1_placeInRow 142 = .ok (.ireturn, 1) := by decide +kernel
theorem dX1_beginRow_0 : decode cX1_beginRow 0 = .ok (.aload_n 0, 1) := by decide +kernel
theorem dX1_beginRow_1 : decode cX1_beginRow 1 = .ok (.iconst 0, 1) := by decide +kernel
theorem dX1_beginRow_2 : decode cX1_beginRow 2 = .ok (.putfield 43, 3) := by decide +kernel
theorem dX1_beginRow_5 : decode cX1_beginRow 5 = .ok (.aload_n 0, 1) := by decide +kernel
theorem dX1_beginRow_6 : decode cX1_beginRow 6 = .ok (.dup, 1) := by decide +kernel
theorem dX1_beginRow_7 : decode cX1_beginRow 7 = .ok (.getfield 40, 3) := by decide +kernel
theorem dX1_beginRow_10 : decode cX1_beginRow 10 = .ok (.iconst 1, 1) := by decide +kernel
theorem dX1_beginRow_11 : decode cX1_beginRow 11 = .ok (.iadd, 1) := by decide +kernel
theorem dX1_beginRow_12 : decode cX1_beginRow 12 = .ok (.putfield 40, 3) := by decide +kernel
theorem dX1_beginRow_15 : decode cX1_beginRow 15 = .ok (.aload_n 0, 1) := by decide +kernel
theorem dX1_beginRow_16 : decode cX1_beginRow 16 = .ok (.getfield 40, 3) := by decide +kernel
theorem dX1_beginRow_19 : decode cX1_beginRow 19 = .ok (.iconst 4, 1) := by decide +kernel
theorem dX1_beginRow_20 : decode cX1_beginRow 20 = .ok (.if_icmp .ne 18, 3) := by decide +kernel
theorem dX1_beginRow_23 : decode cX1_beginRow 23 = .ok (.aload_n 0, 1) := by decide +kernel
theorem dX1_beginRow_24 : decode cX1_beginRow 24 = .ok (.iconst 0, 1) := by decide +kernel
theorem dX1_beginRow_25 : decode cX1_beginRow 25 = .ok (.putfield 40, 3) := by decide +kernel
theorem dX1_beginRow_28 : decode cX1_beginRow 28 = .ok (.aload_n 0, 1) := by decide +kernel
theorem dX1_beginRow_29 : decode cX1_beginRow 29 = .ok (.dup, 1) := by decide +kernel
theorem dX1_beginRow_30 : decode cX1_beginRow 30 = .ok (.getfield 36, 3) := by decide +kernel
theorem dX1_beginRow_33 : decode cX1_beginRow 33 = .ok (.iconst 1, 1) := by decide +kernel
theorem dX1_beginRow_34 : decode cX1_beginRow 34 = .ok (.iadd, 1) := by decide +kernel
theorem dX1_beginRow_35 : decode cX1_beginRow 35 = .ok (.putfield 36, 3) := by decide +kernel
theorem dX1_beginRow_38 : decode cX1_beginRow 38 = .ok (.return_, 1) := by decide +kernel
theorem dX1_beginPage_0 : decode cX1_beginPage 0 = .ok (.aload_n 0, 1) := by decide +kernel
theorem dX1_beginPage_1 : decode cX1_beginPage 1 = .ok (.iload_n 1, 1) := by decide +kernel
theorem dX1_beginPage_2 : decode cX1_beginPage 2 = .ok (.putfield 36, 3) := by decide +kernel
theorem dX1_beginPage_5 : decode cX1_beginPage 5 = .ok (.aload_n 0, 1) := by decide +kernel
theorem dX1_beginPage_6 : decode cX1_beginPage 6 = .ok (.iconst 0, 1) := by decide +kernel
theorem dX1_beginPage_7 : decode cX1_beginPage 7 = .ok (.putfield 40, 3) := by decide +kernel
theorem dX1_beginPage_10 : decode cX1_beginPage 10 = .ok (.aload_n 0, 1) := by decide +kernel
theorem dX1_beginPage_11 : decode cX1_beginPage 11 = .ok (.iconst 0, 1) := by decide +kernel
theorem dX1_beginPage_12 : decode cX1_beginPage 12 = .ok (.putfield 43, 3) := by decide +kernel
theorem dX1_beginPage_15 : decode cX1_beginPage 15 = .ok (.return_, 1) := by decide +kernel
theorem dX1_note_0 : decode cX1_note 0 = .ok (.iload_n 1, 1) := by decide +kernel
theorem dX1_note_1 : decode cX1_note 1 = .ok (.ifCond .lt 9, 3) := by decide +kernel
theorem dX1_note_4 : decode cX1_note 4 = .ok (.iload_n 1, 1) := by decide +kernel
theorem dX1_note_5 : decode cX1_note 5 = .ok (.bipush 24, 2) := by decide +kernel
theorem dX1_note_7 : decode cX1_note 7 = .ok (.if_icmp .lt 4, 3) := by decide +kernel
theorem dX1_note_10 : decode cX1_note 10 = .ok (.return_, 1) := by decide +kernel
theorem dX1_note_11 : decode cX1_note 11 = .ok (.aload_n 0, 1) := by decide +kernel
theorem dX1_note_12 : decode cX1_note 12 = .ok (.getfield 9, 3) := by decide +kernel
theorem dX1_note_15 : decode cX1_note 15 = .ok (.iload_n 1, 1) := by decide +kernel
theorem dX1_note_16 : decode cX1_note 16 = .ok (.iload_n 2, 1) := by decide +kernel
theorem dX1_note_17 : decode cX1_note 17 = .ok (.iastore, 1) := by decide +kernel
theorem dX1_note_18 : decode cX1_note 18 = .ok (.aload_n 0, 1) := by decide +kernel
theorem dX1_note_19 : decode cX1_note 19 = .ok (.getfield 15, 3) := by decide +kernel
theorem dX1_note_22 : decode cX1_note 22 = .ok (.iload_n 1, 1) := by decide +kernel
theorem dX1_note_23 : decode cX1_note 23 = .ok (.iload_n 3, 1) := by decide +kernel
theorem dX1_note_24 : decode cX1_note 24 = .ok (.iastore, 1) := by decide +kernel
theorem dX1_note_25 : decode cX1_note 25 = .ok (.aload_n 0, 1) := by decide +kernel
theorem dX1_note_26 : decode cX1_note 26 = .ok (.getfield 18, 3) := by decide +kernel
theorem dX1_note_29 : decode cX1_note 29 = .ok (.iload_n 1, 1) := by decide +kernel
theorem dX1_note_30 : decode cX1_note 30 = .ok (.iload 4, 2) := by decide +kernel
theorem dX1_note_32 : decode cX1_note 32 = .ok (.iastore, 1) := by decide +kernel
theorem dX1_note_33 : decode cX1_note 33 = .ok (.return_, 1) := by decide +kernel
theorem dX1_bear_0 : decode cX1_bear 0 = .ok (.iload_n 1, 1) := by decide +kernel
theorem dX1_bear_1 : decode cX1_bear 1 = .ok (.ifCond .lt 9, 3) := by decide +kernel
theorem dX1_bear_4 : decode cX1_bear 4 = .ok (.iload_n 1, 1) := by decide +kernel
theorem dX1_bear_5 : decode cX1_bear 5 = .ok (.bipush 16, 2) := by decide +kernel
theorem dX1_bear_7 : decode cX1_bear 7 = .ok (.if_icmp .lt 4, 3) := by decide +kernel
theorem dX1_bear_10 : decode cX1_bear 10 = .ok (.return_, 1) := by decide +kernel
theorem dX1_bear_11 : decode cX1_bear 11 = .ok (.aload_n 0, 1) := by decide +kernel
theorem dX1_bear_12 : decode cX1_bear 12 = .ok (.getfield 21, 3) := by decide +kernel
theorem dX1_bear_15 : decode cX1_bear 15 = .ok (.iload_n 1, 1) := by decide +kernel
theorem dX1_bear_16 : decode cX1_bear 16 = .ok (.iaload, 1) := by decide +kernel
theorem dX1_bear_17 : decode cX1_bear 17 = .ok (.ifCond .ne 20, 3) := by decide +kernel
theorem dX1_bear_20 : decode cX1_bear 20 = .ok (.aload_n 0, 1) := by decide +kernel
theorem dX1_bear_21 : decode cX1_bear 21 = .ok (.getfield 30, 3) := by decide +kernel
theorem dX1_bear_24 : decode cX1_bear 24 = .ok (.iload_n 1, 1) := by decide +kernel
theorem dX1_bear_25 : decode cX1_bear 25 = .ok (.iload_n 2, 1) := by decide +kernel
theorem dX1_bear_26 : decode cX1_bear 26 = .ok (.iastore, 1) := by decide +kernel
theorem dX1_bear_27 : decode cX1_bear 27 = .ok (.aload_n 0, 1) := by decide +kernel
theorem dX1_bear_28 : decode cX1_bear 28 = .ok (.dup, 1) := by decide +kernel
theorem dX1_bear_29 : decode cX1_bear 29 = .ok (.getfield 49, 3) := by decide +kernel
theorem dX1_bear_32 : decode cX1_bear 32 = .ok (.iconst 1, 1) := by decide +kernel
theorem dX1_bear_33 : decode cX1_bear 33 = .ok (.iadd, 1) := by decide +kernel
theorem dX1_bear_34 : decode cX1_bear 34 = .ok (.putfield 49, 3) := by decide +kernel
theorem dX1_bear_37 : decode cX1_bear 37 = .ok (.aload_n 0, 1) := by decide +kernel
theorem dX1_bear_38 : decode cX1_bear 38 = .ok (.getfield 21, 3) := by decide +kernel
theorem dX1_bear_41 : decode cX1_bear 41 = .ok (.iload_n 1, 1) := by decide +kernel
theorem dX1_bear_42 : decode cX1_bear 42 = .ok (.dup2, 1) := by decide +kernel
theorem dX1_bear_43 : decode cX1_bear 43 = .ok (.iaload, 1) := by decide +kernel
theorem dX1_bear_44 : decode cX1_bear 44 = .ok (.iconst 1, 1) := by decide +kernel
theorem dX1_bear_45 : decode cX1_bear 45 = .ok (.iadd, 1) := by decide +kernel
theorem dX1_bear_46 : decode cX1_bear 46 = .ok (.iastore, 1) := by decide +kernel
theorem dX1_bear_47 : decode cX1_bear 47 = .ok (.aload_n 0, 1) := by decide +kernel
theorem dX1_bear_48 : decode cX1_bear 48 = .ok (.getfield 24, 3) := by decide +kernel
theorem dX1_bear_51 : decode cX1_bear 51 = .ok (.iload_n 1, 1) := by decide +kernel
theorem dX1_bear_52 : decode cX1_bear 52 = .ok (.dup2, 1) := by decide +kernel
theorem dX1_bear_53 : decode cX1_bear 53 = .ok (.iaload, 1) := by decide +kernel
theorem dX1_bear_54 : decode cX1_bear 54 = .ok (.iload 4, 2) := by decide +kernel
theorem dX1_bear_56 : decode cX1_bear 56 = .ok (.iadd, 1) := by decide +kernel
theorem dX1_bear_57 : decode cX1_bear 57 = .ok (.iastore, 1) := by decide +kernel
theorem dX1_bear_58 : decode cX1_bear 58 = .ok (.aload_n 0, 1) := by decide +kernel
theorem dX1_bear_59 : decode cX1_bear 59 = .ok (.getfield 27, 3) := by decide +kernel
theorem dX1_bear_62 : decode cX1_bear 62 = .ok (.iload_n 1, 1) := by decide +kernel
theorem dX1_bear_63 : decode cX1_bear 63 = .ok (.dup2, 1) := by decide +kernel
theorem dX1_bear_64 : decode cX1_bear 64 = .ok (.iaload, 1) := by decide +kernel
theorem dX1_bear_65 : decode cX1_bear 65 = .ok (.iload_n 3, 1) := by decide +kernel
theorem dX1_bear_66 : decode cX1_bear 66 = .ok (.iadd, 1) := by decide +kernel
theorem dX1_bear_67 : decode cX1_bear 67 = .ok (.iastore, 1) := by decide +kernel
theorem dX1_bear_68 : decode cX1_bear 68 = .ok (.aload_n 0, 1) := by decide +kernel
theorem dX1_bear_69 : decode cX1_bear 69 = .ok (.dup, 1) := by decide +kernel
theorem dX1_bear_70 : decode cX1_bear 70 = .ok (.getfield 52, 3) := by decide +kernel
theorem dX1_bear_73 : decode cX1_bear 73 = .ok (.iload_n 3, 1) := by decide +kernel
theorem dX1_bear_74 : decode cX1_bear 74 = .ok (.iadd, 1) := by decide +kernel
theorem dX1_bear_75 : decode cX1_bear 75 = .ok (.putfield 52, 3) := by decide +kernel
theorem dX1_bear_78 : decode cX1_bear 78 = .ok (.aload_n 0, 1) := by decide +kernel
theorem dX1_bear_79 : decode cX1_bear 79 = .ok (.iload_n 1, 1) := by decide +kernel
theorem dX1_bear_80 : decode cX1_bear 80 = .ok (.iconst 1, 1) := by decide +kernel
theorem dX1_bear_81 : decode cX1_bear 81 = .ok (.iadd, 1) := by decide +kernel
theorem dX1_bear_82 : decode cX1_bear 82 = .ok (.putfield 46, 3) := by decide +kernel
theorem dX1_bear_85 : decode cX1_bear 85 = .ok (.return_, 1) := by decide +kernel
theorem dX1_isBearing_0 : decode cX1_isBearing 0 = .ok (.iload_n 1, 1) := by decide +kernel
theorem dX1_isBearing_1 : decode cX1_isBearing 1 = .ok (.ifCond .lt 22, 3) := by decide +kernel
theorem dX1_isBearing_4 : decode cX1_isBearing 4 = .ok (.iload_n 1, 1) := by decide +kernel
theorem dX1_isBearing_5 : decode cX1_isBearing 5 = .ok (.bipush 16, 2) := by decide +kernel
theorem dX1_isBearing_7 : decode cX1_isBearing 7 = .ok (.if_icmp .ge 16, 3) := by decide +kernel
theorem dX1_isBearing_10 : decode cX1_isBearing 10 = .ok (.aload_n 0, 1) := by decide +kernel
theorem dX1_isBearing_11 : decode cX1_isBearing 11 = .ok (.getfield 21, 3) := by decide +kernel
theorem dX1_isBearing_14 : decode cX1_isBearing 14 = .ok (.iload_n 1, 1) := by decide +kernel
theorem dX1_isBearing_15 : decode cX1_isBearing 15 = .ok (.iaload, 1) := by decide +kernel
theorem dX1_isBearing_16 : decode cX1_isBearing 16 = .ok (.ifCond .le 7, 3) := by decide +kernel
theorem dX1_isBearing_19 : decode cX1_isBearing 19 = .ok (.iconst 1, 1) := by decide +kernel
theorem dX1_isBearing_20 : decode cX1_isBearing 20 = .ok (.goto 4, 3) := by decide +kernel
theorem dX1_isBearing_23 : decode cX1_isBearing 23 = .ok (.iconst 0, 1) := by decide +kernel
theorem dX1_isBearing_24 : decode cX1_isBearing 24 = .ok (.ireturn, 1) := by decide +kernel
theorem dX1_isOnLeft_0 : decode cX1_isOnLeft 0 = .ok (.iload_n 0, 1) := by decide +kernel
theorem dX1_isOnLeft_1 : decode cX1_isOnLeft 1 = .ok (.iconst 1, 1) := by decide +kernel
theorem dX1_isOnLeft_2 : decode cX1_isOnLeft 2 = .ok (.iand, 1) := by decide +kernel
theorem dX1_isOnLeft_3 : decode cX1_isOnLeft 3 = .ok (.iconst 1, 1) := by decide +kernel
theorem dX1_isOnLeft_4 : decode cX1_isOnLeft 4 = .ok (.if_icmp .ne 7, 3) := by decide +kernel
theorem dX1_isOnLeft_7 : decode cX1_isOnLeft 7 = .ok (.iconst 1, 1) := by decide +kernel
theorem dX1_isOnLeft_8 : decode cX1_isOnLeft 8 = .ok (.goto 4, 3) := by decide +kernel
theorem dX1_isOnLeft_11 : decode cX1_isOnLeft 11 = .ok (.iconst 0, 1) := by decide +kernel
theorem dX1_isOnLeft_12 : decode cX1_isOnLeft 12 = .ok (.ireturn, 1) := by decide +kernel
set_option maxRecDepth 20000 in
theorem ggX1_numberOfPage_X4_read : GoodIn wsX1_numberOfPage wsX4_read := goodIn_r _ [9] (by decide +kernel) (by decide +kernel)
set_option maxRecDepth 20000 in
theorem gX1_numberOfPage_X4_read_n81 : GoodIn wsX1_numberOfPage (wsX4_read) := ggX1_numberOfPage_X4_read
set_option maxRecDepth 20000 in
theorem ggX1_numberOfPage_X1_isBearing : GoodIn wsX1_numberOfPage wsX1_isBearing := goodIn_r _ [14, 1, 15, 16, 17, 18, 19, 20, 21, 22, 23, 24, 25, 26, 27, 28, 29] (by decide +kernel) (by decide +kernel)
set_option maxRecDepth 20000 in
theorem gX1_numberOfPage_X1_isBearing : GoodIn wsX1_numberOfPage (wsV RX1 106 RX1 yX1_isBearing wsX1_isBearing) := goodIn_app (goodIn_of _ (by decide +kernel)) ggX1_numberOfPage_X1_isBearing
theorem dX1_numberOfPage_0 : decode cX1_numberOfPage 0 = .ok (.iload_n 2, 1) := by decide +kernel
theorem dX1_numberOfPage_1 : decode cX1_numberOfPage 1 = .ok (.tableswitch 108 0 4 #[35, 44, 53, 65, 86], 35) := by decide +kernel
theorem dX1_numberOfPage_36 : decode cX1_numberOfPage 36 = .ok (.aload_n 0, 1) := by decide +kernel
theorem dX1_numberOfPage_37 : decode cX1_numberOfPage 37 = .ok (.getfield 21, 3) := by decide +kernel
theorem dX1_numberOfPage_40 : decode cX1_numberOfPage 40 = .ok (.iload_n 1, 1) := by decide +kernel
theorem dX1_numberOfPage_41 : decode cX1_numberOfPage 41 = .ok (.invokestatic 81, 3) := by decide +kernel
theorem dX1_numberOfPage_44 : decode cX1_numberOfPage 44 = .ok (.ireturn, 1) := by decide +kernel
theorem dX1_numberOfPage_45 : decode cX1_numberOfPage 45 = .ok (.aload_n 0, 1) := by decide +kernel
theorem dX1_numberOfPage_46 : decode cX1_numberOfPage 46 = .ok (.getfield 24, 3) := by decide +kernel
theorem dX1_numberOfPage_49 : decode cX1_numberOfPage 49 = .ok (.iload_n 1, 1) := by decide +kernel
theorem dX1_numberOfPage_50 : decode cX1_numberOfPage 50 = .ok (.invokestatic 81, 3) := by decide +kernel
theorem dX1_numberOfPage_53 : decode cX1_numberOfPage 53 = .ok (.ireturn, 1) := by decide +kernel
theorem dX1_numberOfPage_54 : decode cX1_numberOfPage 54 = .ok (.bipush 24, 2) := by decide +kernel
theorem dX1_numberOfPage_56 : decode cX1_numberOfPage 56 = .ok (.aload_n 0, 1) := by decide +kernel
theorem dX1_numberOfPage_57 : decode cX1_numberOfPage 57 = .ok (.getfield 27, 3) := by decide +kernel
theorem dX1_numberOfPage_60 : decode cX1_numberOfPage 60 = .ok (.iload_n 1, 1) := by decide +kernel
theorem dX1_numberOfPage_61 : decode cX1_numberOfPage 61 = .ok (.invokestatic 81, 3) := by decide +kernel
theorem dX1_numberOfPage_64 : decode cX1_numberOfPage 64 = .ok (.isub, 1) := by decide +kernel
theorem dX1_numberOfPage_65 : decode cX1_numberOfPage 65 = .ok (.ireturn, 1) := by decide +kernel
theorem dX1_numberOfPage_66 : decode cX1_numberOfPage 66 = .ok (.aload_n 0, 1) := by decide +kernel
theorem dX1_numberOfPage_67 : decode cX1_numberOfPage 67 = .ok (.iload_n 1, 1) := by decide +kernel
theorem dX1_numberOfPage_68 : decode cX1_numberOfPage 68 = .ok (.invokevirtual 106, 3) := by decide +kernel
theorem dX1_numberOfPage_71 : decode cX1_numberOfPage 71 = .ok (.ifCond .eq 14, 3) := by decide +kernel
theorem dX1_numberOfPage_74 : decode cX1_numberOfPage 74 = .ok (.aload_n 0, 1) := by decide +kernel
theorem dX1_numberOfPage_75 : decode cX1_numberOfPage 75 = .ok (.getfield 30, 3) := by decide +kernel
theorem dX1_numberOfPage_78 : decode cX1_numberOfPage 78 = .ok (.iload_n 1, 1) := by decide +kernel
theorem dX1_numberOfPage_79 : decode cX1_numberOfPage 79 = .ok (.invokestatic 81, 3) := by decide +kernel
theorem dX1_numberOfPage_82 : decode cX1_numberOfPage 82 = .ok (.goto 4, 3) := by decide +kernel
theorem dX1_numberOfPage_85 : decode cX1_numberOfPage 85 = .ok (.iconst (-1), 1) := by decide +kernel
theorem dX1_numberOfPage_86 : decode cX1_numberOfPage 86 = .ok (.ireturn, 1) := by decide +kernel
theorem dX1_numberOfPage_87 : decode cX1_numberOfPage 87 = .ok (.iload_n 1, 1) := by decide +kernel
theorem dX1_numberOfPage_88 : decode cX1_numberOfPage 88 = .ok (.aload_n 0, 1) := by decide +kernel
theorem dX1_numberOfPage_89 : decode cX1_numberOfPage 89 = .ok (.getfield 46, 3) := by decide +kernel
theorem dX1_numberOfPage_92 : decode cX1_numberOfPage 92 = .ok (.if_icmp .ge 15, 3) := by decide +kernel
theorem dX1_numberOfPage_95 : decode cX1_numberOfPage 95 = .ok (.aload_n 0, 1) := by decide +kernel
theorem dX1_numberOfPage_96 : decode cX1_numberOfPage 96 = .ok (.iload_n 1, 1) := by decide +kernel
theorem dX1_numberOfPage_97 : decode cX1_numberOfPage 97 = .ok (.invokevirtual 106, 3) := by decide +kernel
theorem dX1_numberOfPage_100 : decode cX1_numberOfPage 100 = .ok (.ifCond .ne 7, 3) := by decide +kernel
theorem dX1_numberOfPage_103 : decode cX1_numberOfPage 103 = .ok (.iconst 1, 1) := by decide +kernel
theorem dX1_numberOfPage_104 : decode cX1_numberOfPage 104 = .ok (.goto 4, 3) := by decide +kernel
theorem dX1_numberOfPage_107 : decode cX1_numberOfPage 107 = .ok (.iconst 0, 1) := by decide +kernel
theorem dX1_numberOfPage_108 : decode cX1_numberOfPage 108 = .ok (.ireturn, 1) := by decide +kernel
theorem dX1_numberOfPage_109 : decode cX1_numberOfPage 109 = .ok (.aload_n 0, 1) := by decide +kernel
theorem dX1_numberOfPage_110 : decode cX1_numberOfPage 110 = .ok (.getfield 33, 3) := by decide +kernel
theorem dX1_numberOfPage_113 : decode cX1_numberOfPage 113 = .ok (.iload_n 1, 1) := by decide +kernel
theorem dX1_numberOfPage_114 : decode cX1_numberOfPage 114 = .ok (.invokestatic 81, 3) := by decide +kernel
theorem dX1_numberOfPage_117 : decode cX1_numberOfPage 117 = .ok (.ireturn, 1) := by decide +kernel
theorem dX1_emptyUnits_0 : decode cX1_emptyUnits 0 = .ok (.aload_n 0, 1) := by decide +kernel
theorem dX1_emptyUnits_1 : decode cX1_emptyUnits 1 = .ok (.getfield 49, 3) := by decide +kernel
theorem dX1_emptyUnits_4 : decode cX1_emptyUnits 4 = .ok (.bipush 24, 2) := by decide +kernel
theorem dX1_emptyUnits_6 : decode cX1_emptyUnits 6 = .ok (.imul, 1) := by decide +kernel
theorem dX1_emptyUnits_7 : decode cX1_emptyUnits 7 = .ok (.aload_n 0, 1) := by decide +kernel
theorem dX1_emptyUnits_8 : decode cX1_emptyUnits 8 = .ok (.getfield 52, 3) := by decide +kernel
theorem dX1_emptyUnits_11 : decode cX1_emptyUnits 11 = .ok (.isub, 1) := by decide +kernel
theorem dX1_emptyUnits_12 : decode cX1_emptyUnits 12 = .ok (.ireturn, 1) := by decide +kernel
theorem dX1_greatestBeats_0 : decode cX1_greatestBeats 0 = .ok (.iconst 0, 1) := by decide +kernel
theorem dX1_greatestBeats_1 : decode cX1_greatestBeats 1 = .ok (.istore_n 1, 1) := by decide +kernel
theorem dX1_greatestBeats_2 : decode cX1_greatestBeats 2 = .ok (.iconst 0, 1) := by decide +kernel
theorem dX1_greatestBeats_3 : decode cX1_greatestBeats 3 = .ok (.istore_n 2, 1) := by decide +kernel
theorem dX1_greatestBeats_4 : decode cX1_greatestBeats 4 = .ok (.iload_n 2, 1) := by decide +kernel
theorem dX1_greatestBeats_5 : decode cX1_greatestBeats 5 = .ok (.bipush 16, 2) := by decide +kernel
theorem dX1_greatestBeats_7 : decode cX1_greatestBeats 7 = .ok (.if_icmp .ge 20, 3) := by decide +kernel
theorem dX1_greatestBeats_10 : decode cX1_greatestBeats 10 = .ok (.iload_n 1, 1) := by decide +kernel
theorem dX1_greatestBeats_11 : decode cX1_greatestBeats 11 = .ok (.aload_n 0, 1) := by decide +kernel
theorem dX1_greatestBeats_12 : decode cX1_greatestBeats 12 = .ok (.getfield 24, 3) := by decide +kernel
theorem dX1_greatestBeats_15 : decode cX1_greatestBeats 15 = .ok (.iload_n 2, 1) := by decide +kernel
theorem dX1_greatestBeats_16 : decode cX1_greatestBeats 16 = .ok (.iaload, 1) := by decide +kernel
theorem dX1_greatestBeats_17 : decode cX1_greatestBeats 17 = .ok (.invokestatic 123, 3) := by decide +kernel
theorem dX1_greatestBeats_20 : decode cX1_greatestBeats 20 = .ok (.istore_n 1, 1) := by decide +kernel
theorem dX1_greatestBeats_21 : decode cX1_greatestBeats 21 = .ok (.iinc 2 1, 3) := by decide +kernel
theorem dX1_greatestBeats_24 : decode cX1_greatestBeats 24 = .ok (.goto (-20), 3) := by decide +kernel
theorem dX1_greatestBeats_27 : decode cX1_greatestBeats 27 = .ok (.iload_n 1, 1) := by decide +kernel
theorem dX1_greatestBeats_28 : decode cX1_greatestBeats 28 = .ok (.ireturn, 1) := by decide +kernel
theorem dX1_greatestDifference_0 : decode cX1_greatestDifference 0 = .ok (.iconst 0, 1) := by decide +kernel
theorem dX1_greatestDifference_1 : decode cX1_greatestDifference 1 = .ok (.istore_n 1, 1) := by decide +kernel
theorem dX1_greatestDifference_2 : decode cX1_greatestDifference 2 = .ok (.iconst 0, 1) := by decide +kernel
theorem dX1_greatestDifference_3 : decode cX1_greatestDifference 3 = .ok (.istore_n 2, 1) := by decide +kernel
theorem dX1_greatestDifference_4 : decode cX1_greatestDifference 4 = .ok (.iload_n 2, 1) := by decide +kernel
theorem dX1_greatestDifference_5 : decode cX1_greatestDifference 5 = .ok (.iconst 1, 1) := by decide +kernel
theorem dX1_greatestDifference_6 : decode cX1_greatestDifference 6 = .ok (.iadd, 1) := by decide +kernel
theorem dX1_greatestDifference_7 : decode cX1_greatestDifference 7 = .ok (.bipush 16, 2) := by decide +kernel
theorem dX1_greatestDifference_9 : decode cX1_greatestDifference 9 = .ok (.if_icmp .ge 32, 3) := by decide +kernel
theorem dX1_greatestDifference_12 : decode cX1_greatestDifference 12 = .ok (.iload_n 1, 1) := by decide +kernel
theorem dX1_greatestDifference_13 : decode cX1_greatestDifference 13 = .ok (.aload_n 0, 1) := by decide +kernel
theorem dX1_greatestDifference_14 : decode cX1_greatestDifference 14 = .ok (.getfield 24, 3) := by decide +kernel
theorem dX1_greatestDifference_17 : decode cX1_greatestDifference 17 = .ok (.iload_n 2, 1) := by decide +kernel
theorem dX1_greatestDifference_18 : decode cX1_greatestDifference 18 = .ok (.iaload, 1) := by decide +kernel
theorem dX1_greatestDifference_19 : decode cX1_greatestDifference 19 = .ok (.aload_n 0, 1) := by decide +kernel
theorem dX1_greatestDifference_20 : decode cX1_greatestDifference 20 = .ok (.getfield 24, 3) := by decide +kernel
theorem dX1_greatestDifference_23 : decode cX1_greatestDifference 23 = .ok (.iload_n 2, 1) := by decide +kernel
theorem dX1_greatestDifference_24 : decode cX1_greatestDifference 24 = .ok (.iconst 1, 1) := by decide +kernel
theorem dX1_greatestDifference_25 : decode cX1_greatestDifference 25 = .ok (.iadd, 1) := by decide +kernel
theorem dX1_greatestDifference_26 : decode cX1_greatestDifference 26 = .ok (.iaload, 1) := by decide +kernel
theorem dX1_greatestDifference_27 : decode cX1_greatestDifference 27 = .ok (.isub, 1) := by decide +kernel
theorem dX1_greatestDifference_28 : decode cX1_greatestDifference 28 = .ok (.invokestatic 129, 3) := by decide +kernel
theorem dX1_greatestDifference_31 : decode cX1_greatestDifference 31 = .ok (.invokestatic 123, 3) := by decide +kernel
theorem dX1_greatestDifference_34 : decode cX1_greatestDifference 34 = .ok (.istore_n 1, 1) := by decide +kernel
theorem dX1_greatestDifference_35 : decode cX1_greatestDifference 35 = .ok (.iinc 2 2, 3) := by decide +kernel
theorem dX1_greatestDifference_38 : decode cX1_greatestDifference 38 = .ok (.goto (-34), 3) := by decide +kernel
theorem dX1_greatestDifference_41 : decode cX1_greatestDifference 41 = .ok (.iload_n 1, 1) := by decide +kernel
theorem dX1_greatestDifference_42 : decode cX1_greatestDifference 42 = .ok (.ireturn, 1) := by decide +kernel
set_option maxRecDepth 20000 in
theorem ggX1_cost_X1_emptyUnits : GoodIn wsX1_cost wsX1_emptyUnits := goodIn_r _ [7, 8, 9, 10, 11, 12, 13, 14, 15, 16, 17, 18, 19, 20, 21, 22, 23, 24] (by decide +kernel) (by decide +kernel)
set_option maxRecDepth 20000 in
theorem gX1_cost_X1_emptyUnits : GoodIn wsX1_cost (wsV RX1 133 RX1 yX1_emptyUnits wsX1_emptyUnits) := goodIn_app (goodIn_of _ (by decide +kernel)) ggX1_cost_X1_emptyUnits
theorem dX1_cost_0 : decode cX1_cost 0 = .ok (.aload_n 0, 1) := by decide +kernel
theorem dX1_cost_1 : decode cX1_cost 1 = .ok (.getfield 55, 3) := by decide +kernel
theorem dX1_cost_4 : decode cX1_cost 4 = .ok (.bipush 17, 2) := by decide +kernel
theorem dX1_cost_6 : decode cX1_cost 6 = .ok (.imul, 1) := by decide +kernel
theorem dX1_cost_7 : decode cX1_cost 7 = .ok (.aload_n 0, 1) := by decide +kernel
theorem dX1_cost_8 : decode cX1_cost 8 = .ok (.getfield 46, 3) := by decide +kernel
theorem dX1_cost_11 : decode cX1_cost 11 = .ok (.iadd, 1) := by decide +kernel
theorem dX1_cost_12 : decode cX1_cost 12 = .ok (.sipush 385, 3) := by decide +kernel
theorem dX1_cost_15 : decode cX1_cost 15 = .ok (.imul, 1) := by decide +kernel
theorem dX1_cost_16 : decode cX1_cost 16 = .ok (.aload_n 0, 1) := by decide +kernel
theorem dX1_cost_17 : decode cX1_cost 17 = .ok (.invokevirtual 133, 3) := by decide +kernel
theorem dX1_cost_20 : decode cX1_cost 20 = .ok (.iadd, 1) := by decide +kernel
theorem dX1_cost_21 : decode cX1_cost 21 = .ok (.ireturn, 1) := by decide +kernel

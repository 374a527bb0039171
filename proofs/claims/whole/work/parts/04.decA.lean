set_option maxRecDepth 20000 in
theorem ggX0_init_X2_init : GoodIn wsX0_init wsX2_init := goodIn_r _ [10, 11, 2, 3, 12, 13, 14, 15, 16, 17, 20, 21, 22, 23, 24] (by decide +kernel) (by decide +kernel)
set_option maxRecDepth 20000 in
theorem gX0_init_X2_init_n21 : GoodIn wsX0_init (wsX2_init) := ggX0_init_X2_init
theorem dX0_init_0 : decode cX0_init 0 = .ok (.aload_n 0, 1) := by decide +kernel
theorem dX0_init_1 : decode cX0_init 1 = .ok (.invokespecial 3, 3) := by decide +kernel
theorem dX0_init_4 : decode cX0_init 4 = .ok (.aload_n 0, 1) := by decide +kernel
theorem dX0_init_5 : decode cX0_init 5 = .ok (.bipush 6, 2) := by decide +kernel
theorem dX0_init_7 : decode cX0_init 7 = .ok (.anewarray 9, 3) := by decide +kernel
theorem dX0_init_10 : decode cX0_init 10 = .ok (.putfield 11, 3) := by decide +kernel
theorem dX0_init_13 : decode cX0_init 13 = .ok (.aload_n 0, 1) := by decide +kernel
theorem dX0_init_14 : decode cX0_init 14 = .ok (.iconst 0, 1) := by decide +kernel
theorem dX0_init_15 : decode cX0_init 15 = .ok (.putfield 17, 3) := by decide +kernel
theorem dX0_init_18 : decode cX0_init 18 = .ok (.iconst 0, 1) := by decide +kernel
theorem dX0_init_19 : decode cX0_init 19 = .ok (.istore_n 1, 1) := by decide +kernel
theorem dX0_init_20 : decode cX0_init 20 = .ok (.iload_n 1, 1) := by decide +kernel
theorem dX0_init_21 : decode cX0_init 21 = .ok (.bipush 6, 2) := by decide +kernel
theorem dX0_init_23 : decode cX0_init 23 = .ok (.if_icmp .ge 22, 3) := by decide +kernel
theorem dX0_init_26 : decode cX0_init 26 = .ok (.aload_n 0, 1) := by decide +kernel
theorem dX0_init_27 : decode cX0_init 27 = .ok (.getfield 11, 3) := by decide +kernel
theorem dX0_init_30 : decode cX0_init 30 = .ok (.iload_n 1, 1) := by decide +kernel
theorem dX0_init_31 : decode cX0_init 31 = .ok (.new 9, 3) := by decide +kernel
theorem dX0_init_34 : decode cX0_init 34 = .ok (.dup, 1) := by decide +kernel
theorem dX0_init_35 : decode cX0_init 35 = .ok (.invokespecial 21, 3) := by decide +kernel
theorem dX0_init_38 : decode cX0_init 38 = .ok (.aastore, 1) := by decide +kernel
theorem dX0_init_39 : decode cX0_init 39 = .ok (.iinc 1 1, 3) := by decide +kernel
theorem dX0_init_42 : decode cX0_init 42 = .ok (.goto (-22), 3) := by decide +kernel
theorem dX0_init_45 : decode cX0_init 45 = .ok (.return_, 1) := by decide +kernel
set_option maxRecDepth 20000 in
theorem ggX0_save_X0_dropOldest : GoodIn wsX0_save wsX0_dropOldest := goodIn_r _ [6, 7, 1, 25, 26] (by decide +kernel) (by decide +kernel)
set_option maxRecDepth 20000 in
theorem gX0_save_X0_dropOldest : GoodIn wsX0_save (wsV RX0 22 RX0 yX0_dropOldest wsX0_dropOldest) := goodIn_app (goodIn_of _ (by decide +kernel)) ggX0_save_X0_dropOldest
set_option maxRecDepth 20000 in
theorem ggX0_save_X0_storyAt : GoodIn wsX0_save wsX0_storyAt := goodIn_r _ [11, 7, 25, 26] (by decide +kernel) (by decide +kernel)
set_option maxRecDepth 20000 in
theorem gX0_save_X0_storyAt : GoodIn wsX0_save (wsV RX0 25 RX0 yX0_storyAt wsX0_storyAt) := goodIn_app (goodIn_of _ (by decide +kernel)) ggX0_save_X0_storyAt
set_option maxRecDepth 20000 in
theorem ggX0_save_X2_copyFrom : GoodIn wsX0_save wsX2_copyFrom := goodIn_r _ [15, 16, 17, 18, 19, 20, 21, 22, 23, 24, 27, 28, 29, 30, 31] (by decide +kernel) (by decide +kernel)
set_option maxRecDepth 20000 in
theorem gX0_save_X2_copyFrom_n29 : GoodIn wsX0_save (wsX2_copyFrom) := ggX0_save_X2_copyFrom
theorem dX0_save_0 : decode cX0_save 0 = .ok (.aload_n 0, 1) := by decide +kernel
theorem dX0_save_1 : decode cX0_save 1 = .ok (.getfield 17, 3) := by decide +kernel
theorem dX0_save_4 : decode cX0_save 4 = .ok (.bipush 6, 2) := by decide +kernel
theorem dX0_save_6 : decode cX0_save 6 = .ok (.if_icmp .lt 7, 3) := by decide +kernel
theorem dX0_save_9 : decode cX0_save 9 = .ok (.aload_n 0, 1) := by decide +kernel
theorem dX0_save_10 : decode cX0_save 10 = .ok (.invokevirtual 22, 3) := by decide +kernel
theorem dX0_save_13 : decode cX0_save 13 = .ok (.aload_n 0, 1) := by decide +kernel
theorem dX0_save_14 : decode cX0_save 14 = .ok (.aload_n 0, 1) := by decide +kernel
theorem dX0_save_15 : decode cX0_save 15 = .ok (.getfield 17, 3) := by decide +kernel
theorem dX0_save_18 : decode cX0_save 18 = .ok (.invokevirtual 25, 3) := by decide +kernel
theorem dX0_save_21 : decode cX0_save 21 = .ok (.astore_n 2, 1) := by decide +kernel
theorem dX0_save_22 : decode cX0_save 22 = .ok (.aload_n 2, 1) := by decide +kernel
theorem dX0_save_23 : decode cX0_save 23 = .ok (.ifnull 18, 3) := by decide +kernel
theorem dX0_save_26 : decode cX0_save 26 = .ok (.aload_n 2, 1) := by decide +kernel
theorem dX0_save_27 : decode cX0_save 27 = .ok (.aload_n 1, 1) := by decide +kernel
theorem dX0_save_28 : decode cX0_save 28 = .ok (.invokevirtual 29, 3) := by decide +kernel
theorem dX0_save_31 : decode cX0_save 31 = .ok (.aload_n 0, 1) := by decide +kernel
theorem dX0_save_32 : decode cX0_save 32 = .ok (.dup, 1) := by decide +kernel
theorem dX0_save_33 : decode cX0_save 33 = .ok (.getfield 17, 3) := by decide +kernel
theorem dX0_save_36 : decode cX0_save 36 = .ok (.iconst 1, 1) := by decide +kernel
theorem dX0_save_37 : decode cX0_save 37 = .ok (.iadd, 1) := by decide +kernel
theorem dX0_save_38 : decode cX0_save 38 = .ok (.putfield 17, 3) := by decide +kernel
theorem dX0_save_41 : decode cX0_save 41 = .ok (.return_, 1) := by decide +kernel
set_option maxRecDepth 20000 in
theorem ggX0_restoreLatest_X0_storyAt : GoodIn wsX0_restoreLatest wsX0_storyAt := goodIn_r _ [6, 7, 21, 22] (by decide +kernel) (by decide +kernel)
set_option maxRecDepth 20000 in
theorem gX0_restoreLatest_X0_storyAt : GoodIn wsX0_restoreLatest (wsV RX0 25 RX0 yX0_storyAt wsX0_storyAt) := goodIn_app (goodIn_of _ (by decide +kernel)) ggX0_restoreLatest_X0_storyAt
set_option maxRecDepth 20000 in
theorem ggX0_restoreLatest_X2_copyFrom : GoodIn wsX0_restoreLatest wsX2_copyFrom := goodIn_r _ [11, 12, 13, 14, 15, 16, 17, 18, 19, 20, 23, 24, 25, 26, 27] (by decide +kernel) (by decide +kernel)
set_option maxRecDepth 20000 in
theorem gX0_restoreLatest_X2_copyFrom_n29 : GoodIn wsX0_restoreLatest (wsX2_copyFrom) := ggX0_restoreLatest_X2_copyFrom
theorem dX0_restoreLatest_0 : decode cX0_restoreLatest 0 = .ok (.aload_n 0, 1) := by decide +kernel
theorem dX0_restoreLatest_1 : decode cX0_restoreLatest 1 = .ok (.aload_n 0, 1) := by decide +kernel
theorem dX0_restoreLatest_2 : decode cX0_restoreLatest 2 = .ok (.getfield 17, 3) := by decide +kernel
theorem dX0_restoreLatest_5 : decode cX0_restoreLatest 5 = .ok (.iconst 1, 1) := by decide +kernel
theorem dX0_restoreLatest_6 : decode cX0_restoreLatest 6 = .ok (.isub, 1) := by decide +kernel
theorem dX0_restoreLatest_7 : decode cX0_restoreLatest 7 = .ok (.invokevirtual 25, 3) := by decide +kernel
theorem dX0_restoreLatest_10 : decode cX0_restoreLatest 10 = .ok (.astore_n 2, 1) := by decide +kernel
theorem dX0_restoreLatest_11 : decode cX0_restoreLatest 11 = .ok (.aload_n 2, 1) := by decide +kernel
theorem dX0_restoreLatest_12 : decode cX0_restoreLatest 12 = .ok (.ifnull 18, 3) := by decide +kernel
theorem dX0_restoreLatest_15 : decode cX0_restoreLatest 15 = .ok (.aload_n 1, 1) := by decide +kernel
theorem dX0_restoreLatest_16 : decode cX0_restoreLatest 16 = .ok (.aload_n 2, 1) := by decide +kernel
theorem dX0_restoreLatest_17 : decode cX0_restoreLatest 17 = .ok (.invokevirtual 29, 3) := by decide +kernel
theorem dX0_restoreLatest_20 : decode cX0_restoreLatest 20 = .ok (.aload_n 0, 1) := by decide +kernel
theorem dX0_restoreLatest_21 : decode cX0_restoreLatest 21 = .ok (.dup, 1) := by decide +kernel
theorem dX0_restoreLatest_22 : decode cX0_restoreLatest 22 = .ok (.getfield 17, 3) := by decide +kernel
theorem dX0_restoreLatest_25 : decode cX0_restoreLatest 25 = .ok (.iconst 1, 1) := by decide +kernel
theorem dX0_restoreLatest_26 : decode cX0_restoreLatest 26 = .ok (.isub, 1) := by decide +kernel
theorem dX0_restoreLatest_27 : decode cX0_restoreLatest 27 = .ok (.putfield 17, 3) := by decide +kernel
theorem dX0_restoreLatest_30 : decode cX0_restoreLatest 30 = .ok (.return_, 1) := by decide +kernel
theorem dX0_storyAt_0 : decode cX0_storyAt 0 = .ok (.iload_n 1, 1) := by decide +kernel
theorem dX0_storyAt_1 : decode cX0_storyAt 1 = .ok (.ifCond .lt 18, 3) := by decide +kernel
theorem dX0_storyAt_4 : decode cX0_storyAt 4 = .ok (.iload_n 1, 1) := by decide +kernel
theorem dX0_storyAt_5 : decode cX0_storyAt 5 = .ok (.bipush 6, 2) := by decide +kernel
theorem dX0_storyAt_7 : decode cX0_storyAt 7 = .ok (.if_icmp .ge 12, 3) := by decide +kernel
theorem dX0_storyAt_10 : decode cX0_storyAt 10 = .ok (.aload_n 0, 1) := by decide +kernel
theorem dX0_storyAt_11 : decode cX0_storyAt 11 = .ok (.getfield 11, 3) := by decide +kernel
theorem dX0_storyAt_14 : decode cX0_storyAt 14 = .ok (.iload_n 1, 1) := by decide +kernel
theorem dX0_storyAt_15 : decode cX0_storyAt 15 = .ok (.aaload, 1) := by decide +kernel
theorem dX0_storyAt_16 : decode cX0_storyAt 16 = .ok (.goto 4, 3) := by decide +kernel
theorem dX0_storyAt_19 : decode cX0_storyAt 19 = .ok (.aconst_null, 1) := by decide +kernel
theorem dX0_storyAt_20 : decode cX0_storyAt 20 = .ok (.areturn, 1) := by decide +kernel
theorem dX0_dropOldest_0 : decode cX0_dropOldest 0 = .ok (.aload_n 0, 1) := by decide +kernel
theorem dX0_dropOldest_1 : decode cX0_dropOldest 1 = .ok (.getfield 11, 3) := by decide +kernel
theorem dX0_dropOldest_4 : decode cX0_dropOldest 4 = .ok (.iconst 0, 1) := by decide +kernel
theorem dX0_dropOldest_5 : decode cX0_dropOldest 5 = .ok (.aaload, 1) := by decide +kernel
theorem dX0_dropOldest_6 : decode cX0_dropOldest 6 = .ok (.astore_n 1, 1) := by decide +kernel
theorem dX0_dropOldest_7 : decode cX0_dropOldest 7 = .ok (.iconst 0, 1) := by decide +kernel
theorem dX0_dropOldest_8 : decode cX0_dropOldest 8 = .ok (.istore_n 2, 1) := by decide +kernel
theorem dX0_dropOldest_9 : decode cX0_dropOldest 9 = .ok (.iload_n 2, 1) := by decide +kernel
theorem dX0_dropOldest_10 : decode cX0_dropOldest 10 = .ok (.iconst 5, 1) := by decide +kernel
theorem dX0_dropOldest_11 : decode cX0_dropOldest 11 = .ok (.if_icmp .ge 23, 3) := by decide +kernel
theorem dX0_dropOldest_14 : decode cX0_dropOldest 14 = .ok (.aload_n 0, 1) := by decide +kernel
theorem dX0_dropOldest_15 : decode cX0_dropOldest 15 = .ok (.getfield 11, 3) := by decide +kernel
theorem dX0_dropOldest_18 : decode cX0_dropOldest 18 = .ok (.iload_n 2, 1) := by decide +kernel
theorem dX0_dropOldest_19 : decode cX0_dropOldest 19 = .ok (.aload_n 0, 1) := by decide +kernel
theorem dX0_dropOldest_20 : decode cX0_dropOldest 20 = .ok (.getfield 11, 3) := by decide +kernel
theorem dX0_dropOldest_23 : decode cX0_dropOldest 23 = .ok (.iload_n 2, 1) := by decide +kernel
theorem dX0_dropOldest_24 : decode cX0_dropOldest 24 = .ok (.iconst 1, 1) := by decide +kernel
theorem dX0_dropOldest_25 : decode cX0_dropOldest 25 = .ok (.iadd, 1) := by decide +kernel
theorem dX0_dropOldest_26 : decode cX0_dropOldest 26 = .ok (.aaload, 1) := by decide +kernel
theorem dX0_dropOldest_27 : decode cX0_dropOldest 27 = .ok (.aastore, 1) := by decide +kernel
theorem dX0_dropOldest_28 : decode cX0_dropOldest 28 = .ok (.iinc 2 1, 3) := by decide +kernel
theorem dX0_dropOldest_31 : decode cX0_dropOldest 31 = .ok (.goto (-22), 3) := by decide +kernel
theorem dX0_dropOldest_34 : decode cX0_dropOldest 34 = .ok (.aload_n 0, 1) := by decide +kernel
theorem dX0_dropOldest_35 : decode cX0_dropOldest 35 = .ok (.getfield 11, 3) := by decide +kernel
theorem dX0_dropOldest_38 : decode cX0_dropOldest 38 = .ok (.iconst 5, 1) := by decide +kernel
theorem dX0_dropOldest_39 : decode cX0_dropOldest 39 = .ok (.aload_n 1, 1) := by decide +kernel
theorem dX0_dropOldest_40 : decode cX0_dropOldest 40 = .ok (.aastore, 1) := by decide +kernel
theorem dX0_dropOldest_41 : decode cX0_dropOldest 41 = .ok (.aload_n 0, 1) := by decide +kernel
theorem dX0_dropOldest_42 : decode cX0_dropOldest 42 = .ok (.iconst 5, 1) := by decide +kernel
theorem dX0_dropOldest_43 : decode cX0_dropOldest 43 = .ok (.putfield 17, 3) := by decide +kernel
theorem dX0_dropOldest_46 : decode cX0_dropOldest 46 = .ok (.return_, 1) := by decide +kernel
theorem dX1_init_0 : decode cX1_init 0 = .ok (.aload_n 0, 1) := by decide +kernel
theorem dX1_init_1 : decode cX1_init 1 = .ok (.invokespecial 3, 3) := by decide +kernel
theorem dX1_init_4 : decode cX1_init 4 = .ok (.aload_n 0, 1) := by decide +kernel
theorem dX1_init_5 : decode cX1_init 5 = .ok (.bipush 24, 2) := by decide +kernel
theorem dX1_init_7 : decode cX1_init 7 = .ok (.newarray .int, 2) := by decide +kernel
theorem dX1_init_9 : decode cX1_init 9 = .ok (.putfield 9, 3) := by decide +kernel
theorem dX1_init_12 : decode cX1_init 12 = .ok (.aload_n 0, 1) := by decide +kernel
theorem dX1_init_13 : decode cX1_init 13 = .ok (.bipush 24, 2) := by decide +kernel
theorem dX1_init_15 : decode cX1_init 15 = .ok (.newarray .int, 2) := by decide +kernel
theorem dX1_init_17 : decode cX1_init 17 = .ok (.putfield 15, 3) := by decide +kernel
theorem dX1_init_20 : decode cX1_init 20 = .ok (.aload_n 0, 1) := by decide +kernel
theorem dX1_init_21 : decode cX1_init 21 = .ok (.bipush 24, 2) := by decide +kernel
theorem dX1_init_23 : decode cX1_init 23 = .ok (.newarray .int, 2) := by decide +kernel
theorem dX1_init_25 : decode cX1_init 25 = .ok (.putfield 18, 3) := by decide +kernel
theorem dX1_init_28 : decode cX1_init 28 = .ok (.aload_n 0, 1) := by decide +kernel
theorem dX1_init_29 : decode cX1_init 29 = .ok (.bipush 16, 2) := by decide +kernel
theorem dX1_init_31 : decode cX1_init 31 = .ok (.newarray .int, 2) := by decide +kernel
theorem dX1_init_33 : decode cX1_init 33 = .ok (.putfield 21, 3) := by decide +kernel
theorem dX1_init_36 : decode cX1_init 36 = .ok (.aload_n 0, 1) := by decide +kernel
theorem dX1_init_37 : decode cX1_init 37 = .ok (.bipush 16, 2) := by decide +kernel
theorem dX1_init_39 : decode cX1_init 39 = .ok (.newarray .int, 2) := by decide +kernel
theorem dX1_init_41 : decode cX1_init 41 = .ok (.putfield 24, 3) := by decide +kernel
theorem dX1_init_44 : decode cX1_init 44 = .ok (.aload_n 0, 1) := by decide +kernel
theorem dX1_init_45 : decode cX1_init 45 = .ok (.bipush 16, 2) := by decide +kernel
theorem dX1_init_47 : decode cX1_init 47 = .ok (.newarray .int, 2) := by decide +kernel
theorem dX1_init_49 : decode cX1_init 49 = .ok (.putfield 27, 3) := by decide +kernel
theorem dX1_init_52 : decode cX1_init 52 = .ok (.aload_n 0, 1) := by decide +kernel
theorem dX1_init_53 : decode cX1_init 53 = .ok (.bipush 16, 2) := by decide +kernel
theorem dX1_init_55 : decode cX1_init 55 = .ok (.newarray .int, 2) := by decide +kernel
theorem dX1_init_57 : decode cX1_init 57 = .ok (.putfield 30, 3) := by decide +kernel
theorem dX1_init_60 : decode cX1_init 60 = .ok (.aload_n 0, 1) := by decide +kernel
theorem dX1_init_61 : decode cX1_init 61 = .ok (.bipush 16, 2) := by decide +kernel
theorem dX1_init_63 : decode cX1_init 63 = .ok (.newarray .int, 2) := by decide +kernel
theorem dX1_init_65 : decode cX1_init 65 = .ok (.putfield 33, 3) := by decide +kernel
theorem dX1_init_68 : decode cX1_init 68 = .ok (.aload_n 0, 1) := by decide +kernel
theorem dX1_init_69 : decode cX1_init 69 = .ok (.iconst 0, 1) := by decide +kernel
theorem dX1_init_70 : decode cX1_init 70 = .ok (.putfield 36, 3) := by decide +kernel
theorem dX1_init_73 : decode cX1_init 73 = .ok (.aload_n 0, 1) := by decide +kernel
theorem dX1_init_74 : decode cX1_init 74 = .ok (.iconst 0, 1) := by decide +kernel
theorem dX1_init_75 : decode cX1_init 75 = .ok (.putfield 40, 3) := by decide +kernel
theorem dX1_init_78 : decode cX1_init 78 = .ok (.aload_n 0, 1) := by decide +kernel
theorem dX1_init_79 : decode cX1_init 79 = .ok (.iconst 0, 1) := by decide +kernel
theorem dX1_init_80 : decode cX1_init 80 = .ok (.putfield 43, 3) := by decide +kernel
theorem dX1_init_83 : decode cX1_init 83 = .ok (.aload_n 0, 1) := by decide +kernel
theorem dX1_init_84 : decode cX1_init 84 = .ok (.iconst 0, 1) := by decide +kernel
theorem dX1_init_85 : decode cX1_init 85 = .ok (.putfield 46, 3) := by decide +kernel
theorem dX1_init_88 : decode cX1_init 88 = .ok (.aload_n 0, 1) := by decide +kernel
theorem dX1_init_89 : decode cX1_init 89 = .ok (.iconst 0, 1) := by decide +kernel
theorem dX1_init_90 : decode cX1_init 90 = .ok (.putfield 49, 3) := by decide +kernel
theorem dX1_init_93 : decode cX1_init 93 = .ok (.aload_n 0, 1) := by decide +kernel
theorem dX1_init_94 : decode cX1_init 94 = .ok (.iconst 0, 1) := by decide +kernel
theorem dX1_init_95 : decode cX1_init 95 = .ok (.putfield 52, 3) := by decide +kernel
theorem dX1_init_98 : decode cX1_init 98 = .ok (.aload_n 0, 1) := by decide +kernel
theorem dX1_init_99 : decode cX1_init 99 = .ok (.iconst 0, 1) := by decide +kernel
theorem dX1_init_100 : decode cX1_init 100 = .ok (.putfield 55, 3) := by decide +kernel
theorem dX1_init_103 : decode cX1_init 103 = .ok (.return_, 1) := by decide +kernel
set_option maxRecDepth 20000 in
theorem ggX1_pour_X1_clear : GoodIn wsX1_pour wsX1_clear := goodIn_r _ [6, 7, 8, 9, 10, 11, 12, 13, 14, 15, 16, 17, 5, 18, 19, 20, 21, 70, 71, 72, 73, 74, 75, 76, 77, 78, 79, 80, 81, 82, 83, 84] (by decide +kernel) (by decide +kernel)
set_option maxRecDepth 20000 in
theorem gX1_pour_X1_clear : GoodIn wsX1_pour (wsV RX1 58 RX1 yX1_clear wsX1_clear) := goodIn_app (goodIn_of _ (by decide +kernel)) ggX1_pour_X1_clear
set_option maxRecDepth 20000 in
theorem ggX1_pour_X1_place : GoodIn wsX1_pour wsX1_place := goodIn_r _ [25, 26, 27, 28, 29, 30, 31, 5, 32, 19, 33, 34, 35, 36, 7, 37, 38, 39, 40, 41, 42, 43, 44, 45, 46, 47, 48, 49, 50, 10, 13, 8, 9, 14, 12, 15, 16, 17, 18, 20, 21, 51, 52, 53, 54, 55, 56, 57, 58, 11, 59, 60, 61, 62, 63, 64, 65, 66, 67, 68, 69, 70, 71, 72, 73, 74, 75, 76, 77, 78, 79, 80, 81, 82, 83, 84] (by decide +kernel) (by decide +kernel)
set_option maxRecDepth 20000 in
theorem gX1_pour_X1_place : GoodIn wsX1_pour (wsV RX1 66 RX1 yX1_place wsX1_place) := goodIn_app (goodIn_of _ (by decide +kernel)) ggX1_pour_X1_place
set_option maxRecDepth 20000 in
theorem ggX1_pour_X1_note : GoodIn wsX1_pour wsX1_note := goodIn_r _ [43, 44, 45, 46, 70, 71, 72, 73, 74, 75, 76, 77, 78, 79, 80, 81, 82, 83, 84] (by decide +kernel) (by decide +kernel)
set_option maxRecDepth 20000 in
theorem gX1_pour_X1_note : GoodIn wsX1_pour (wsV RX1 70 RX1 yX1_note wsX1_note) := goodIn_app (goodIn_of _ (by decide +kernel)) ggX1_pour_X1_note
theorem dX1_pour_0 : decode cX1_pour 0 = .ok (.aload_n 0, 1) := by decide +kernel
theorem dX1_pour_1 : decode cX1_pour 1 = .ok (.invokevirtual 58, 3) := by decide +kernel
theorem dX1_pour_4 : decode cX1_pour 4 = .ok (.iconst 0, 1) := by decide +kernel
theorem dX1_pour_5 : decode cX1_pour 5 = .ok (.istore_n 2, 1) := by decide +kernel
theorem dX1_pour_6 : decode cX1_pour 6 = .ok (.iload_n 2, 1) := by decide +kernel
theorem dX1_pour_7 : decode cX1_pour 7 = .ok (.aload_n 1, 1) := by decide +kernel
theorem dX1_pour_8 : decode cX1_pour 8 = .ok (.getfield 61, 3) := by decide +kernel
theorem dX1_pour_11 : decode cX1_pour 11 = .ok (.if_icmp .ge 18, 3) := by decide +kernel
theorem dX1_pour_14 : decode cX1_pour 14 = .ok (.aload_n 0, 1) := by decide +kernel
theorem dX1_pour_15 : decode cX1_pour 15 = .ok (.aload_n 1, 1) := by decide +kernel
theorem dX1_pour_16 : decode cX1_pour 16 = .ok (.iload_n 2, 1) := by decide +kernel
theorem dX1_pour_17 : decode cX1_pour 17 = .ok (.invokevirtual 66, 3) := by decide +kernel
theorem dX1_pour_20 : decode cX1_pour 20 = .ok (.ifCond .eq 9, 3) := by decide +kernel
theorem dX1_pour_23 : decode cX1_pour 23 = .ok (.iinc 2 1, 3) := by decide +kernel
theorem dX1_pour_26 : decode cX1_pour 26 = .ok (.goto (-20), 3) := by decide +kernel
theorem dX1_pour_29 : decode cX1_pour 29 = .ok (.aload_n 0, 1) := by decide +kernel
theorem dX1_pour_30 : decode cX1_pour 30 = .ok (.aload_n 1, 1) := by decide +kernel
theorem dX1_pour_31 : decode cX1_pour 31 = .ok (.getfield 61, 3) := by decide +kernel
theorem dX1_pour_34 : decode cX1_pour 34 = .ok (.iload_n 2, 1) := by decide +kernel
theorem dX1_pour_35 : decode cX1_pour 35 = .ok (.isub, 1) := by decide +kernel
theorem dX1_pour_36 : decode cX1_pour 36 = .ok (.putfield 55, 3) := by decide +kernel
theorem dX1_pour_39 : decode cX1_pour 39 = .ok (.iload_n 2, 1) := by decide +kernel
theorem dX1_pour_40 : decode cX1_pour 40 = .ok (.aload_n 1, 1) := by decide +kernel
theorem dX1_pour_41 : decode cX1_pour 41 = .ok (.getfield 61, 3) := by decide +kernel
theorem dX1_pour_44 : decode cX1_pour 44 = .ok (.if_icmp .ge 17, 3) := by decide +kernel
theorem dX1_pour_47 : decode cX1_pour 47 = .ok (.aload_n 0, 1) := by decide +kernel
theorem dX1_pour_48 : decode cX1_pour 48 = .ok (.iload_n 2, 1) := by decide +kernel
theorem dX1_pour_49 : decode cX1_pour 49 = .ok (.iconst (-1), 1) := by decide +kernel
theorem dX1_pour_50 : decode cX1_pour 50 = .ok (.iconst (-1), 1) := by decide +kernel
theorem dX1_pour_51 : decode cX1_pour 51 = .ok (.iconst (-1), 1) := by decide +kernel
theorem dX1_pour_52 : decode cX1_pour 52 = .ok (.invokevirtual 70, 3) := by decide +kernel
theorem dX1_pour_55 : decode cX1_pour 55 = .ok (.iinc 2 1, 3) := by decide +kernel
theorem dX1_pour_58 : decode cX1_pour 58 = .ok (.goto (-19), 3) := by decide +kernel
theorem dX1_pour_61 : decode cX1_pour 61 = .ok (.return_, 1) := by decide +kernel
set_option maxRecDepth 20000 in
theorem ggX1_clear_X1_beginPage : GoodIn wsX1_clear wsX1_beginPage := goodIn_r _ [13, 14, 15, 16, 17, 18, 19, 20, 21, 22, 23, 24, 25, 26, 27, 28, 29, 30, 31] (by decide +kernel) (by decide +kernel)
set_option maxRecDepth 20000 in
theorem gX1_clear_X1_beginPage : GoodIn wsX1_clear (wsV RX1 74 RX1 yX1_beginPage wsX1_beginPage) := goodIn_app (goodIn_of _ (by decide +kernel)) ggX1_clear_X1_beginPage
theorem dX1_clear_0 : decode cX1_clear 0 = .ok (.iconst 0, 1) := by decide +kernel
theorem dX1_clear_1 : decode cX1_clear 1 = .ok (.istore_n 1, 1) := by decide +kernel
theorem dX1_clear_2 : decode cX1_clear 2 = .ok (.iload_n 1, 1) := by decide +kernel
theorem dX1_clear_3 : decode cX1_clear 3 = .ok (.bipush 16, 2) := by decide +kernel
theorem dX1_clear_5 : decode cX1_clear 5 = .ok (.if_icmp .ge 44, 3) := by decide +kernel
theorem dX1_clear_8 : decode cX1_clear 8 = .ok (.aload_n 0, 1) := by decide +kernel
theorem dX1_clear_9 : decode cX1_clear 9 = .ok (.getfield 21, 3) := by decide +kernel
theorem dX1_clear_12 : decode cX1_clear 12 = .ok (.iload_n 1, 1) := by decide +kernel
theorem dX1_clear_13 : decode cX1_clear 13 = .ok (.iconst 0, 1) := by decide +kernel
theorem dX1_clear_14 : decode cX1_clear 14 = .ok (.iastore, 1) := by decide +kernel
theorem dX1_clear_15 : decode cX1_clear 15 = .ok (.aload_n 0, 1) := by decide +kernel
theorem dX1_clear_16 : decode cX1_clear 16 = .ok (.getfield 24, 3) := by decide +kernel
theorem dX1_clear_19 : decode cX1_clear 19 = .ok (.iload_n 1, 1) := by decide +kernel
theorem dX1_clear_20 : decode cX1_clear 20 = .ok (.iconst 0, 1) := by decide +kernel
theorem dX1_clear_21 : decode cX1_clear 21 = .ok (.iastore, 1) := by decide +kernel
theorem dX1_clear_22 : decode cX1_clear 22 = .ok (.aload_n 0, 1) := by decide +kernel
theorem dX1_clear_23 : decode cX1_clear 23 = .ok (.getfield 27, 3) := by decide +kernel
theorem dX1_clear_26 : decode cX1_clear 26 = .ok (.iload_n 1, 1) := by decide +kernel
theorem dX1_clear_27 : decode cX1_clear 27 = .ok (.iconst 0, 1) := by decide +kernel
theorem dX1_clear_28 : decode cX1_clear 28 = .ok (.iastore, 1) := by decide +kernel
theorem dX1_clear_29 : decode cX1_clear 29 = .ok (.aload_n 0, 1) := by decide +kernel
theorem dX1_clear_30 : decode cX1_clear 30 = .ok (.getfield 30, 3) := by decide +kernel
theorem dX1_clear_33 : decode cX1_clear 33 = .ok (.iload_n 1, 1) := by decide +kernel
theorem dX1_clear_34 : decode cX1_clear 34 = .ok (.iconst 0, 1) := by decide +kernel
theorem dX1_clear_35 : decode cX1_clear 35 = .ok (.iastore, 1) := by decide +kernel
theorem dX1_clear_36 : decode cX1_clear 36 = .ok (.aload_n 0, 1) := by decide +kernel
theorem dX1_clear_37 : decode cX1_clear 37 = .ok (.getfield 33, 3) := by decide +kernel
theorem dX1_clear_40 : decode cX1_clear 40 = .ok (.iload_n 1, 1) := by decide +kernel
theorem dX1_clear_41 : decode cX1_clear 41 = .ok (.iconst 0, 1) := by decide +kernel
theorem dX1_clear_42 : decode cX1_clear 42 = .ok (.iastore, 1) := by decide +kernel
theorem dX1_clear_43 : decode cX1_clear 43 = .ok (.iinc 1 1, 3) := by decide +kernel
theorem dX1_clear_46 : decode cX1_clear 46 = .ok (.goto (-44), 3) := by decide +kernel
theorem dX1_clear_49 : decode cX1_clear 49 = .ok (.aload_n 0, 1) := by decide +kernel
theorem dX1_clear_50 : decode cX1_clear 50 = .ok (.iconst 0, 1) := by decide +kernel
theorem dX1_clear_51 : decode cX1_clear 51 = .ok (.invokevirtual 74, 3) := by decide +kernel
theorem dX1_clear_54 : decode cX1_clear 54 = .ok (.aload_n 0, 1) := by decide +kernel
theorem dX1_clear_55 : decode cX1_clear 55 = .ok (.iconst 0, 1) := by decide +kernel
theorem dX1_clear_56 : decode cX1_clear 56 = .ok (.putfield 46, 3) := by decide +kernel
theorem dX1_clear_59 : decode cX1_clear 59 = .ok (.aload_n 0, 1) := by decide +kernel
theorem dX1_clear_60 : decode cX1_clear 60 = .ok (.iconst 0, 1) := by decide +kernel
theorem dX1_clear_61 : decode cX1_clear 61 = .ok (.putfield 49, 3) := by decide +kernel
theorem dX1_clear_64 : decode cX1_clear 64 = .ok (.aload_n 0, 1) := by decide +kernel
theorem dX1_clear_65 : decode cX1_clear 65 = .ok (.iconst 0, 1) := by decide +kernel
theorem dX1_clear_66 : decode cX1_clear 66 = .ok (.putfield 52, 3) := by decide +kernel
theorem dX1_clear_69 : decode cX1_clear 69 = .ok (.return_, 1) := by decide +kernel
set_option maxRecDepth 20000 in
theorem ggX1_place_X4_read : GoodIn wsX1_place wsX4_read := goodIn_r _ [3] (by decide +kernel) (by decide +kernel)
set_option maxRecDepth 20000 in
theorem gX1_place_X4_read_n81 : GoodIn wsX1_place (wsX4_read) := ggX1_place_X4_read
set_option maxRecDepth 20000 in
theorem ggX1_place_X1_placeOnWholePages : GoodIn wsX1_place wsX1_placeOnWholePages := goodIn_r _ [8, 9, 10, 11, 12, 7, 13, 14, 15, 16, 17, 18, 19, 20, 21, 22, 23, 24, 25, 26, 27, 28, 29, 30, 31, 32, 33, 34, 35, 36, 37, 38, 39, 40, 61, 62, 63, 64, 65, 66, 67, 68, 69, 70, 71, 72, 73, 74, 75] (by decide +kernel) (by decide +kernel)
set_option maxRecDepth 20000 in
theorem gX1_place_X1_placeOnWholePages : GoodIn wsX1_place (wsV RX1 88 RX1 yX1_placeOnWholePages wsX1_placeOnWholePages) := goodIn_app (goodIn_of _ (by decide +kernel)) ggX1_place_X1_placeOnWholePages
set_option maxRecDepth 20000 in
theorem ggX1_place_X1_goOnIfTooManyBeats : GoodIn wsX1_place wsX1_goOnIfTooManyBeats := goodIn_r _ [44, 9, 31, 10, 11, 12, 7, 13, 14, 1, 2, 3, 35, 36, 37, 38, 39, 40, 61, 62, 63, 64, 65, 66, 67, 68, 69, 70, 71, 72, 73, 74, 75] (by decide +kernel) (by decide +kernel)
set_option maxRecDepth 20000 in
theorem gX1_place_X1_goOnIfTooManyBeats : GoodIn wsX1_place (wsV RX1 95 RX1 yX1_goOnIfTooManyBeats wsX1_goOnIfTooManyBeats) := goodIn_app (goodIn_of _ (by decide +kernel)) ggX1_place_X1_goOnIfTooManyBeats
set_option maxRecDepth 20000 in
theorem ggX1_place_X1_placeInRow : GoodIn wsX1_place wsX1_placeInRow := goodIn_r _ [48, 40, 9, 39, 49, 50, 51, 52, 7, 53, 15, 16, 17, 18, 19, 20, 21, 22, 23, 24, 25, 26, 27, 28, 14, 29, 30, 31, 32, 33, 34, 1, 2, 3, 54, 55, 61, 62, 63, 64, 65, 66, 67, 68, 69, 70, 71, 72, 73, 74, 75] (by decide +kernel) (by decide +kernel)
set_option maxRecDepth 20000 in
theorem gX1_place_X1_placeInRow : GoodIn wsX1_place (wsV RX1 102 RX1 yX1_placeInRow wsX1_placeInRow) := goodIn_app (goodIn_of _ (by decide +kernel)) ggX1_place_X1_placeInRow
theorem dX1_place_0 : decode cX1_place 0 = .ok (.aload_n 1, 1) := by decide +kernel
theorem dX1_place_1 : decode cX1_place 1 = .ok (.getfield 78, 3) := by decide +kernel
theorem dX1_place_4 : decode cX1_place 4 = .ok (.iload_n 2, 1) := by decide +kernel
theorem dX1_place_5 : decode cX1_place 5 = .ok (.invokestatic 81, 3) := by decide +kernel
theorem dX1_place_8 : decode cX1_place 8 = .ok (.istore_n 3, 1) := by decide +kernel
theorem dX1_place_9 : decode cX1_place 9 = .ok (.aload_n 1, 1) := by decide +kernel
theorem dX1_place_10 : decode cX1_place 10 = .ok (.getfield 85, 3) := by decide +kernel
theorem dX1_place_13 : decode cX1_place 13 = .ok (.iload_n 2, 1) := by decide +kernel
theorem dX1_place_14 : decode cX1_place 14 = .ok (.invokestatic 81, 3) := by decide +kernel
theorem dX1_place_17 : decode cX1_place 17 = .ok (.istore 4, 2) := by decide +kernel
theorem dX1_place_19 : decode cX1_place 19 = .ok (.iload_n 3, 1) := by decide +kernel
theorem dX1_place_20 : decode cX1_place 20 = .ok (.iconst 2, 1) := by decide +kernel
theorem dX1_place_21 : decode cX1_place 21 = .ok (.if_icmp .ne 12, 3) := by decide +kernel
theorem dX1_place_24 : decode cX1_place 24 = .ok (.aload_n 0, 1) := by decide +kernel
theorem dX1_place_25 : decode cX1_place 25 = .ok (.iload_n 2, 1) := by decide +kernel
theorem dX1_place_26 : decode cX1_place 26 = .ok (.iload 4, 2) := by decide +kernel
theorem dX1_place_28 : decode cX1_place 28 = .ok (.iconst 1, 1) := by decide +kernel
theorem dX1_place_29 : decode cX1_place 29 = .ok (.invokevirtual 88, 3) := by decide +kernel
theorem dX1_place_32 : decode cX1_place 32 = .ok (.ireturn, 1) := by decide +kernel
theorem dX1_place_33 : decode cX1_place 33 = .ok (.iload_n 3, 1) := by decide +kernel
theorem dX1_place_34 : decode cX1_place 34 = .ok (.iconst 3, 1) := by decide +kernel
theorem dX1_place_35 : decode cX1_place 35 = .ok (.if_icmp .ne 12, 3) := by decide +kernel
theorem dX1_place_38 : decode cX1_place 38 = .ok (.aload_n 0, 1) := by decide +kernel
theorem dX1_place_39 : decode cX1_place 39 = .ok (.iload_n 2, 1) := by decide +kernel
theorem dX1_place_40 : decode cX1_place 40 = .ok (.iload 4, 2) := by decide +kernel
theorem dX1_place_42 : decode cX1_place 42 = .ok (.iconst 2, 1) := by decide +kernel
theorem dX1_place_43 : decode cX1_place 43 = .ok (.invokevirtual 88, 3) := by decide +kernel
theorem dX1_place_46 : decode cX1_place 46 = .ok (.ireturn, 1) := by decide +kernel
theorem dX1_place_47 : decode cX1_place 47 = .ok (.aload_n 0, 1) := by decide +kernel
theorem dX1_place_48 : decode cX1_place 48 = .ok (.iload 4, 2) := by decide +kernel
theorem dX1_place_50 : decode cX1_place 50 = .ok (.aload_n 1, 1) := by decide +kernel
theorem dX1_place_51 : decode cX1_place 51 = .ok (.getfield 92, 3) := by decide +kernel
theorem dX1_place_54 : decode cX1_place 54 = .ok (.invokevirtual 95, 3) := by decide +kernel
theorem dX1_place_57 : decode cX1_place 57 = .ok (.aload_n 0, 1) := by decide +kernel
theorem dX1_place_58 : decode cX1_place 58 = .ok (.iload_n 2, 1) := by decide +kernel
theorem dX1_place_59 : decode cX1_place 59 = .ok (.iload_n 3, 1) := by decide +kernel
theorem dX1_place_60 : decode cX1_place 60 = .ok (.iconst 1, 1) := by decide +kernel
theorem dX1_place_61 : decode cX1_place 61 = .ok (.if_icmp .ne 7, 3) := by decide +kernel
theorem dX1_place_64 : decode cX1_place 64 = .ok (.iconst 1, 1) := by decide +kernel
theorem dX1_place_65 : decode cX1_place 65 = .ok (.goto 4, 3) := by decide +kernel
theorem dX1_place_68 : decode cX1_place 68 = .ok (.iconst 0, 1) := by decide +kernel
theorem dX1_place_69 : decode cX1_place 69 = .ok (.aload_n 1, 1) := by decide +kernel
theorem dX1_place_70 : decode cX1_place 70 = .ok (.getfield 99, 3) := by decide +kernel
theorem dX1_place_73 : decode cX1_place 73 = .ok (.iload_n 2, 1) := by decide +kernel
theorem dX1_place_74 : decode cX1_place 74 = .ok (.invokestatic 81, 3) := by decide +kernel
theorem dX1_place_77 : decode cX1_place 77 = .ok (.iload 4, 2) := by decide +kernel
theorem dX1_place_79 : decode cX1_place 79 = .ok (.invokevirtual 102, 3) := by decide +kernel
theorem dX1_place_82 : decode cX1_place 82 = .ok (.ireturn, 1) := by decide +kernel
set_option maxRecDepth 20000 in
theorem ggX1_placeOnWholePages_X1_isBearing : GoodIn wsX1_placeOnWholePages wsX1_isBearing := goodIn_r _ [6, 7, 34, 35, 36, 37, 38, 39, 40, 41, 42, 43, 44, 45, 46, 47, 48] (by decide +kernel) (by decide +kernel)
set_option maxRecDepth 20000 in
theorem gX1_placeOnWholePages_X1_isBearing : GoodIn wsX1_placeOnWholePages (wsV RX1 106 RX1 yX1_isBearing wsX1_isBearing) := goodIn_app (goodIn_of _ (by decide +kernel)) ggX1_placeOnWholePages_X1_isBearing
set_option maxRecDepth 20000 in
theorem ggX1_placeOnWholePages_X1_isOnLeft : GoodIn wsX1_placeOnWholePages wsX1_isOnLeft := goodIn_r _ [10] (by decide +kernel) (by decide +kernel)
set_option maxRecDepth 20000 in
theorem gX1_placeOnWholePages_X1_isOnLeft : GoodIn wsX1_placeOnWholePages (va_wsS RX1 110 yX1_isOnLeft wsX1_isOnLeft) := goodIn_app (goodIn_of _ (by decide +kernel)) ggX1_placeOnWholePages_X1_isOnLeft
set_option maxRecDepth 20000 in
theorem ggX1_placeOnWholePages_X1_note : GoodIn wsX1_placeOnWholePages wsX1_note := goodIn_r _ [14, 15, 16, 17, 34, 35, 36, 37, 38, 39, 40, 41, 42, 43, 44, 45, 46, 47, 48] (by decide +kernel) (by decide +kernel)
set_option maxRecDepth 20000 in
theorem gX1_placeOnWholePages_X1_note : GoodIn wsX1_placeOnWholePages (wsV RX1 70 RX1 yX1_note wsX1_note) := goodIn_app (goodIn_of _ (by decide +kernel)) ggX1_placeOnWholePages_X1_note
set_option maxRecDepth 20000 in
theorem ggX1_placeOnWholePages_X1_bear : GoodIn wsX1_placeOnWholePages wsX1_bear := goodIn_r _ [21, 7, 22, 23, 24, 25, 26, 27, 34, 35, 36, 37, 38, 39, 40, 41, 42, 43, 44, 45, 46, 47, 48] (by decide +kernel) (by decide +kernel)
set_option maxRecDepth 20000 in
theorem gX1_placeOnWholePages_X1_bear : GoodIn wsX1_placeOnWholePages (wsV RX1 113 RX1 yX1_bear wsX1_bear) := goodIn_app (goodIn_of _ (by decide +kernel)) ggX1_placeOnWholePages_X1_bear
set_option maxRecDepth 20000 in
theorem ggX1_placeOnWholePages_X1_beginPage : GoodIn wsX1_placeOnWholePages wsX1_beginPage := goodIn_r _ [31, 1, 32, 33, 34, 35, 36, 37, 38, 39, 40, 41, 42, 43, 44, 45, 46, 47, 48] (by decide +kernel) (by decide +kernel)
set_option maxRecDepth 20000 in
theorem gX1_placeOnWholePages_X1_beginPage : GoodIn wsX1_placeOnWholePages (wsV RX1 74 RX1 yX1_beginPage wsX1_beginPage) := goodIn_app (goodIn_of _ (by decide +kernel)) ggX1_placeOnWholePages_X1_beginPage
theorem dX1_placeOnWholePages_0 : decode cX1_placeOnWholePages 0 = .ok (.aload_n 0, 1) := by decide +kernel
theorem dX1_placeOnWholePages_1 : decode cX1_placeOnWholePages 1 = .ok (.aload_n 0, 1) := by decide +kernel
theorem dX1_placeOnWholePages_2 : decode cX1_placeOnWholePages 2 = .ok (.getfield 36, 3) := by decide +kernel
theorem dX1_placeOnWholePages_5 : decode cX1_placeOnWholePages 5 = .ok (.invokevirtual 106, 3) := by decide +kernel
theorem dX1_placeOnWholePages_8 : decode cX1_placeOnWholePages 8 = .ok (.ifCond .eq 12, 3) := by decide +kernel
theorem dX1_placeOnWholePages_11 : decode cX1_placeOnWholePages 11 = .ok (.aload_n 0, 1) := by decide +kernel
theorem dX1_placeOnWholePages_12 : decode cX1_placeOnWholePages 12 = .ok (.getfield 36, 3) := by decide +kernel
theorem dX1_placeOnWholePages_15 : decode cX1_placeOnWholePages 15 = .ok (.iconst 1, 1) := by decide +kernel
theorem dX1_placeOnWholePages_16 : decode cX1_placeOnWholePages 16 = .ok (.iadd, 1) := by decide +kernel
theorem dX1_placeOnWholePages_17 : decode cX1_placeOnWholePages 17 = .ok (.goto 7, 3) := by decide +kernel
theorem dX1_placeOnWholePages_20 : decode cX1_placeOnWholePages 20 = .ok (.aload_n 0, 1) := by decide +kernel
theorem dX1_placeOnWholePages_21 : decode cX1_placeOnWholePages 21 = .ok (.getfield 36, 3) := by decide +kernel
theorem dX1_placeOnWholePages_24 : decode cX1_placeOnWholePages 24 = .ok (.istore 4, 2) := by decide +kernel
theorem dX1_placeOnWholePages_26 : decode cX1_placeOnWholePages 26 = .ok (.iload_n 3, 1) := by decide +kernel
theorem dX1_placeOnWholePages_27 : decode cX1_placeOnWholePages 27 = .ok (.iconst 2, 1) := by decide +kernel
theorem dX1_placeOnWholePages_28 : decode cX1_placeOnWholePages 28 = .ok (.if_icmp .ne 14, 3) := by decide +kernel
theorem dX1_placeOnWholePages_31 : decode cX1_placeOnWholePages 31 = .ok (.iload 4, 2) := by decide +kernel
theorem dX1_placeOnWholePages_33 : decode cX1_placeOnWholePages 33 = .ok (.invokestatic 110, 3) := by decide +kernel
theorem dX1_placeOnWholePages_36 : decode cX1_placeOnWholePages 36 = .ok (.ifCond .eq 6, 3) := by decide +kernel
theorem dX1_placeOnWholePages_39 : decode cX1_placeOnWholePages 39 = .ok (.iinc 4 1, 3) := by decide +kernel
theorem dX1_placeOnWholePages_42 : decode cX1_placeOnWholePages 42 = .ok (.iload 4, 2) := by decide +kernel
theorem dX1_placeOnWholePages_44 : decode cX1_placeOnWholePages 44 = .ok (.iload_n 3, 1) := by decide +kernel
theorem dX1_placeOnWholePages_45 : decode cX1_placeOnWholePages 45 = .ok (.iadd, 1) := by decide +kernel
theorem dX1_placeOnWholePages_46 : decode cX1_placeOnWholePages 46 = .ok (.bipush 16, 2) := by decide +kernel
theorem dX1_placeOnWholePages_48 : decode cX1_placeOnWholePages 48 = .ok (.if_icmp .le 5, 3) := by decide +kernel
theorem dX1_placeOnWholePages_51 : decode cX1_placeOnWholePages 51 = .ok (.iconst 0, 1) := by decide +kernel
theorem dX1_placeOnWholePages_52 : decode cX1_placeOnWholePages 52 = .ok (.ireturn, 1) := by decide +kernel
theorem dX1_placeOnWholePages_53 : decode cX1_placeOnWholePages 53 = .ok (.aload_n 0, 1) := by decide +kernel
theorem dX1_placeOnWholePages_54 : decode cX1_placeOnWholePages 54 = .ok (.iload_n 1, 1) := by decide +kernel
theorem dX1_placeOnWholePages_55 : decode cX1_placeOnWholePages 55 = .ok (.iload 4, 2) := by decide +kernel
theorem dX1_placeOnWholePages_57 : decode cX1_placeOnWholePages 57 = .ok (.iconst (-1), 1) := by decide +kernel
theorem dX1_placeOnWholePages_58 : decode cX1_placeOnWholePages 58 = .ok (.iconst (-1), 1) := by decide +kernel
theorem dX1_placeOnWholePages_59 : decode cX1_placeOnWholePages 59 = .ok (.invokevirtual 70, 3) := by decide +kernel
theorem dX1_placeOnWholePages_62 : decode cX1_placeOnWholePages 62 = .ok (.aload_n 0, 1) := by decide +kernel
theorem dX1_placeOnWholePages_63 : decode cX1_placeOnWholePages 63 = .ok (.iload 4, 2) := by decide +kernel
theorem dX1_placeOnWholePages_65 : decode cX1_placeOnWholePages 65 = .ok (.iload_n 1, 1) := by decide +kernel
theorem dX1_placeOnWholePages_66 : decode cX1_placeOnWholePages 66 = .ok (.bipush 24, 2) := by decide +kernel
theorem dX1_placeOnWholePages_68 : decode cX1_placeOnWholePages 68 = .ok (.iload_n 2, 1) := by decide +kernel
theorem dX1_placeOnWholePages_69 : decode cX1_placeOnWholePages 69 = .ok (.invokevirtual 113, 3) := by decide +kernel
theorem dX1_placeOnWholePages_72 : decode cX1_placeOnWholePages 72 = .ok (.iload_n 3, 1) := by decide +kernel
theorem dX1_placeOnWholePages_73 : decode cX1_placeOnWholePages 73 = .ok (.iconst 2, 1) := by decide +kernel
theorem dX1_placeOnWholePages_74 : decode cX1_placeOnWholePages 74 = .ok (.if_icmp .ne 15, 3) := by decide +kernel
theorem dX1_placeOnWholePages_77 : decode cX1_placeOnWholePages 77 = .ok (.aload_n 0, 1) := by decide +kernel
theorem dX1_placeOnWholePages_78 : decode cX1_placeOnWholePages 78 = .ok (.iload 4, 2) := by decide +kernel
theorem dX1_placeOnWholePages_80 : decode cX1_placeOnWholePages 80 = .ok (.iconst 1, 1) := by decide +kernel
theorem dX1_placeOnWholePages_81 : decode cX1_placeOnWholePages 81 = .ok (.iadd, 1) := by decide +kernel
theorem dX1_placeOnWholePages_82 : decode cX1_placeOnWholePages 82 = .ok (.iload_n 1, 1) := by decide +kernel
theorem dX1_placeOnWholePages_83 : decode cX1_placeOnWholePages 83 = .ok (.bipush 24, 2) := by decide +kernel
theorem dX1_placeOnWholePages_85 : decode cX1_placeOnWholePages 85 = .ok (.iconst 0, 1) := by decide +kernel
theorem dX1_placeOnWholePages_86 : decode cX1_placeOnWholePages 86 = .ok (.invokevirtual 113, 3) := by decide +kernel
theorem dX1_placeOnWholePages_89 : decode cX1_placeOnWholePages 89 = .ok (.aload_n 0, 1) := by decide +kernel
theorem dX1_placeOnWholePages_90 : decode cX1_placeOnWholePages 90 = .ok (.iload 4, 2) := by decide +kernel
theorem dX1_placeOnWholePages_92 : decode cX1_placeOnWholePages 92 = .ok (.iload_n 3, 1) := by decide +kernel
theorem dX1_placeOnWholePages_93 : decode cX1_placeOnWholePages 93 = .ok (.iadd, 1) := by decide +kernel
theorem dX1_placeOnWholePages_94 : decode cX1_placeOnWholePages 94 = .ok (.invokevirtual 74, 3) := by decide +kernel
theorem dX1_placeOnWholePages_97 : decode cX1_placeOnWholePages 97 = .ok (.iconst 1, 1) := by decide +kernel
theorem dX1_placeOnWholePages_98 : decode cX1_placeOnWholePages 98 = .ok (.ireturn, 1) := by decide +kernel
set_option maxRecDepth 20000 in
theorem ggX1_goOnIfTooManyBeats_X1_isBearing : GoodIn wsX1_goOnIfTooManyBeats wsX1_isBearing := goodIn_r _ [7, 8, 18, 19, 20, 21, 22, 23, 24, 25, 26, 27, 28, 29, 30, 31, 32] (by decide +kernel) (by decide +kernel)
set_option maxRecDepth 20000 in
theorem gX1_goOnIfTooManyBeats_X1_isBearing : GoodIn wsX1_goOnIfTooManyBeats (wsV RX1 106 RX1 yX1_isBearing wsX1_isBearing) := goodIn_app (goodIn_of _ (by decide +kernel)) ggX1_goOnIfTooManyBeats_X1_isBearing
set_option maxRecDepth 20000 in
theorem ggX1_goOnIfTooManyBeats_X4_read : GoodIn wsX1_goOnIfTooManyBeats wsX4_read := goodIn_r _ [11] (by decide +kernel) (by decide +kernel)
set_option maxRecDepth 20000 in
theorem gX1_goOnIfTooManyBeats_X4_read_n81 : GoodIn wsX1_goOnIfTooManyBeats (wsX4_read) := ggX1_goOnIfTooManyBeats_X4_read
set_option maxRecDepth 20000 in
theorem ggX1_goOnIfTooManyBeats_X1_beginPage : GoodIn wsX1_goOnIfTooManyBeats wsX1_beginPage := goodIn_r _ [15, 1, 16, 17, 18, 19, 20, 21, 22, 23, 24, 25, 26, 27, 28, 29, 30, 31, 32] (by decide +kernel) (by decide +kernel)
set_option maxRecDepth 20000 in
theorem gX1_goOnIfTooManyBeats_X1_beginPage : GoodIn wsX1_goOnIfTooManyBeats (wsV RX1 74 RX1 yX1_beginPage wsX1_beginPage) := goodIn_app (goodIn_of _ (by decide +kernel)) ggX1_goOnIfTooManyBeats_X1_beginPage
theorem dX1_goOnIfTooManyBeats_0 : decode cX1_goOnIfTooManyBeats 0 = .ok (.aload_n 0, 1) := by decide +kernel
theorem dX1_goOnIfTooManyBeats_1 : decode cX1_goOnIfTooManyBeats 1 = .ok (.aload_n 0, 1) := by decide +kernel
theorem dX1_goOnIfTooManyBeats_2 : decode cX1_goOnIfTooManyBeats 2 = .ok (.getfield 36, 3) := by decide +kernel
theorem dX1_goOnIfTooManyBeats_5 : decode cX1_goOnIfTooManyBeats 5 = .ok (.invokevirtual 106, 3) := by decide +kernel
theorem dX1_goOnIfTooManyBeats_8 : decode cX1_goOnIfTooManyBeats 8 = .ok (.ifCond .eq 30, 3) := by decide +kernel
theorem dX1_goOnIfTooManyBeats_11 : decode cX1_goOnIfTooManyBeats 11 = .ok (.aload_n 0, 1) := by decide +kernel
theorem dX1_goOnIfTooManyBeats_12 : decode cX1_goOnIfTooManyBeats 12 = .ok (.getfield 24, 3) := by decide +kernel
theorem dX1_goOnIfTooManyBeats_15 : decode cX1_goOnIfTooManyBeats 15 = .ok (.aload_n 0, 1) := by decide +kernel
theorem dX1_goOnIfTooManyBeats_16 : decode cX1_goOnIfTooManyBeats 16 = .ok (.getfield 36, 3) := by decide +kernel
theorem dX1_goOnIfTooManyBeats_19 : decode cX1_goOnIfTooManyBeats 19 = .ok (.invokestatic 81, 3) := by decide +kernel
theorem dX1_goOnIfTooManyBeats_22 : decode cX1_goOnIfTooManyBeats 22 = .ok (.iload_n 1, 1) := by decide +kernel
theorem dX1_goOnIfTooManyBeats_23 : decode cX1_goOnIfTooManyBeats 23 = .ok (.iadd, 1) := by decide +kernel
theorem dX1_goOnIfTooManyBeats_24 : decode cX1_goOnIfTooManyBeats 24 = .ok (.iload_n 2, 1) := by decide +kernel
theorem dX1_goOnIfTooManyBeats_25 : decode cX1_goOnIfTooManyBeats 25 = .ok (.if_icmp .le 13, 3) := by decide +kernel
theorem dX1_goOnIfTooManyBeats_28 : decode cX1_goOnIfTooManyBeats 28 = .ok (.aload_n 0, 1) := by decide +kernel
theorem dX1_goOnIfTooManyBeats_29 : decode cX1_goOnIfTooManyBeats 29 = .ok (.aload_n 0, 1) := by decide +kernel
theorem dX1_goOnIfTooManyBeats_30 : decode cX1_goOnIfTooManyBeats 30 = .ok (.getfield 36, 3) := by decide +kernel
theorem dX1_goOnIfTooManyBeats_33 : decode cX1_goOnIfTooManyBeats 33 = .ok (.iconst 1, 1) := by decide +kernel
theorem dX1_goOnIfTooManyBeats_34 : decode cX1_goOnIfTooManyBeats 34 = .ok (.iadd, 1) := by decide +kernel
theorem dX1_goOnIfTooManyBeats_35 : decode cX1_goOnIfTooManyBeats 35 = .ok (.invokevirtual 74, 3) := by decide +kernel
theorem dX1_goOnIfTooManyBeats_38 : decode cX1_goOnIfTooManyBeats 38 = .ok (.return_, 1) := by decide +kernel
set_option maxRecDepth 20000 in
theorem ggX1_placeInRow_X1_beginRow : GoodIn wsX1_placeInRow wsX1_beginRow := goodIn_r _ [9, 1, 3, 2, 36, 37, 38, 39, 40, 41, 42, 43, 44, 45, 46, 47, 48, 49, 50] (by decide +kernel) (by decide +kernel)
set_option maxRecDepth 20000 in
theorem gX1_placeInRow_X1_beginRow : GoodIn wsX1_placeInRow (wsV RX1 116 RX1 yX1_beginRow wsX1_beginRow) := goodIn_app (goodIn_of _ (by decide +kernel)) ggX1_placeInRow_X1_beginRow
set_option maxRecDepth 20000 in
theorem ggX1_placeInRow_X1_isOnLeft : GoodIn wsX1_placeInRow wsX1_isOnLeft := goodIn_r _ [12] (by decide +kernel) (by decide +kernel)
set_option maxRecDepth 20000 in
theorem gX1_placeInRow_X1_isOnLeft : GoodIn wsX1_placeInRow (va_wsS RX1 110 yX1_isOnLeft wsX1_isOnLeft) := goodIn_app (goodIn_of _ (by decide +kernel)) ggX1_placeInRow_X1_isOnLeft
set_option maxRecDepth 20000 in
theorem ggX1_placeInRow_X1_note : GoodIn wsX1_placeInRow wsX1_note := goodIn_r _ [16, 17, 18, 19, 36, 37, 38, 39, 40, 41, 42, 43, 44, 45, 46, 47, 48, 49, 50] (by decide +kernel) (by decide +kernel)
set_option maxRecDepth 20000 in
theorem gX1_placeInRow_X1_note : GoodIn wsX1_placeInRow (wsV RX1 70 RX1 yX1_note wsX1_note) := goodIn_app (goodIn_of _ (by decide +kernel)) ggX1_placeInRow_X1_note
set_option maxRecDepth 20000 in
theorem ggX1_placeInRow_X1_bear : GoodIn wsX1_placeInRow wsX1_bear := goodIn_r _ [23, 24, 25, 26, 27, 28, 29, 30, 36, 37, 38, 39, 40, 41, 42, 43, 44, 45, 46, 47, 48, 49, 50] (by decide +kernel) (by decide +kernel)
set_option maxRecDepth 20000 in
theorem gX1_placeInRow_X1_bear : GoodIn wsX1_placeInRow (wsV RX1 113 RX1 yX1_bear wsX1_bear) := goodIn_app (goodIn_of _ (by decide +kernel)) ggX1_placeInRow_X1_bear
set_option maxRecDepth 20000 in
theorem ggX1_placeInRow_X4_read : GoodIn wsX1_placeInRow wsX4_read := goodIn_r _ [33] (by decide +kernel) (by decide +kernel)
set_option maxRecDepth 20000 in
theorem gX1_placeInRow_X4_read_n81 : GoodIn wsX1_placeInRow (wsX4_read) := ggX1_placeInRow_X4_read
set_option maxRecDepth 20000 in
theorem ggX1_placeInRow_X4_write : GoodIn wsX1_placeInRow wsX4_write := goodIn_r _ [35] (by decide +kernel) (by decide +kernel)
set_option maxRecDepth 20000 in
theorem gX1_placeInRow_X4_write_n119 : GoodIn wsX1_placeInRow (wsX4_write) := ggX1_placeInRow_X4_write
theorem dX1_placeInRow_0 : decode cX1_placeInRow 0 = .ok (.bipush 6, 2) := by decide +kernel
theorem dX1_placeInRow_2 : decode cX1_placeInRow 2 = .ok (.aload_n 0, 1) := by decide +kernel
theorem dX1_placeInRow_3 : decode cX1_placeInRow 3 = .ok (.getfield 43, 3) := by decide +kernel
theorem dX1_placeInRow_6 : decode cX1_placeInRow 6 = .ok (.isub, 1) := by decide +kernel
theorem dX1_placeInRow_7 : decode cX1_placeInRow 7 = .ok (.iload_n 3, 1) := by decide +kernel
theorem dX1_placeInRow_8 : decode cX1_placeInRow 8 = .ok (.if_icmp .ge 7, 3) := by decide +kernel
theorem dX1_placeInRow_11 : decode cX1_placeInRow 11 = .ok (.aload_n 0, 1) := by decide +kernel
theorem dX1_placeInRow_12 : decode cX1_placeInRow 12 = .ok (.invokevirtual 116, 3) := by decide +kernel
theorem dX1_placeInRow_15 : decode cX1_placeInRow 15 = .ok (.iload_n 2, 1) := by decide +kernel
theorem dX1_placeInRow_16 : decode cX1_placeInRow 16 = .ok (.ifCond .eq 24, 3) := by decide +kernel
theorem dX1_placeInRow_19 : decode cX1_placeInRow 19 = .ok (.aload_n 0, 1) := by decide +kernel
theorem dX1_placeInRow_20 : decode cX1_placeInRow 20 = .ok (.getfield 36, 3) := by decide +kernel
theorem dX1_placeInRow_23 : decode cX1_placeInRow 23 = .ok (.invokestatic 110, 3) := by decide +kernel
theorem dX1_placeInRow_26 : decode cX1_placeInRow 26 = .ok (.ifCond .ne 14, 3) := by decide +kernel
theorem dX1_placeInRow_29 : decode cX1_placeInRow 29 = .ok (.aload_n 0, 1) := by decide +kernel
theorem dX1_placeInRow_30 : decode cX1_placeInRow 30 = .ok (.getfield 43, 3) := by decide +kernel
theorem dX1_placeInRow_33 : decode cX1_placeInRow 33 = .ok (.ifCond .eq 7, 3) := by decide +kernel
theorem dX1_placeInRow_36 : decode cX1_placeInRow 36 = .ok (.aload_n 0, 1) := by decide +kernel
theorem dX1_placeInRow_37 : decode cX1_placeInRow 37 = .ok (.invokevirtual 116, 3) := by decide +kernel
theorem dX1_placeInRow_40 : decode cX1_placeInRow 40 = .ok (.aload_n 0, 1) := by decide +kernel
theorem dX1_placeInRow_41 : decode cX1_placeInRow 41 = .ok (.getfield 36, 3) := by decide +kernel
theorem dX1_placeInRow_44 : decode cX1_placeInRow 44 = .ok (.bipush 16, 2) := by decide +kernel
theorem dX1_placeInRow_46 : decode cX1_placeInRow 46 = .ok (.if_icmp .lt 5, 3) := by decide +kernel
theorem dX1_placeInRow_49 : decode cX1_placeInRow 49 = .ok (.iconst 0, 1) := by decide +kernel
theorem dX1_placeInRow_50 : decode cX1_placeInRow 50 = .ok (.ireturn, 1) := by decide +kernel
theorem dX1_placeInRow_51 : decode cX1_placeInRow 51 = .ok (.iload_n 2, 1) := by decide +kernel
theorem dX1_placeInRow_52 : decode cX1_placeInRow 52 = .ok (.ifCond .eq 20, 3) := by decide +kernel
theorem dX1_placeInRow_55 : decode cX1_placeInRow 55 = .ok (.aload_n 0, 1) := by decide +kernel
theorem dX1_placeInRow_56 : decode cX1_placeInRow 56 = .ok (.getfield 36, 3) := by decide +kernel
theorem dX1_placeInRow_59 : decode cX1_placeInRow 59 = .ok (.invokestatic 110, 3) := by decide +kernel
theorem dX1_placeInRow_62 : decode cX1_placeInRow 62 = .ok (.ifCond .eq 10, 3) := by decide +kernel
theorem dX1_placeInRow_65 : decode cX1_placeInRow 65 = .ok (.bipush 6, 2) := by decide +kernel
theorem dX1_placeInRow_67 : decode cX1_placeInRow 67 = .ok (.iload_n 3, 1) := by decide +kernel
theorem dX1_placeInRow_68 : decode cX1_placeInRow 68 = .ok (.isub, 1) := by decide +kernel
theorem dX1_placeInRow_69 : decode cX1_placeInRow 69 = .ok (.goto 7, 3) := by decide +kernel
theorem dX1_placeInRow_72 : decode cX1_placeInRow 72 = .ok (.aload_n 0, 1) := by decide +kernel
theorem dX1_placeInRow_73 : decode cX1_placeInRow 73 = .ok (.getfield 43, 3) := by decide +kernel
theorem dX1_placeInRow_76 : decode cX1_placeInRow 76 = .ok (.istore 5, 2) := by decide +kernel
theorem dX1_placeInRow_78 : decode cX1_placeInRow 78 = .ok (.aload_n 0, 1) := by decide +kernel
theorem dX1_placeInRow_79 : decode cX1_placeInRow 79 = .ok (.iload_n 1, 1) := by decide +kernel
theorem dX1_placeInRow_80 : decode cX1_placeInRow 80 = .ok (.aload_n 0, 1) := by decide +kernel
theorem dX1_placeInRow_81 : decode cX1_placeInRow 81 = .ok (.getfield 36, 3) := by decide +kernel
theorem dX1_placeInRow_84 : decode cX1_placeInRow 84 = .ok (.aload_n 0, 1) := by decide +kernel
theorem dX1_placeInRow_85 : decode cX1_placeInRow 85 = .ok (.getfield 40, 3) := by decide +kernel
theorem dX1_placeInRow_88 : decode cX1_placeInRow 88 = .ok (.iload 5, 2) := by decide +kernel
theorem dX1_placeInRow_90 : decode cX1_placeInRow 90 = .ok (.invokevirtual 70, 3) := by decide +kernel
theorem dX1_placeInRow_93 : decode cX1_placeInRow 93 = .ok (.aload_n 0, 1) := by decide +kernel
theorem dX1_placeInRow_94 : decode cX1_placeInRow 94 = .ok (.aload_n 0, 1) := by decide +kernel
theorem dX1_placeInRow_95 : decode cX1_placeInRow 95 = .ok (.getfield 36, 3) := by decide +kernel
theorem dX1_placeInRow_98 : decode cX1_placeInRow 98 = .ok (.iload_n 1, 1) := by decide +kernel
theorem dX1_placeInRow_99 : decode cX1_placeInRow 99 = .ok (.iload_n 3, 1) := by decide +kernel
theorem dX1_placeInRow_100 : decode cX1_placeInRow 100 = .ok (.iload 4, 2) := by decide +kernel
theorem dX1_placeInRow_102 : decode cX1_placeInRow 102 = .ok (.invokevirtual 113, 3) := by decide +kernel
theorem dX1_placeInRow_105 : decode cX1_placeInRow 105 = .ok (.iload_n 2, 1) := by decide +kernel
theorem dX1_placeInRow_106 : decode cX1_placeInRow 106 = .ok (.ifCond .eq 27, 3) := by decide +kernel
theorem dX1_placeInRow_109 : decode cX1_placeInRow 109 = .ok (.aload_n 0, 1) := by decide +kernel
theorem dX1_placeInRow_110 : decode cX1_placeInRow 110 = .ok (.getfield 33, 3) := by decide +kernel
theorem dX1_placeInRow_113 : decode cX1_placeInRow 113 = .ok (.aload_n 0, 1) := by decide +kernel
theorem dX1_placeInRow_114 : decode cX1_placeInRow 114 = .ok (.getfield 36, 3) := by decide +kernel
theorem dX1_placeInRow_117 : decode cX1_placeInRow 117 = .ok (.aload_n 0, 1) := by decide +kernel
theorem dX1_placeInRow_118 : decode cX1_placeInRow 118 = .ok (.getfield 33, 3) := by decide +kernel
theorem dX1_placeInRow_121 : decode cX1_placeInRow 121 = .ok (.aload_n 0, 1) := by decide +kernel
theorem dX1_placeInRow_122 : decode cX1_placeInRow 122 = .ok (.getfield 36, 3) := by decide +kernel
theorem dX1_placeInRow_125 : decode cX1_placeInRow 125 = .ok (.invokestatic 81, 3) := by decide +kernel
theorem dX1_placeInRow_128 : decode cX1_placeInRow 128 = .ok (.iconst 1, 1) := by decide +kernel
theorem dX1_placeInRow_129 : decode cX1_placeInRow 129 = .ok (.iadd, 1) := by decide +kernel
theorem dX1_placeInRow_130 : decode cX1_placeInRow 130 = .ok (.invokestatic 119, 3) := by decide +kernel
theorem dX1_placeInRow_133 : decode cX1_placeInRow 133 = .ok (.aload_n 0, 1) := by decide +kernel
theorem dX1_placeInRow_134 : decode cX1_placeInRow 134 = .ok (.iload 5, 2) := by decide +kernel
theorem dX1_placeInRow_136 : decode cX1_placeInRow 136 = .ok (.iload_n 3, 1) := by decide +kernel
theorem dX1_placeInRow_137 : decode cX1_placeInRow 137 = .ok (.iadd, 1) := by decide +kernel
theorem dX1_placeInRow_138 : decode cX1_placeInRow 138 = .ok (.putfield 43, 3) := by decide +kernel
theorem dX1_placeInRow_141 : decode cX1_placeInRow 141 = .ok (.iconst 1, 1) := by decide +kernel
theorem dX1_placeInRow_142 : decode cX1_placeInRow 142 = .ok (.ireturn, 1) := by decide +kernel
theorem dX1_beginRow_0 : decode cX1_beginRow 0 = .ok (.aload_n 0, 1) := by decide +kernel
theorem dX1_beginRow_1 : decode cX1_beginRow 1 = .ok (.iconst 0, 1) := by decide +kernel
theorem dX1_beginRow_2 : decode cX1_beginRow 2 = .ok (.putfield 43, 3) := by decide +kernel
theorem dX1_beginRow_5 : decode cX1_beginRow 5 = .ok (.aload_n 0, 1) := by decide +kernel
theorem dX1_beginRow_6 : decode cX1_beginRow 6 = .ok (.dup, 1) := by decide +kernel
theorem dX1_beginRow_7 : decode cX1_beginRow 7 = .ok (.getfield 40, 3) := by decide +kernel
theorem dX1_beginRow_10 : decode cX1_beginRow 10 = .ok (.iconst 1, 1) := by decide +kernel
theorem dX1_beginRow_11 : decode cX1_beginRow 11 = .ok (.iadd, 1) := by decide +kernel
theorem dX1_beginRow_12 : decode cX1_beginRow 12 = .ok (.putfield 40, 3) := by decide +kernel
theorem dX1_beginRow_15 : decode cX1_beginRow 15 = .ok (.aload_n 0, 1) := by decide +kernel
theorem dX1_beginRow_16 : decode cX1_beginRow 16 = .ok (.getfield 40, 3) := by decide +kernel
theorem dX1_beginRow_19 : decode cX1_beginRow 19 = .ok (.iconst 4, 1) := by decide +kernel
theorem dX1_beginRow_20 : decode cX1_beginRow 20 = .ok (.if_icmp .ne 18, 3) := by decide +kernel
theorem dX1_beginRow_23 : decode cX1_beginRow 23 = .ok (.aload_n 0, 1) := by decide +kernel
theorem dX1_beginRow_24 : decode cX1_beginRow 24 = .ok (.iconst 0, 1) := by decide +kernel
theorem dX1_beginRow_25 : decode cX1_beginRow 25 = .ok (.putfield 40, 3) := by decide +kernel
theorem dX1_beginRow_28 : decode cX1_beginRow 28 = .ok (.aload_n 0, 1) := by decide +kernel
theorem dX1_beginRow_29 : decode cX1_beginRow 29 = .ok (.dup, 1) := by decide +kernel
theorem dX1_beginRow_30 : decode cX1_beginRow 30 = .ok (.getfield 36, 3) := by decide +kernel
theorem dX1_beginRow_33 : decode cX1_beginRow 33 = .ok (.iconst 1, 1) := by decide +kernel
theorem dX1_beginRow_34 : decode cX1_beginRow 34 = .ok (.iadd, 1) := by decide +kernel
theorem dX1_beginRow_35 : decode cX1_beginRow 35 = .ok (.putfield 36, 3) := by decide +kernel
theorem dX1_beginRow_38 : decode cX1_beginRow 38 = .ok (.return_, 1) := by decide +kernel
theorem dX1_beginPage_0 : decode cX1_beginPage 0 = .ok (.aload_n 0, 1) := by decide +kernel
theorem dX1_beginPage_1 : decode cX1_beginPage 1 = .ok (.iload_n 1, 1) := by decide +kernel
theorem dX1_beginPage_2 : decode cX1_beginPage 2 = .ok (.putfield 36, 3) := by decide +kernel
theorem dX1_beginPage_5 : decode cX1_beginPage 5 = .ok (.aload_n 0, 1) := by decide +kernel
theorem dX1_beginPage_6 : decode cX1_beginPage 6 = .ok (.iconst 0, 1) := by decide +kernel
theorem dX1_beginPage_7 : decode cX1_beginPage 7 = .ok (.putfield 40, 3) := by decide +kernel
theorem dX1_beginPage_10 : decode cX1_beginPage 10 = .ok (.aload_n 0, 1) := by decide +kernel
theorem dX1_beginPage_11 : decode cX1_beginPage 11 = .ok (.iconst 0, 1) := by decide +kernel
theorem dX1_beginPage_12 : decode cX1_beginPage 12 = .ok (.putfield 43, 3) := by decide +kernel
theorem dX1_beginPage_15 : decode cX1_beginPage 15 = .ok (.return_, 1) := by decide +kernel
theorem dX1_note_0 : decode cX1_note 0 = .ok (.iload_n 1, 1) := by decide +kernel
theorem dX1_note_1 : decode cX1_note 1 = .ok (.ifCond .lt 9, 3) := by decide +kernel
theorem dX1_note_4 : decode cX1_note 4 = .ok (.iload_n 1, 1) := by decide +kernel
theorem dX1_note_5 : decode cX1_note 5 = .ok (.bipush 24, 2) := by decide +kernel
theorem dX1_note_7 : decode cX1_note 7 = .ok (.if_icmp .lt 4, 3) := by decide +kernel
theorem dX1_note_10 : decode cX1_note 10 = .ok (.return_, 1) := by decide +kernel
theorem dX1_note_11 : decode cX1_note 11 = .ok (.aload_n 0, 1) := by decide +kernel
theorem dX1_note_12 : decode cX1_note 12 = .ok (.getfield 9, 3) := by decide +kernel
theorem dX1_note_15 : decode cX1_note 15 = .ok (.iload_n 1, 1) := by decide +kernel
theorem dX1_note_16 : decode cX1_note 16 = .ok (.iload_n 2, 1) := by decide +kernel
theorem dX1_note_17 : decode cX1_note 17 = .ok (.iastore, 1) := by decide +kernel
theorem dX1_note_18 : decode cX1_note 18 = .ok (.aload_n 0, 1) := by decide +kernel
theorem dX1_note_19 : decode cX1_note 19 = .ok (.getfield 15, 3) := by decide +kernel
theorem dX1_note_22 : decode cX1_note 22 = .ok (.iload_n 1, 1) := by decide +kernel
theorem dX1_note_23 : decode cX1_note 23 = .ok (.iload_n 3, 1) := by decide +kernel
theorem dX1_note_24 : decode cX1_note 24 = .ok (.iastore, 1) := by decide +kernel
theorem dX1_note_25 : decode cX1_note 25 = .ok (.aload_n 0, 1) := by decide +kernel
theorem dX1_note_26 : decode cX1_note 26 = .ok (.getfield 18, 3) := by decide +kernel
theorem dX1_note_29 : decode cX1_note 29 = .ok (.iload_n 1, 1) := by decide +kernel
theorem dX1_note_30 : decode cX1_note 30 = .ok (.iload 4, 2) := by decide +kernel
theorem dX1_note_32 : decode cX1_note 32 = .ok (.iastore, 1) := by decide +kernel
theorem dX1_note_33 : decode cX1_note 33 = .ok (.return_, 1) := by decide +kernel
theorem dX1_bear_0 : decode cX1_bear 0 = .ok (.iload_n 1, 1) := by decide +kernel
theorem dX1_bear_1 : decode cX1_bear 1 = .ok (.ifCond .lt 9, 3) := by decide +kernel
theorem dX1_bear_4 : decode cX1_bear 4 = .ok (.iload_n 1, 1) := by decide +kernel
theorem dX1_bear_5 : decode cX1_bear 5 = .ok (.bipush 16, 2) := by decide +kernel
theorem dX1_bear_7 : decode cX1_bear 7 = .ok (.if_icmp .lt 4, 3) := by decide +kernel
theorem dX1_bear_10 : decode cX1_bear 10 = .ok (.return_, 1) := by decide +kernel
theorem dX1_bear_11 : decode cX1_bear 11 = .ok (.aload_n 0, 1) := by decide +kernel
theorem dX1_bear_12 : decode cX1_bear 12 = .ok (.getfield 21, 3) := by decide +kernel
theorem dX1_bear_15 : decode cX1_bear 15 = .ok (.iload_n 1, 1) := by decide +kernel
theorem dX1_bear_16 : decode cX1_bear 16 = .ok (.iaload, 1) := by decide +kernel
theorem dX1_bear_17 : decode cX1_bear 17 = .ok (.ifCond .ne 20, 3) := by decide +kernel
theorem dX1_bear_20 : decode cX1_bear 20 = .ok (.aload_n 0, 1) := by decide +kernel
theorem dX1_bear_21 : decode cX1_bear 21 = .ok (.getfield 30, 3) := by decide +kernel
theorem dX1_bear_24 : decode cX1_bear 24 = .ok (.iload_n 1, 1) := by decide +kernel
theorem dX1_bear_25 : decode cX1_bear 25 = .ok (.iload_n 2, 1) := by decide +kernel
theorem dX1_bear_26 : decode cX1_bear 26 = .ok (.iastore, 1) := by decide +kernel
theorem dX1_bear_27 : decode cX1_bear 27 = .ok (.aload_n 0, 1) := by decide +kernel
theorem dX1_bear_28 : decode cX1_bear 28 = .ok (.dup, 1) := by decide +kernel
theorem dX1_bear_29 : decode cX1_bear 29 = .ok (.getfield 49, 3) := by decide +kernel
theorem dX1_bear_32 : decode cX1_bear 32 = .ok (.iconst 1, 1) := by decide +kernel
theorem dX1_bear_33 : decode cX1_bear 33 = .ok (.iadd, 1) := by decide +kernel
theorem dX1_bear_34 : decode cX1_bear 34 = .ok (.putfield 49, 3) := by decide +kernel
theorem dX1_bear_37 : decode cX1_bear 37 = .ok (.aload_n 0, 1) := by decide +kernel
theorem dX1_bear_38 : decode cX1_bear 38 = .ok (.getfield 21, 3) := by decide +kernel
theorem dX1_bear_41 : decode cX1_bear 41 = .ok (.iload_n 1, 1) := by decide +kernel
theorem dX1_bear_42 : decode cX1_bear 42 = .ok (.dup2, 1) := by decide +kernel
theorem dX1_bear_43 : decode cX1_bear 43 = .ok (.iaload, 1) := by decide +kernel
theorem dX1_bear_44 : decode cX1_bear 44 = .ok (.iconst 1, 1) := by decide +kernel
theorem dX1_bear_45 : decode cX1_bear 45 = .ok (.iadd, 1) := by decide +kernel
theorem dX1_bear_46 : decode cX1_bear 46 = .ok (.iastore, 1) := by decide +kernel
theorem dX1_bear_47 : decode cX1_bear 47 = .ok (.aload_n 0, 1) := by decide +kernel
theorem dX1_bear_48 : decode cX1_bear 48 = .ok (.getfield 24, 3) := by decide +kernel
theorem dX1_bear_51 : decode cX1_bear 51 = .ok (.iload_n 1, 1) := by decide +kernel
theorem dX1_bear_52 : decode cX1_bear 52 = .ok (.dup2, 1) := by decide +kernel
theorem dX1_bear_53 : decode cX1_bear 53 = .ok (.iaload, 1) := by decide +kernel
theorem dX1_bear_54 : decode cX1_bear 54 = .ok (.iload 4, 2) := by decide +kernel
theorem dX1_bear_56 : decode cX1_bear 56 = .ok (.iadd, 1) := by decide +kernel
theorem dX1_bear_57 : decode cX1_bear 57 = .ok (.iastore, 1) := by decide +kernel
theorem dX1_bear_58 : decode cX1_bear 58 = .ok (.aload_n 0, 1) := by decide +kernel
theorem dX1_bear_59 : decode cX1_bear 59 = .ok (.getfield 27, 3) := by decide +kernel
theorem dX1_bear_62 : decode cX1_bear 62 = .ok (.iload_n 1, 1) := by decide +kernel
theorem dX1_bear_63 : decode cX1_bear 63 = .ok (.dup2, 1) := by decide +kernel
theorem dX1_bear_64 : decode cX1_bear 64 = .ok (.iaload, 1) := by decide +kernel
theorem dX1_bear_65 : decode cX1_bear 65 = .ok (.iload_n 3, 1) := by decide +kernel
theorem dX1_bear_66 : decode cX1_bear 66 = .ok (.iadd, 1) := by decide +kernel
theorem dX1_bear_67 : decode cX1_bear 67 = .ok (.iastore, 1) := by decide +kernel
theorem dX1_bear_68 : decode cX1_bear 68 = .ok (.aload_n 0, 1) := by decide +kernel
theorem dX1_bear_69 : decode cX1_bear 69 = .ok (.dup, 1) := by decide +kernel
theorem dX1_bear_70 : decode cX1_bear 70 = .ok (.getfield 52, 3) := by decide +kernel
theorem dX1_bear_73 : decode cX1_bear 73 = .ok (.iload_n 3, 1) := by decide +kernel
theorem dX1_bear_74 : decode cX1_bear 74 = .ok (.iadd, 1) := by decide +kernel
theorem dX1_bear_75 : decode cX1_bear 75 = .ok (.putfield 52, 3) := by decide +kernel
theorem dX1_bear_78 : decode cX1_bear 78 = .ok (.aload_n 0, 1) := by decide +kernel
theorem dX1_bear_79 : decode cX1_bear 79 = .ok (.iload_n 1, 1) := by decide +kernel
theorem dX1_bear_80 : decode cX1_bear 80 = .ok (.iconst 1, 1) := by decide +kernel
theorem dX1_bear_81 : decode cX1_bear 81 = .ok (.iadd, 1) := by decide +kernel
theorem dX1_bear_82 : decode cX1_bear 82 = .ok (.putfield 46, 3) := by decide +kernel
theorem dX1_bear_85 : decode cX1_bear 85 = .ok (.return_, 1) := by decide +kernel
theorem dX1_isBearing_0 : decode cX1_isBearing 0 = .ok (.iload_n 1, 1) := by decide +kernel
theorem dX1_isBearing_1 : decode cX1_isBearing 1 = .ok (.ifCond .lt 22, 3) := by decide +kernel
theorem dX1_isBearing_4 : decode cX1_isBearing 4 = .ok (.iload_n 1, 1) := by decide +kernel
theorem dX1_isBearing_5 : decode cX1_isBearing 5 = .ok (.bipush 16, 2) := by decide +kernel
theorem dX1_isBearing_7 : decode cX1_isBearing 7 = .ok (.if_icmp .ge 16, 3) := by decide +kernel
theorem dX1_isBearing_10 : decode cX1_isBearing 10 = .ok (.aload_n 0, 1) := by decide +kernel
theorem dX1_isBearing_11 : decode cX1_isBearing 11 = .ok (.getfield 21, 3) := by decide +kernel
theorem dX1_isBearing_14 : decode cX1_isBearing 14 = .ok (.iload_n 1, 1) := by decide +kernel
theorem dX1_isBearing_15 : decode cX1_isBearing 15 = .ok (.iaload, 1) := by decide +kernel
theorem dX1_isBearing_16 : decode cX1_isBearing 16 = .ok (.ifCond .le 7, 3) := by decide +kernel
theorem dX1_isBearing_19 : decode cX1_isBearing 19 = .ok (.iconst 1, 1) := by decide +kernel
theorem dX1_isBearing_20 : decode cX1_isBearing 20 = .ok (.goto 4, 3) := by decide +kernel
theorem dX1_isBearing_23 : decode cX1_isBearing 23 = .ok (.iconst 0, 1) := by decide +kernel
theorem dX1_isBearing_24 : decode cX1_isBearing 24 = .ok (.ireturn, 1) := by decide +kernel
theorem dX1_isOnLeft_0 : decode cX1_isOnLeft 0 = .ok (.iload_n 0, 1) := by decide +kernel
theorem dX1_isOnLeft_1 : decode cX1_isOnLeft 1 = .ok (.iconst 1, 1) := by decide +kernel
theorem dX1_isOnLeft_2 : decode cX1_isOnLeft 2 = .ok (.iand, 1) := by decide +kernel
theorem dX1_isOnLeft_3 : decode cX1_isOnLeft 3 = .ok (.iconst 1, 1) := by decide +kernel
theorem dX1_isOnLeft_4 : decode cX1_isOnLeft 4 = .ok (.if_icmp .ne 7, 3) := by decide +kernel
theorem dX1_isOnLeft_7 : decode cX1_isOnLeft 7 = .ok (.iconst 1, 1) := by decide +kernel
theorem dX1_isOnLeft_8 : decode cX1_isOnLeft 8 = .ok (.goto 4, 3) := by decide +kernel
theorem dX1_isOnLeft_11 : decode cX1_isOnLeft 11 = .ok (.iconst 0, 1) := by decide +kernel
theorem dX1_isOnLeft_12 : decode cX1_isOnLeft 12 = .ok (.ireturn, 1) := by decide +kernel
set_option maxRecDepth 20000 in
theorem ggX1_numberOfPage_X4_read : GoodIn wsX1_numberOfPage wsX4_read := goodIn_r _ [9] (by decide +kernel) (by decide +kernel)
set_option maxRecDepth 20000 in
theorem gX1_numberOfPage_X4_read_n81 : GoodIn wsX1_numberOfPage (wsX4_read) := ggX1_numberOfPage_X4_read
set_option maxRecDepth 20000 in
theorem ggX1_numberOfPage_X1_isBearing : GoodIn wsX1_numberOfPage wsX1_isBearing := goodIn_r _ [14, 1, 15, 16, 17, 18, 19, 20, 21, 22, 23, 24, 25, 26, 27, 28, 29] (by decide +kernel) (by decide +kernel)
set_option maxRecDepth 20000 in
theorem gX1_numberOfPage_X1_isBearing : GoodIn wsX1_numberOfPage (wsV RX1 106 RX1 yX1_isBearing wsX1_isBearing) := goodIn_app (goodIn_of _ (by decide +kernel)) ggX1_numberOfPage_X1_isBearing
theorem dX1_numberOfPage_0 : decode cX1_numberOfPage 0 = .ok (.iload_n 2, 1) := by decide +kernel
theorem dX1_numberOfPage_1 : decode cX1_numberOfPage 1 = .ok (.tableswitch 108 0 4 #[35, 44, 53, 65, 86], 35) := by decide +kernel
theorem dX1_numberOfPage_36 : decode cX1_numberOfPage 36 = .ok (.aload_n 0, 1) := by decide +kernel
theorem dX1_numberOfPage_37 : decode cX1_numberOfPage 37 = .ok (.getfield 21, 3) := by decide +kernel
theorem dX1_numberOfPage_40 : decode cX1_numberOfPage 40 = .ok (.iload_n 1, 1) := by decide +kernel
theorem dX1_numberOfPage_41 : decode cX1_numberOfPage 41 = .ok (.invokestatic 81, 3) := by decide +kernel
theorem dX1_numberOfPage_44 : decode cX1_numberOfPage 44 = .ok (.ireturn, 1) := by decide +kernel
theorem dX1_numberOfPage_45 : decode cX1_numberOfPage 45 = .ok (.aload_n 0, 1) := by decide +kernel
theorem dX1_numberOfPage_46 : decode cX1_numberOfPage 46 = .ok (.getfield 24, 3) := by decide +kernel
theorem dX1_numberOfPage_49 : decode cX1_numberOfPage 49 = .ok (.iload_n 1, 1) := by decide +kernel
theorem dX1_numberOfPage_50 : decode cX1_numberOfPage 50 = .ok (.invokestatic 81, 3) := by decide +kernel
theorem dX1_numberOfPage_53 : decode cX1_numberOfPage 53 = .ok (.ireturn, 1) := by decide +kernel
theorem dX1_numberOfPage_54 : decode cX1_numberOfPage 54 = .ok (.bipush 24, 2) := by decide +kernel
theorem dX1_numberOfPage_56 : decode cX1_numberOfPage 56 = .ok (.aload_n 0, 1) := by decide +kernel
theorem dX1_numberOfPage_57 : decode cX1_numberOfPage 57 = .ok (.getfield 27, 3) := by decide +kernel
theorem dX1_numberOfPage_60 : decode cX1_numberOfPage 60 = .ok (.iload_n 1, 1) := by decide +kernel
theorem dX1_numberOfPage_61 : decode cX1_numberOfPage 61 = .ok (.invokestatic 81, 3) := by decide +kernel
theorem dX1_numberOfPage_64 : decode cX1_numberOfPage 64 = .ok (.isub, 1) := by decide +kernel
theorem dX1_numberOfPage_65 : decode cX1_numberOfPage 65 = .ok (.ireturn, 1) := by decide +kernel
theorem dX1_numberOfPage_66 : decode cX1_numberOfPage 66 = .ok (.aload_n 0, 1) := by decide +kernel
theorem dX1_numberOfPage_67 : decode cX1_numberOfPage 67 = .ok (.iload_n 1, 1) := by decide +kernel
theorem dX1_numberOfPage_68 : decode cX1_numberOfPage 68 = .ok (.invokevirtual 106, 3) := by decide +kernel
theorem dX1_numberOfPage_71 : decode cX1_numberOfPage 71 = .ok (.ifCond .eq 14, 3) := by decide +kernel
theorem dX1_numberOfPage_74 : decode cX1_numberOfPage 74 = .ok (.aload_n 0, 1) := by decide +kernel
theorem dX1_numberOfPage_75 : decode cX1_numberOfPage 75 = .ok (.getfield 30, 3) := by decide +kernel
theorem dX1_numberOfPage_78 : decode cX1_numberOfPage 78 = .ok (.iload_n 1, 1) := by decide +kernel
theorem dX1_numberOfPage_79 : decode cX1_numberOfPage 79 = .ok (.invokestatic 81, 3) := by decide +kernel
theorem dX1_numberOfPage_82 : decode cX1_numberOfPage 82 = .ok (.goto 4, 3) := by decide +kernel
theorem dX1_numberOfPage_85 : decode cX1_numberOfPage 85 = .ok (.iconst (-1), 1) := by decide +kernel
theorem dX1_numberOfPage_86 : decode cX1_numberOfPage 86 = .ok (.ireturn, 1) := by decide +kernel
theorem dX1_numberOfPage_87 : decode cX1_numberOfPage 87 = .ok (.iload_n 1, 1) := by decide +kernel
theorem dX1_numberOfPage_88 : decode cX1_numberOfPage 88 = .ok (.aload_n 0, 1) := by decide +kernel
theorem dX1_numberOfPage_89 : decode cX1_numberOfPage 89 = .ok (.getfield 46, 3) := by decide +kernel
theorem dX1_numberOfPage_92 : decode cX1_numberOfPage 92 = .ok (.if_icmp .ge 15, 3) := by decide +kernel
theorem dX1_numberOfPage_95 : decode cX1_numberOfPage 95 = .ok (.aload_n 0, 1) := by decide +kernel
theorem dX1_numberOfPage_96 : decode cX1_numberOfPage 96 = .ok (.iload_n 1, 1) := by decide +kernel
theorem dX1_numberOfPage_97 : decode cX1_numberOfPage 97 = .ok (.invokevirtual 106, 3) := by decide +kernel
theorem dX1_numberOfPage_100 : decode cX1_numberOfPage 100 = .ok (.ifCond .ne 7, 3) := by decide +kernel
theorem dX1_numberOfPage_103 : decode cX1_numberOfPage 103 = .ok (.iconst 1, 1) := by decide +kernel
theorem dX1_numberOfPage_104 : decode cX1_numberOfPage 104 = .ok (.goto 4, 3) := by decide +kernel
theorem dX1_numberOfPage_107 : decode cX1_numberOfPage 107 = .ok (.iconst 0, 1) := by decide +kernel
theorem dX1_numberOfPage_108 : decode cX1_numberOfPage 108 = .ok (.ireturn, 1) := by decide +kernel
theorem dX1_numberOfPage_109 : decode cX1_numberOfPage 109 = .ok (.aload_n 0, 1) := by decide +kernel
theorem dX1_numberOfPage_110 : decode cX1_numberOfPage 110 = .ok (.getfield 33, 3) := by decide +kernel
theorem dX1_numberOfPage_113 : decode cX1_numberOfPage 113 = .ok (.iload_n 1, 1) := by decide +kernel
theorem dX1_numberOfPage_114 : decode cX1_numberOfPage 114 = .ok (.invokestatic 81, 3) := by decide +kernel
theorem dX1_numberOfPage_117 : decode cX1_numberOfPage 117 = .ok (.ireturn, 1) := by decide +kernel
theorem dX1_emptyUnits_0 : decode cX1_emptyUnits 0 = .ok (.aload_n 0, 1) := by decide +kernel
theorem dX1_emptyUnits_1 : decode cX1_emptyUnits 1 = .ok (.getfield 49, 3) := by decide +kernel
theorem dX1_emptyUnits_4 : decode cX1_emptyUnits 4 = .ok (.bipush 24, 2) := by decide +kernel
theorem dX1_emptyUnits_6 : decode cX1_emptyUnits 6 = .ok (.imul, 1) := by decide +kernel
theorem dX1_emptyUnits_7 : decode cX1_emptyUnits 7 = .ok (.aload_n 0, 1) := by decide +kernel
theorem dX1_emptyUnits_8 : decode cX1_emptyUnits 8 = .ok (.getfield 52, 3) := by decide +kernel
theorem dX1_emptyUnits_11 : decode cX1_emptyUnits 11 = .ok (.isub, 1) := by decide +kernel
theorem dX1_emptyUnits_12 : decode cX1_emptyUnits 12 = .ok (.ireturn, 1) := by decide +kernel
theorem dX1_greatestBeats_0 : decode cX1_greatestBeats 0 = .ok (.iconst 0, 1) := by decide +kernel
theorem dX1_greatestBeats_1 : decode cX1_greatestBeats 1 = .ok (.istore_n 1, 1) := by decide +kernel
theorem dX1_greatestBeats_2 : decode cX1_greatestBeats 2 = .ok (.iconst 0, 1) := by decide +kernel
theorem dX1_greatestBeats_3 : decode cX1_greatestBeats 3 = .ok (.istore_n 2, 1) := by decide +kernel
theorem dX1_greatestBeats_4 : decode cX1_greatestBeats 4 = .ok (.iload_n 2, 1) := by decide +kernel
theorem dX1_greatestBeats_5 : decode cX1_greatestBeats 5 = .ok (.bipush 16, 2) := by decide +kernel
theorem dX1_greatestBeats_7 : decode cX1_greatestBeats 7 = .ok (.if_icmp .ge 20, 3) := by decide +kernel
theorem dX1_greatestBeats_10 : decode cX1_greatestBeats 10 = .ok (.iload_n 1, 1) := by decide +kernel
theorem dX1_greatestBeats_11 : decode cX1_greatestBeats 11 = .ok (.aload_n 0, 1) := by decide +kernel
theorem dX1_greatestBeats_12 : decode cX1_greatestBeats 12 = .ok (.getfield 24, 3) := by decide +kernel
theorem dX1_greatestBeats_15 : decode cX1_greatestBeats 15 = .ok (.iload_n 2, 1) := by decide +kernel
theorem dX1_greatestBeats_16 : decode cX1_greatestBeats 16 = .ok (.iaload, 1) := by decide +kernel
theorem dX1_greatestBeats_17 : decode cX1_greatestBeats 17 = .ok (.invokestatic 123, 3) := by decide +kernel
theorem dX1_greatestBeats_20 : decode cX1_greatestBeats 20 = .ok (.istore_n 1, 1) := by decide +kernel
theorem dX1_greatestBeats_21 : decode cX1_greatestBeats 21 = .ok (.iinc 2 1, 3) := by decide +kernel
theorem dX1_greatestBeats_24 : decode cX1_greatestBeats 24 = .ok (.goto (-20), 3) := by decide +kernel
theorem dX1_greatestBeats_27 : decode cX1_greatestBeats 27 = .ok (.iload_n 1, 1) := by decide +kernel
theorem dX1_greatestBeats_28 : decode cX1_greatestBeats 28 = .ok (.ireturn, 1) := by decide +kernel
theorem dX1_greatestDifference_0 : decode cX1_greatestDifference 0 = .ok (.iconst 0, 1) := by decide +kernel
theorem dX1_greatestDifference_1 : decode cX1_greatestDifference 1 = .ok (.istore_n 1, 1) := by decide +kernel
theorem dX1_greatestDifference_2 : decode cX1_greatestDifference 2 = .ok (.iconst 0, 1) := by decide +kernel
theorem dX1_greatestDifference_3 : decode cX1_greatestDifference 3 = .ok (.istore_n 2, 1) := by decide +kernel
theorem dX1_greatestDifference_4 : decode cX1_greatestDifference 4 = .ok (.iload_n 2, 1) := by decide +kernel
theorem dX1_greatestDifference_5 : decode cX1_greatestDifference 5 = .ok (.iconst 1, 1) := by decide +kernel
theorem dX1_greatestDifference_6 : decode cX1_greatestDifference 6 = .ok (.iadd, 1) := by decide +kernel
theorem dX1_greatestDifference_7 : decode cX1_greatestDifference 7 = .ok (.bipush 16, 2) := by decide +kernel
theorem dX1_greatestDifference_9 : decode cX1_greatestDifference 9 = .ok (.if_icmp .ge 32, 3) := by decide +kernel
theorem dX1_greatestDifference_12 : decode cX1_greatestDifference 12 = .ok (.iload_n 1, 1) := by decide +kernel
theorem dX1_greatestDifference_13 : decode cX1_greatestDifference 13 = .ok (.aload_n 0, 1) := by decide +kernel
theorem dX1_greatestDifference_14 : decode cX1_greatestDifference 14 = .ok (.getfield 24, 3) := by decide +kernel
theorem dX1_greatestDifference_17 : decode cX1_greatestDifference 17 = .ok (.iload_n 2, 1) := by decide +kernel
theorem dX1_greatestDifference_18 : decode cX1_greatestDifference 18 = .ok (.iaload, 1) := by decide +kernel
theorem dX1_greatestDifference_19 : decode cX1_greatestDifference 19 = .ok (.aload_n 0, 1) := by decide +kernel
theorem dX1_greatestDifference_20 : decode cX1_greatestDifference 20 = .ok (.getfield 24, 3) := by decide +kernel
theorem dX1_greatestDifference_23 : decode cX1_greatestDifference 23 = .ok (.iload_n 2, 1) := by decide +kernel
theorem dX1_greatestDifference_24 : decode cX1_greatestDifference 24 = .ok (.iconst 1, 1) := by decide +kernel
theorem dX1_greatestDifference_25 : decode cX1_greatestDifference 25 = .ok (.iadd, 1) := by decide +kernel
theorem dX1_greatestDifference_26 : decode cX1_greatestDifference 26 = .ok (.iaload, 1) := by decide +kernel
theorem dX1_greatestDifference_27 : decode cX1_greatestDifference 27 = .ok (.isub, 1) := by decide +kernel
theorem dX1_greatestDifference_28 : decode cX1_greatestDifference 28 = .ok (.invokestatic 129, 3) := by decide +kernel
theorem dX1_greatestDifference_31 : decode cX1_greatestDifference 31 = .ok (.invokestatic 123, 3) := by decide +kernel
theorem dX1_greatestDifference_34 : decode cX1_greatestDifference 34 = .ok (.istore_n 1, 1) := by decide +kernel
theorem dX1_greatestDifference_35 : decode cX1_greatestDifference 35 = .ok (.iinc 2 2, 3) := by decide +kernel
theorem dX1_greatestDifference_38 : decode cX1_greatestDifference 38 = .ok (.goto (-34), 3) := by decide +kernel
theorem dX1_greatestDifference_41 : decode cX1_greatestDifference 41 = .ok (.iload_n 1, 1) := by decide +kernel
theorem dX1_greatestDifference_42 : decode cX1_greatestDifference 42 = .ok (.ireturn, 1) := by decide +kernel
set_option maxRecDepth 20000 in
theorem ggX1_cost_X1_emptyUnits : GoodIn wsX1_cost wsX1_emptyUnits := goodIn_r _ [7, 8, 9, 10, 11, 12, 13, 14, 15, 16, 17, 18, 19, 20, 21, 22, 23, 24] (by decide +kernel) (by decide +kernel)
set_option maxRecDepth 20000 in
theorem gX1_cost_X1_emptyUnits : GoodIn wsX1_cost (wsV RX1 133 RX1 yX1_emptyUnits wsX1_emptyUnits) := goodIn_app (goodIn_of _ (by decide +kernel)) ggX1_cost_X1_emptyUnits
theorem dX1_cost_0 : decode cX1_cost 0 = .ok (.aload_n 0, 1) := by decide +kernel
theorem dX1_cost_1 : decode cX1_cost 1 = .ok (.getfield 55, 3) := by decide +kernel
theorem dX1_cost_4 : decode cX1_cost 4 = .ok (.bipush 17, 2) := by decide +kernel
theorem dX1_cost_6 : decode cX1_cost 6 = .ok (.imul, 1) := by decide +kernel
theorem dX1_cost_7 : decode cX1_cost 7 = .ok (.aload_n 0, 1) := by decide +kernel
theorem dX1_cost_8 : decode cX1_cost 8 = .ok (.getfield 46, 3) := by decide +kernel
theorem dX1_cost_11 : decode cX1_cost 11 = .ok (.iadd, 1) := by decide +kernel
theorem dX1_cost_12 : decode cX1_cost 12 = .ok (.sipush 385, 3) := by decide +kernel
theorem dX1_cost_15 : decode cX1_cost 15 = .ok (.imul, 1) := by decide +kernel
theorem dX1_cost_16 : decode cX1_cost 16 = .ok (.aload_n 0, 1) := by decide +kernel
theorem dX1_cost_17 : decode cX1_cost 17 = .ok (.invokevirtual 133, 3) := by decide +kernel
theorem dX1_cost_20 : decode cX1_cost 20 = .ok (.iadd, 1) := by decide +kernel
theorem dX1_cost_21 : decode cX1_cost 21 = .ok (.ireturn, 1) := by decide +kernel
theorem dX2_init_0 : decode cX2_init 0 = .ok (.aload_n 0, 1) := by decide +kernel
theorem dX2_init_1 : decode cX2_init 1 = .ok (.invokespecial 3, 3) := by decide +kernel
theorem dX2_init_4 : decode cX2_init 4 = .ok (.aload_n 0, 1) := by decide +kernel
theorem dX2_init_5 : decode cX2_init 5 = .ok (.bipush 24, 2) := by decide +kernel
theorem dX2_init_7 : decode cX2_init 7 = .ok (.newarray .int, 2) := by decide +kernel
theorem dX2_init_9 : decode cX2_init 9 = .ok (.putfield 9, 3) := by decide +kernel
theorem dX2_init_12 : decode cX2_init 12 = .ok (.aload_n 0, 1) := by decide +kernel
theorem dX2_init_13 : decode cX2_init 13 = .ok (.bipush 24, 2) := by decide +kernel
theorem dX2_init_15 : decode cX2_init 15 = .ok (.newarray .int, 2) := by decide +kernel
theorem dX2_init_17 : decode cX2_init 17 = .ok (.putfield 15, 3) := by decide +kernel
theorem dX2_init_20 : decode cX2_init 20 = .ok (.aload_n 0, 1) := by decide +kernel
theorem dX2_init_21 : decode cX2_init 21 = .ok (.bipush 24, 2) := by decide +kernel
theorem dX2_init_23 : decode cX2_init 23 = .ok (.newarray .int, 2) := by decide +kernel
theorem dX2_init_25 : decode cX2_init 25 = .ok (.putfield 18, 3) := by decide +kernel
theorem dX2_init_28 : decode cX2_init 28 = .ok (.aload_n 0, 1) := by decide +kernel
theorem dX2_init_29 : decode cX2_init 29 = .ok (.iconst 0, 1) := by decide +kernel
theorem dX2_init_30 : decode cX2_init 30 = .ok (.putfield 21, 3) := by decide +kernel
theorem dX2_init_33 : decode cX2_init 33 = .ok (.aload_n 0, 1) := by decide +kernel
theorem dX2_init_34 : decode cX2_init 34 = .ok (.bipush 30, 2) := by decide +kernel
theorem dX2_init_36 : decode cX2_init 36 = .ok (.putfield 25, 3) := by decide +kernel
theorem dX2_init_39 : decode cX2_init 39 = .ok (.return_, 1) := by decide +kernel
theorem dX2_has_0 : decode cX2_has 0 = .ok (.iload_n 1, 1) := by decide +kernel
theorem dX2_has_1 : decode cX2_has 1 = .ok (.ifCond .lt 15, 3) := by decide +kernel
theorem dX2_has_4 : decode cX2_has 4 = .ok (.iload_n 1, 1) := by decide +kernel
theorem dX2_has_5 : decode cX2_has 5 = .ok (.aload_n 0, 1) := by decide +kernel
theorem dX2_has_6 : decode cX2_has 6 = .ok (.getfield 21, 3) := by decide +kernel
theorem dX2_has_9 : decode cX2_has 9 = .ok (.if_icmp .ge 7, 3) := by decide +kernel
theorem dX2_has_12 : decode cX2_has 12 = .ok (.iconst 1, 1) := by decide +kernel
theorem dX2_has_13 : decode cX2_has 13 = .ok (.goto 4, 3) := by decide +kernel
theorem dX2_has_16 : decode cX2_has 16 = .ok (.iconst 0, 1) := by decide +kernel
theorem dX2_has_17 : decode cX2_has 17 = .ok (.ireturn, 1) := by decide +kernel
theorem dX2_copyFrom_0 : decode cX2_copyFrom 0 = .ok (.aload_n 1, 1) := by decide +kernel
theorem dX2_copyFrom_1 : decode cX2_copyFrom 1 = .ok (.getfield 9, 3) := by decide +kernel
theorem dX2_copyFrom_4 : decode cX2_copyFrom 4 = .ok (.iconst 0, 1) := by decide +kernel
theorem dX2_copyFrom_5 : decode cX2_copyFrom 5 = .ok (.aload_n 0, 1) := by decide +kernel
theorem dX2_copyFrom_6 : decode cX2_copyFrom 6 = .ok (.getfield 9, 3) := by decide +kernel
theorem dX2_copyFrom_9 : decode cX2_copyFrom 9 = .ok (.iconst 0, 1) := by decide +kernel
theorem dX2_copyFrom_10 : decode cX2_copyFrom 10 = .ok (.bipush 24, 2) := by decide +kernel
theorem dX2_copyFrom_12 : decode cX2_copyFrom 12 = .ok (.invokestatic 28, 3) := by decide +kernel
theorem dX2_copyFrom_15 : decode cX2_copyFrom 15 = .ok (.aload_n 1, 1) := by decide +kernel
theorem dX2_copyFrom_16 : decode cX2_copyFrom 16 = .ok (.getfield 15, 3) := by decide +kernel
theorem dX2_copyFrom_19 : decode cX2_copyFrom 19 = .ok (.iconst 0, 1) := by decide +kernel
theorem dX2_copyFrom_20 : decode cX2_copyFrom 20 = .ok (.aload_n 0, 1) := by decide +kernel
theorem dX2_copyFrom_21 : decode cX2_copyFrom 21 = .ok (.getfield 15, 3) := by decide +kernel
theorem dX2_copyFrom_24 : decode cX2_copyFrom 24 = .ok (.iconst 0, 1) := by decide +kernel
theorem dX2_copyFrom_25 : decode cX2_copyFrom 25 = .ok (.bipush 24, 2) := by decide +kernel
theorem dX2_copyFrom_27 : decode cX2_copyFrom 27 = .ok (.invokestatic 28, 3) := by decide +kernel
theorem dX2_copyFrom_30 : decode cX2_copyFrom 30 = .ok (.aload_n 1, 1) := by decide +kernel
theorem dX2_copyFrom_31 : decode cX2_copyFrom 31 = .ok (.getfield 18, 3) := by decide +kernel
theorem dX2_copyFrom_34 : decode cX2_copyFrom 34 = .ok (.iconst 0, 1) := by decide +kernel
theorem dX2_copyFrom_35 : decode cX2_copyFrom 35 = .ok (.aload_n 0, 1) := by decide +kernel
theorem dX2_copyFrom_36 : decode cX2_copyFrom 36 = .ok (.getfield 18, 3) := by decide +kernel
theorem dX2_copyFrom_39 : decode cX2_copyFrom 39 = .ok (.iconst 0, 1) := by decide +kernel
theorem dX2_copyFrom_40 : decode cX2_copyFrom 40 = .ok (.bipush 24, 2) := by decide +kernel
theorem dX2_copyFrom_42 : decode cX2_copyFrom 42 = .ok (.invokestatic 28, 3) := by decide +kernel
theorem dX2_copyFrom_45 : decode cX2_copyFrom 45 = .ok (.aload_n 0, 1) := by decide +kernel
theorem dX2_copyFrom_46 : decode cX2_copyFrom 46 = .ok (.aload_n 1, 1) := by decide +kernel
theorem dX2_copyFrom_47 : decode cX2_copyFrom 47 = .ok (.getfield 21, 3) := by decide +kernel
theorem dX2_copyFrom_50 : decode cX2_copyFrom 50 = .ok (.putfield 21, 3) := by decide +kernel
theorem dX2_copyFrom_53 : decode cX2_copyFrom 53 = .ok (.aload_n 0, 1) := by decide +kernel
theorem dX2_copyFrom_54 : decode cX2_copyFrom 54 = .ok (.aload_n 1, 1) := by decide +kernel
theorem dX2_copyFrom_55 : decode cX2_copyFrom 55 = .ok (.getfield 25, 3) := by decide +kernel
theorem dX2_copyFrom_58 : decode cX2_copyFrom 58 = .ok (.putfield 25, 3) := by decide +kernel
theorem dX2_copyFrom_61 : decode cX2_copyFrom 61 = .ok (.return_, 1) := by decide +kernel
set_option maxRecDepth 20000 in
theorem ggX2_insert_X2_openGap : GoodIn wsX2_insert wsX2_openGap := goodIn_r _ [8, 9, 10, 11] (by decide +kernel) (by decide +kernel)
set_option maxRecDepth 20000 in
theorem gX2_insert_X2_openGap : GoodIn wsX2_insert (va_wsS RX2 34 yX2_openGap wsX2_openGap) := goodIn_app (goodIn_of _ (by decide +kernel)) ggX2_insert_X2_openGap
theorem dX2_insert_0 : decode cX2_insert 0 = .ok (.aload_n 0, 1) := by decide +kernel
theorem dX2_insert_1 : decode cX2_insert 1 = .ok (.getfield 21, 3) := by decide +kernel
theorem dX2_insert_4 : decode cX2_insert 4 = .ok (.bipush 24, 2) := by decide +kernel
theorem dX2_insert_6 : decode cX2_insert 6 = .ok (.if_icmp .lt 4, 3) := by decide +kernel
theorem dX2_insert_9 : decode cX2_insert 9 = .ok (.return_, 1) := by decide +kernel
theorem dX2_insert_10 : decode cX2_insert 10 = .ok (.aload_n 0, 1) := by decide +kernel
theorem dX2_insert_11 : decode cX2_insert 11 = .ok (.getfield 9, 3) := by decide +kernel
theorem dX2_insert_14 : decode cX2_insert 14 = .ok (.iload_n 1, 1) := by decide +kernel
theorem dX2_insert_15 : decode cX2_insert 15 = .ok (.iload_n 2, 1) := by decide +kernel
theorem dX2_insert_16 : decode cX2_insert 16 = .ok (.invokestatic 34, 3) := by decide +kernel
theorem dX2_insert_19 : decode cX2_insert 19 = .ok (.aload_n 0, 1) := by decide +kernel
theorem dX2_insert_20 : decode cX2_insert 20 = .ok (.getfield 15, 3) := by decide +kernel
theorem dX2_insert_23 : decode cX2_insert 23 = .ok (.iload_n 1, 1) := by decide +kernel
theorem dX2_insert_24 : decode cX2_insert 24 = .ok (.iload_n 3, 1) := by decide +kernel
theorem dX2_insert_25 : decode cX2_insert 25 = .ok (.invokestatic 34, 3) := by decide +kernel
theorem dX2_insert_28 : decode cX2_insert 28 = .ok (.aload_n 0, 1) := by decide +kernel
theorem dX2_insert_29 : decode cX2_insert 29 = .ok (.getfield 18, 3) := by decide +kernel
theorem dX2_insert_32 : decode cX2_insert 32 = .ok (.iload_n 1, 1) := by decide +kernel
theorem dX2_insert_33 : decode cX2_insert 33 = .ok (.iload 4, 2) := by decide +kernel
theorem dX2_insert_35 : decode cX2_insert 35 = .ok (.invokestatic 34, 3) := by decide +kernel
theorem dX2_insert_38 : decode cX2_insert 38 = .ok (.aload_n 0, 1) := by decide +kernel
theorem dX2_insert_39 : decode cX2_insert 39 = .ok (.dup, 1) := by decide +kernel
theorem dX2_insert_40 : decode cX2_insert 40 = .ok (.getfield 21, 3) := by decide +kernel
theorem dX2_insert_43 : decode cX2_insert 43 = .ok (.iconst 1, 1) := by decide +kernel
theorem dX2_insert_44 : decode cX2_insert 44 = .ok (.iadd, 1) := by decide +kernel
theorem dX2_insert_45 : decode cX2_insert 45 = .ok (.putfield 21, 3) := by decide +kernel
theorem dX2_insert_48 : decode cX2_insert 48 = .ok (.return_, 1) := by decide +kernel
set_option maxRecDepth 20000 in
theorem ggX2_remove_X2_has : GoodIn wsX2_remove wsX2_has := goodIn_r _ [9, 4, 13, 14, 15, 16, 17] (by decide +kernel) (by decide +kernel)
set_option maxRecDepth 20000 in
theorem gX2_remove_X2_has : GoodIn wsX2_remove (wsV RX2 38 RX2 yX2_has wsX2_has) := goodIn_app (goodIn_of _ (by decide +kernel)) ggX2_remove_X2_has
set_option maxRecDepth 20000 in
theorem ggX2_remove_X2_closeGap : GoodIn wsX2_remove wsX2_closeGap := goodIn_r _ [12] (by decide +kernel) (by decide +kernel)
set_option maxRecDepth 20000 in
theorem gX2_remove_X2_closeGap : GoodIn wsX2_remove (va_wsS RX2 42 yX2_closeGap wsX2_closeGap) := goodIn_app (goodIn_of _ (by decide +kernel)) ggX2_remove_X2_closeGap
theorem dX2_remove_0 : decode cX2_remove 0 = .ok (.aload_n 0, 1) := by decide +kernel
theorem dX2_remove_1 : decode cX2_remove 1 = .ok (.iload_n 1, 1) := by decide +kernel
theorem dX2_remove_2 : decode cX2_remove 2 = .ok (.invokevirtual 38, 3) := by decide +kernel
theorem dX2_remove_5 : decode cX2_remove 5 = .ok (.ifCond .ne 4, 3) := by decide +kernel
theorem dX2_remove_8 : decode cX2_remove 8 = .ok (.return_, 1) := by decide +kernel
theorem dX2_remove_9 : decode cX2_remove 9 = .ok (.aload_n 0, 1) := by decide +kernel
theorem dX2_remove_10 : decode cX2_remove 10 = .ok (.getfield 9, 3) := by decide +kernel
theorem dX2_remove_13 : decode cX2_remove 13 = .ok (.iload_n 1, 1) := by decide +kernel
theorem dX2_remove_14 : decode cX2_remove 14 = .ok (.invokestatic 42, 3) := by decide +kernel
theorem dX2_remove_17 : decode cX2_remove 17 = .ok (.aload_n 0, 1) := by decide +kernel
theorem dX2_remove_18 : decode cX2_remove 18 = .ok (.getfield 15, 3) := by decide +kernel
theorem dX2_remove_21 : decode cX2_remove 21 = .ok (.iload_n 1, 1) := by decide +kernel
theorem dX2_remove_22 : decode cX2_remove 22 = .ok (.invokestatic 42, 3) := by decide +kernel
theorem dX2_remove_25 : decode cX2_remove 25 = .ok (.aload_n 0, 1) := by decide +kernel
theorem dX2_remove_26 : decode cX2_remove 26 = .ok (.getfield 18, 3) := by decide +kernel
theorem dX2_remove_29 : decode cX2_remove 29 = .ok (.iload_n 1, 1) := by decide +kernel
theorem dX2_remove_30 : decode cX2_remove 30 = .ok (.invokestatic 42, 3) := by decide +kernel
theorem dX2_remove_33 : decode cX2_remove 33 = .ok (.aload_n 0, 1) := by decide +kernel
theorem dX2_remove_34 : decode cX2_remove 34 = .ok (.dup, 1) := by decide +kernel
theorem dX2_remove_35 : decode cX2_remove 35 = .ok (.getfield 21, 3) := by decide +kernel
theorem dX2_remove_38 : decode cX2_remove 38 = .ok (.iconst 1, 1) := by decide +kernel
theorem dX2_remove_39 : decode cX2_remove 39 = .ok (.isub, 1) := by decide +kernel
theorem dX2_remove_40 : decode cX2_remove 40 = .ok (.putfield 21, 3) := by decide +kernel
theorem dX2_remove_43 : decode cX2_remove 43 = .ok (.return_, 1) := by decide +kernel
set_option maxRecDepth 20000 in
theorem ggX2_exchangeWithNext_X2_exchangeInRow : GoodIn wsX2_exchangeWithNext wsX2_exchangeInRow := goodIn_r _ [7, 8, 9, 10, 11, 12] (by decide +kernel) (by decide +kernel)
set_option maxRecDepth 20000 in
theorem gX2_exchangeWithNext_X2_exchangeInRow : GoodIn wsX2_exchangeWithNext (va_wsS RX2 46 yX2_exchangeInRow wsX2_exchangeInRow) := goodIn_app (goodIn_of _ (by decide +kernel)) ggX2_exchangeWithNext_X2_exchangeInRow
theorem dX2_exchangeWithNext_0 : decode cX2_exchangeWithNext 0 = .ok (.aload_n 0, 1) := by decide +kernel
theorem dX2_exchangeWithNext_1 : decode cX2_exchangeWithNext 1 = .ok (.getfield 9, 3) := by decide +kernel
theorem dX2_exchangeWithNext_4 : decode cX2_exchangeWithNext 4 = .ok (.iload_n 1, 1) := by decide +kernel
theorem dX2_exchangeWithNext_5 : decode cX2_exchangeWithNext 5 = .ok (.invokestatic 46, 3) := by decide +kernel
theorem dX2_exchangeWithNext_8 : decode cX2_exchangeWithNext 8 = .ok (.aload_n 0, 1) := by decide +kernel
theorem dX2_exchangeWithNext_9 : decode cX2_exchangeWithNext 9 = .ok (.getfield 15, 3) := by decide +kernel
theorem dX2_exchangeWithNext_12 : decode cX2_exchangeWithNext 12 = .ok (.iload_n 1, 1) := by decide +kernel
theorem dX2_exchangeWithNext_13 : decode cX2_exchangeWithNext 13 = .ok (.invokestatic 46, 3) := by decide +kernel
theorem dX2_exchangeWithNext_16 : decode cX2_exchangeWithNext 16 = .ok (.aload_n 0, 1) := by decide +kernel
theorem dX2_exchangeWithNext_17 : decode cX2_exchangeWithNext 17 = .ok (.getfield 18, 3) := by decide +kernel
theorem dX2_exchangeWithNext_20 : decode cX2_exchangeWithNext 20 = .ok (.iload_n 1, 1) := by decide +kernel
theorem dX2_exchangeWithNext_21 : decode cX2_exchangeWithNext 21 = .ok (.invokestatic 46, 3) := by decide +kernel
theorem dX2_exchangeWithNext_24 : decode cX2_exchangeWithNext 24 = .ok (.return_, 1) := by decide +kernel
set_option maxRecDepth 20000 in
theorem ggX2_openGap_X4_write : GoodIn wsX2_openGap wsX4_write := goodIn_r _ [3] (by decide +kernel) (by decide +kernel)
set_option maxRecDepth 20000 in
theorem gX2_openGap_X4_write_n49 : GoodIn wsX2_openGap (wsX4_write) := ggX2_openGap_X4_write
theorem dX2_openGap_0 : decode cX2_openGap 0 = .ok (.aload_n 0, 1) := by decide +kernel
theorem dX2_openGap_1 : decode cX2_openGap 1 = .ok (.arraylength, 1) := by decide +kernel
theorem dX2_openGap_2 : decode cX2_openGap 2 = .ok (.iconst 1, 1) := by decide +kernel
theorem dX2_openGap_3 : decode cX2_openGap 3 = .ok (.isub, 1) := by decide +kernel
theorem dX2_openGap_4 : decode cX2_openGap 4 = .ok (.istore_n 3, 1) := by decide +kernel
theorem dX2_openGap_5 : decode cX2_openGap 5 = .ok (.iload_n 3, 1) := by decide +kernel
theorem dX2_openGap_6 : decode cX2_openGap 6 = .ok (.iload_n 1, 1) := by decide +kernel
theorem dX2_openGap_7 : decode cX2_openGap 7 = .ok (.if_icmp .le 21, 3) := by decide +kernel
theorem dX2_openGap_10 : decode cX2_openGap 10 = .ok (.iload_n 3, 1) := by decide +kernel
theorem dX2_openGap_11 : decode cX2_openGap 11 = .ok (.ifCond .le 17, 3) := by decide +kernel
theorem dX2_openGap_14 : decode cX2_openGap 14 = .ok (.aload_n 0, 1) := by decide +kernel
theorem dX2_openGap_15 : decode cX2_openGap 15 = .ok (.iload_n 3, 1) := by decide +kernel
theorem dX2_openGap_16 : decode cX2_openGap 16 = .ok (.aload_n 0, 1) := by decide +kernel
theorem dX2_openGap_17 : decode cX2_openGap 17 = .ok (.iload_n 3, 1) := by decide +kernel
theorem dX2_openGap_18 : decode cX2_openGap 18 = .ok (.iconst 1, 1) := by decide +kernel
theorem dX2_openGap_19 : decode cX2_openGap 19 = .ok (.isub, 1) := by decide +kernel
theorem dX2_openGap_20 : decode cX2_openGap 20 = .ok (.iaload, 1) := by decide +kernel
theorem dX2_openGap_21 : decode cX2_openGap 21 = .ok (.iastore, 1) := by decide +kernel
theorem dX2_openGap_22 : decode cX2_openGap 22 = .ok (.iinc 3 (-1), 3) := by decide +kernel
theorem dX2_openGap_25 : decode cX2_openGap 25 = .ok (.goto (-20), 3) := by decide +kernel
theorem dX2_openGap_28 : decode cX2_openGap 28 = .ok (.aload_n 0, 1) := by decide +kernel
theorem dX2_openGap_29 : decode cX2_openGap 29 = .ok (.iload_n 1, 1) := by decide +kernel
theorem dX2_openGap_30 : decode cX2_openGap 30 = .ok (.iload_n 2, 1) := by decide +kernel
theorem dX2_openGap_31 : decode cX2_openGap 31 = .ok (.invokestatic 49, 3) := by decide +kernel
theorem dX2_openGap_34 : decode cX2_openGap 34 = .ok (.return_, 1) := by decide +kernel
theorem dX2_closeGap_0 : decode cX2_closeGap 0 = .ok (.iload_n 1, 1) := by decide +kernel
theorem dX2_closeGap_1 : decode cX2_closeGap 1 = .ok (.ifCond .ge 4, 3) := by decide +kernel
theorem dX2_closeGap_4 : decode cX2_closeGap 4 = .ok (.return_, 1) := by decide +kernel
theorem dX2_closeGap_5 : decode cX2_closeGap 5 = .ok (.iload_n 1, 1) := by decide +kernel
theorem dX2_closeGap_6 : decode cX2_closeGap 6 = .ok (.istore_n 2, 1) := by decide +kernel
theorem dX2_closeGap_7 : decode cX2_closeGap 7 = .ok (.iload_n 2, 1) := by decide +kernel
theorem dX2_closeGap_8 : decode cX2_closeGap 8 = .ok (.aload_n 0, 1) := by decide +kernel
theorem dX2_closeGap_9 : decode cX2_closeGap 9 = .ok (.arraylength, 1) := by decide +kernel
theorem dX2_closeGap_10 : decode cX2_closeGap 10 = .ok (.iconst 1, 1) := by decide +kernel
theorem dX2_closeGap_11 : decode cX2_closeGap 11 = .ok (.isub, 1) := by decide +kernel
theorem dX2_closeGap_12 : decode cX2_closeGap 12 = .ok (.if_icmp .ge 17, 3) := by decide +kernel
theorem dX2_closeGap_15 : decode cX2_closeGap 15 = .ok (.aload_n 0, 1) := by decide +kernel
theorem dX2_closeGap_16 : decode cX2_closeGap 16 = .ok (.iload_n 2, 1) := by decide +kernel
theorem dX2_closeGap_17 : decode cX2_closeGap 17 = .ok (.aload_n 0, 1) := by decide +kernel
theorem dX2_closeGap_18 : decode cX2_closeGap 18 = .ok (.iload_n 2, 1) := by decide +kernel
theorem dX2_closeGap_19 : decode cX2_closeGap 19 = .ok (.iconst 1, 1) := by decide +kernel
theorem dX2_closeGap_20 : decode cX2_closeGap 20 = .ok (.iadd, 1) := by decide +kernel
theorem dX2_closeGap_21 : decode cX2_closeGap 21 = .ok (.iaload, 1) := by decide +kernel
theorem dX2_closeGap_22 : decode cX2_closeGap 22 = .ok (.iastore, 1) := by decide +kernel
theorem dX2_closeGap_23 : decode cX2_closeGap 23 = .ok (.iinc 2 1, 3) := by decide +kernel
theorem dX2_closeGap_26 : decode cX2_closeGap 26 = .ok (.goto (-19), 3) := by decide +kernel
theorem dX2_closeGap_29 : decode cX2_closeGap 29 = .ok (.return_, 1) := by decide +kernel
set_option maxRecDepth 20000 in
theorem ggX2_exchangeInRow_X4_read : GoodIn wsX2_exchangeInRow wsX4_read := goodIn_r _ [3] (by decide +kernel) (by decide +kernel)
set_option maxRecDepth 20000 in
theorem gX2_exchangeInRow_X4_read_n52 : GoodIn wsX2_exchangeInRow (wsX4_read) := ggX2_exchangeInRow_X4_read
set_option maxRecDepth 20000 in
theorem ggX2_exchangeInRow_X4_write : GoodIn wsX2_exchangeInRow wsX4_write := goodIn_r _ [5] (by decide +kernel) (by decide +kernel)
set_option maxRecDepth 20000 in
theorem gX2_exchangeInRow_X4_write_n49 : GoodIn wsX2_exchangeInRow (wsX4_write) := ggX2_exchangeInRow_X4_write
theorem dX2_exchangeInRow_0 : decode cX2_exchangeInRow 0 = .ok (.aload_n 0, 1) := by decide +kernel
theorem dX2_exchangeInRow_1 : decode cX2_exchangeInRow 1 = .ok (.iload_n 1, 1) := by decide +kernel
theorem dX2_exchangeInRow_2 : decode cX2_exchangeInRow 2 = .ok (.invokestatic 52, 3) := by decide +kernel
theorem dX2_exchangeInRow_5 : decode cX2_exchangeInRow 5 = .ok (.istore_n 2, 1) := by decide +kernel
theorem dX2_exchangeInRow_6 : decode cX2_exchangeInRow 6 = .ok (.aload_n 0, 1) := by decide +kernel
theorem dX2_exchangeInRow_7 : decode cX2_exchangeInRow 7 = .ok (.iload_n 1, 1) := by decide +kernel
theorem dX2_exchangeInRow_8 : decode cX2_exchangeInRow 8 = .ok (.aload_n 0, 1) := by decide +kernel
theorem dX2_exchangeInRow_9 : decode cX2_exchangeInRow 9 = .ok (.iload_n 1, 1) := by decide +kernel
theorem dX2_exchangeInRow_10 : decode cX2_exchangeInRow 10 = .ok (.iconst 1, 1) := by decide +kernel
theorem dX2_exchangeInRow_11 : decode cX2_exchangeInRow 11 = .ok (.iadd, 1) := by decide +kernel
theorem dX2_exchangeInRow_12 : decode cX2_exchangeInRow 12 = .ok (.invokestatic 52, 3) := by decide +kernel
theorem dX2_exchangeInRow_15 : decode cX2_exchangeInRow 15 = .ok (.invokestatic 49, 3) := by decide +kernel
theorem dX2_exchangeInRow_18 : decode cX2_exchangeInRow 18 = .ok (.aload_n 0, 1) := by decide +kernel
theorem dX2_exchangeInRow_19 : decode cX2_exchangeInRow 19 = .ok (.iload_n 1, 1) := by decide +kernel
theorem dX2_exchangeInRow_20 : decode cX2_exchangeInRow 20 = .ok (.iconst 1, 1) := by decide +kernel
theorem dX2_exchangeInRow_21 : decode cX2_exchangeInRow 21 = .ok (.iadd, 1) := by decide +kernel
theorem dX2_exchangeInRow_22 : decode cX2_exchangeInRow 22 = .ok (.iload_n 2, 1) := by decide +kernel
theorem dX2_exchangeInRow_23 : decode cX2_exchangeInRow 23 = .ok (.invokestatic 49, 3) := by decide +kernel
theorem dX2_exchangeInRow_26 : decode cX2_exchangeInRow 26 = .ok (.return_, 1) := by decide +kernel
theorem dX3_init_0 : decode cX3_init 0 = .ok (.aload_n 0, 1) := by decide +kernel
theorem dX3_init_1 : decode cX3_init 1 = .ok (.invokespecial 3, 3) := by decide +kernel
theorem dX3_init_4 : decode cX3_init 4 = .ok (.aload_n 0, 1) := by decide +kernel
theorem dX3_init_5 : decode cX3_init 5 = .ok (.bipush 60, 2) := by decide +kernel
theorem dX3_init_7 : decode cX3_init 7 = .ok (.newarray .int, 2) := by decide +kernel
theorem dX3_init_9 : decode cX3_init 9 = .ok (.putfield 9, 3) := by decide +kernel
theorem dX3_init_12 : decode cX3_init 12 = .ok (.aload_n 0, 1) := by decide +kernel
theorem dX3_init_13 : decode cX3_init 13 = .ok (.iconst 0, 1) := by decide +kernel
theorem dX3_init_14 : decode cX3_init 14 = .ok (.putfield 15, 3) := by decide +kernel
theorem dX3_init_17 : decode cX3_init 17 = .ok (.return_, 1) := by decide +kernel
theorem dX3_add_0 : decode cX3_add 0 = .ok (.aload_n 0, 1) := by decide +kernel
theorem dX3_add_1 : decode cX3_add 1 = .ok (.getfield 15, 3) := by decide +kernel
theorem dX3_add_4 : decode cX3_add 4 = .ok (.ifCond .lt 32, 3) := by decide +kernel
theorem dX3_add_7 : decode cX3_add 7 = .ok (.aload_n 0, 1) := by decide +kernel
theorem dX3_add_8 : decode cX3_add 8 = .ok (.getfield 15, 3) := by decide +kernel
theorem dX3_add_11 : decode cX3_add 11 = .ok (.bipush 60, 2) := by decide +kernel
theorem dX3_add_13 : decode cX3_add 13 = .ok (.if_icmp .ge 23, 3) := by decide +kernel
theorem dX3_add_16 : decode cX3_add 16 = .ok (.aload_n 0, 1) := by decide +kernel
theorem dX3_add_17 : decode cX3_add 17 = .ok (.getfield 9, 3) := by decide +kernel
theorem dX3_add_20 : decode cX3_add 20 = .ok (.aload_n 0, 1) := by decide +kernel
theorem dX3_add_21 : decode cX3_add 21 = .ok (.getfield 15, 3) := by decide +kernel
theorem dX3_add_24 : decode cX3_add 24 = .ok (.iload_n 1, 1) := by decide +kernel
theorem dX3_add_25 : decode cX3_add 25 = .ok (.iastore, 1) := by decide +kernel
theorem dX3_add_26 : decode cX3_add 26 = .ok (.aload_n 0, 1) := by decide +kernel
theorem dX3_add_27 : decode cX3_add 27 = .ok (.dup, 1) := by decide +kernel
theorem dX3_add_28 : decode cX3_add 28 = .ok (.getfield 15, 3) := by decide +kernel
theorem dX3_add_31 : decode cX3_add 31 = .ok (.iconst 1, 1) := by decide +kernel
theorem dX3_add_32 : decode cX3_add 32 = .ok (.iadd, 1) := by decide +kernel
theorem dX3_add_33 : decode cX3_add 33 = .ok (.putfield 15, 3) := by decide +kernel
theorem dX3_add_36 : decode cX3_add 36 = .ok (.return_, 1) := by decide +kernel
set_option maxRecDepth 20000 in
theorem ggX3_indexOfError_X4_read : GoodIn wsX3_indexOfError wsX4_read := goodIn_r _ [5] (by decide +kernel) (by decide +kernel)
set_option maxRecDepth 20000 in
theorem gX3_indexOfError_X4_read_n19 : GoodIn wsX3_indexOfError (wsX4_read) := ggX3_indexOfError_X4_read
set_option maxRecDepth 20000 in
theorem ggX3_indexOfError_X3_awaitedBehind : GoodIn wsX3_indexOfError wsX3_awaitedBehind := goodIn_r _ [9, 10, 11, 8, 12, 13, 14, 15, 16, 4, 17] (by decide +kernel) (by decide +kernel)
set_option maxRecDepth 20000 in
theorem gX3_indexOfError_X3_awaitedBehind : GoodIn wsX3_indexOfError (va_wsS RX3 23 yX3_awaitedBehind wsX3_awaitedBehind) := goodIn_app (goodIn_of _ (by decide +kernel)) ggX3_indexOfError_X3_awaitedBehind
theorem dX3_indexOfError_0 : decode cX3_indexOfError 0 = .ok (.iconst 0, 1) := by decide +kernel
theorem dX3_indexOfError_1 : decode cX3_indexOfError 1 = .ok (.istore_n 1, 1) := by decide +kernel
theorem dX3_indexOfError_2 : decode cX3_indexOfError 2 = .ok (.iconst 0, 1) := by decide +kernel
theorem dX3_indexOfError_3 : decode cX3_indexOfError 3 = .ok (.istore_n 2, 1) := by decide +kernel
theorem dX3_indexOfError_4 : decode cX3_indexOfError 4 = .ok (.iload_n 2, 1) := by decide +kernel
theorem dX3_indexOfError_5 : decode cX3_indexOfError 5 = .ok (.aload_n 0, 1) := by decide +kernel
theorem dX3_indexOfError_6 : decode cX3_indexOfError 6 = .ok (.getfield 15, 3) := by decide +kernel
theorem dX3_indexOfError_9 : decode cX3_indexOfError 9 = .ok (.if_icmp .ge 29, 3) := by decide +kernel
theorem dX3_indexOfError_12 : decode cX3_indexOfError 12 = .ok (.iload_n 1, 1) := by decide +kernel
theorem dX3_indexOfError_13 : decode cX3_indexOfError 13 = .ok (.aload_n 0, 1) := by decide +kernel
theorem dX3_indexOfError_14 : decode cX3_indexOfError 14 = .ok (.getfield 9, 3) := by decide +kernel
theorem dX3_indexOfError_17 : decode cX3_indexOfError 17 = .ok (.iload_n 2, 1) := by decide +kernel
theorem dX3_indexOfError_18 : decode cX3_indexOfError 18 = .ok (.invokestatic 19, 3) := by decide +kernel
theorem dX3_indexOfError_21 : decode cX3_indexOfError 21 = .ok (.invokestatic 23, 3) := by decide +kernel
theorem dX3_indexOfError_24 : decode cX3_indexOfError 24 = .ok (.istore_n 1, 1) := by decide +kernel
theorem dX3_indexOfError_25 : decode cX3_indexOfError 25 = .ok (.iload_n 1, 1) := by decide +kernel
theorem dX3_indexOfError_26 : decode cX3_indexOfError 26 = .ok (.iconst (-1), 1) := by decide +kernel
theorem dX3_indexOfError_27 : decode cX3_indexOfError 27 = .ok (.if_icmp .ne 5, 3) := by decide +kernel
theorem dX3_indexOfError_30 : decode cX3_indexOfError 30 = .ok (.iload_n 2, 1) := by decide +kernel
theorem dX3_indexOfError_31 : decode cX3_indexOfError 31 = .ok (.ireturn, 1) := by decide +kernel
theorem dX3_indexOfError_32 : decode cX3_indexOfError 32 = .ok (.iinc 2 1, 3) := by decide +kernel
theorem dX3_indexOfError_35 : decode cX3_indexOfError 35 = .ok (.goto (-31), 3) := by decide +kernel
theorem dX3_indexOfError_38 : decode cX3_indexOfError 38 = .ok (.aload_n 0, 1) := by decide +kernel
theorem dX3_indexOfError_39 : decode cX3_indexOfError 39 = .ok (.getfield 15, 3) := by decide +kernel
theorem dX3_indexOfError_42 : decode cX3_indexOfError 42 = .ok (.ireturn, 1) := by decide +kernel
set_option maxRecDepth 20000 in
theorem ggX3_isWhole_X4_read : GoodIn wsX3_isWhole wsX4_read := goodIn_r _ [5] (by decide +kernel) (by decide +kernel)
set_option maxRecDepth 20000 in
theorem gX3_isWhole_X4_read_n19 : GoodIn wsX3_isWhole (wsX4_read) := ggX3_isWhole_X4_read
set_option maxRecDepth 20000 in
theorem ggX3_isWhole_X3_awaitedBehind : GoodIn wsX3_isWhole wsX3_awaitedBehind := goodIn_r _ [9, 10, 11, 8, 12, 13, 14, 15, 16, 4, 17] (by decide +kernel) (by decide +kernel)
set_option maxRecDepth 20000 in
theorem gX3_isWhole_X3_awaitedBehind : GoodIn wsX3_isWhole (va_wsS RX3 23 yX3_awaitedBehind wsX3_awaitedBehind) := goodIn_app (goodIn_of _ (by decide +kernel)) ggX3_isWhole_X3_awaitedBehind
theorem dX3_isWhole_0 : decode cX3_isWhole 0 = .ok (.iconst 0, 1) := by decide +kernel
theorem dX3_isWhole_1 : decode cX3_isWhole 1 = .ok (.istore_n 1, 1) := by decide +kernel
theorem dX3_isWhole_2 : decode cX3_isWhole 2 = .ok (.iconst 0, 1) := by decide +kernel
theorem dX3_isWhole_3 : decode cX3_isWhole 3 = .ok (.istore_n 2, 1) := by decide +kernel
theorem dX3_isWhole_4 : decode cX3_isWhole 4 = .ok (.iload_n 2, 1) := by decide +kernel
theorem dX3_isWhole_5 : decode cX3_isWhole 5 = .ok (.aload_n 0, 1) := by decide +kernel
theorem dX3_isWhole_6 : decode cX3_isWhole 6 = .ok (.getfield 15, 3) := by decide +kernel
theorem dX3_isWhole_9 : decode cX3_isWhole 9 = .ok (.if_icmp .ge 22, 3) := by decide +kernel
theorem dX3_isWhole_12 : decode cX3_isWhole 12 = .ok (.iload_n 1, 1) := by decide +kernel
theorem dX3_isWhole_13 : decode cX3_isWhole 13 = .ok (.aload_n 0, 1) := by decide +kernel
theorem dX3_isWhole_14 : decode cX3_isWhole 14 = .ok (.getfield 9, 3) := by decide +kernel
theorem dX3_isWhole_17 : decode cX3_isWhole 17 = .ok (.iload_n 2, 1) := by decide +kernel
theorem dX3_isWhole_18 : decode cX3_isWhole 18 = .ok (.invokestatic 19, 3) := by decide +kernel
theorem dX3_isWhole_21 : decode cX3_isWhole 21 = .ok (.invokestatic 23, 3) := by decide +kernel
theorem dX3_isWhole_24 : decode cX3_isWhole 24 = .ok (.istore_n 1, 1) := by decide +kernel
theorem dX3_isWhole_25 : decode cX3_isWhole 25 = .ok (.iinc 2 1, 3) := by decide +kernel
theorem dX3_isWhole_28 : decode cX3_isWhole 28 = .ok (.goto (-24), 3) := by decide +kernel
theorem dX3_isWhole_31 : decode cX3_isWhole 31 = .ok (.aload_n 0, 1) := by decide +kernel
theorem dX3_isWhole_32 : decode cX3_isWhole 32 = .ok (.getfield 15, 3) := by decide +kernel
theorem dX3_isWhole_35 : decode cX3_isWhole 35 = .ok (.ifCond .le 11, 3) := by decide +kernel
theorem dX3_isWhole_38 : decode cX3_isWhole 38 = .ok (.iload_n 1, 1) := by decide +kernel
theorem dX3_isWhole_39 : decode cX3_isWhole 39 = .ok (.ifCond .ne 7, 3) := by decide +kernel
theorem dX3_isWhole_42 : decode cX3_isWhole 42 = .ok (.iconst 1, 1) := by decide +kernel
theorem dX3_isWhole_43 : decode cX3_isWhole 43 = .ok (.goto 4, 3) := by decide +kernel
theorem dX3_isWhole_46 : decode cX3_isWhole 46 = .ok (.iconst 0, 1) := by decide +kernel
theorem dX3_isWhole_47 : decode cX3_isWhole 47 = .ok (.ireturn, 1) := by decide +kernel
set_option maxRecDepth 20000 in
theorem ggX3_awaitedBehind_X3_kindOf : GoodIn wsX3_awaitedBehind wsX3_kindOf := goodIn_r _ [4] (by decide +kernel) (by decide +kernel)
set_option maxRecDepth 20000 in
theorem gX3_awaitedBehind_X3_kindOf : GoodIn wsX3_awaitedBehind (va_wsS RX3 27 yX3_kindOf wsX3_kindOf) := goodIn_app (goodIn_of _ (by decide +kernel)) ggX3_awaitedBehind_X3_kindOf
set_option maxRecDepth 20000 in
theorem ggX3_awaitedBehind_X3_awaitedBehindKind : GoodIn wsX3_awaitedBehind wsX3_awaitedBehindKind := goodIn_r _ [7] (by decide +kernel) (by decide +kernel)
set_option maxRecDepth 20000 in
theorem gX3_awaitedBehind_X3_awaitedBehindKind : GoodIn wsX3_awaitedBehind (va_wsS RX3 31 yX3_awaitedBehindKind wsX3_awaitedBehindKind) := goodIn_app (goodIn_of _ (by decide +kernel)) ggX3_awaitedBehind_X3_awaitedBehindKind
set_option maxRecDepth 20000 in
theorem ggX3_awaitedBehind_X4_isWithin : GoodIn wsX3_awaitedBehind wsX4_isWithin := goodIn_r _ [10] (by decide +kernel) (by decide +kernel)
set_option maxRecDepth 20000 in
theorem gX3_awaitedBehind_X4_isWithin_n34 : GoodIn wsX3_awaitedBehind (wsX4_isWithin) := ggX3_awaitedBehind_X4_isWithin
theorem dX3_awaitedBehind_0 : decode cX3_awaitedBehind 0 = .ok (.iload_n 0, 1) := by decide +kernel
theorem dX3_awaitedBehind_1 : decode cX3_awaitedBehind 1 = .ok (.tableswitch 73 0 2 #[27, 35, 54], 27) := by decide +kernel
theorem dX3_awaitedBehind_28 : decode cX3_awaitedBehind 28 = .ok (.iload_n 1, 1) := by decide +kernel
theorem dX3_awaitedBehind_29 : decode cX3_awaitedBehind 29 = .ok (.invokestatic 27, 3) := by decide +kernel
theorem dX3_awaitedBehind_32 : decode cX3_awaitedBehind 32 = .ok (.invokestatic 31, 3) := by decide +kernel
theorem dX3_awaitedBehind_35 : decode cX3_awaitedBehind 35 = .ok (.ireturn, 1) := by decide +kernel
theorem dX3_awaitedBehind_36 : decode cX3_awaitedBehind 36 = .ok (.iload_n 1, 1) := by decide +kernel
theorem dX3_awaitedBehind_37 : decode cX3_awaitedBehind 37 = .ok (.bipush 48, 2) := by decide +kernel
theorem dX3_awaitedBehind_39 : decode cX3_awaitedBehind 39 = .ok (.isub, 1) := by decide +kernel
theorem dX3_awaitedBehind_40 : decode cX3_awaitedBehind 40 = .ok (.iconst 1, 1) := by decide +kernel
theorem dX3_awaitedBehind_41 : decode cX3_awaitedBehind 41 = .ok (.bipush 6, 2) := by decide +kernel
theorem dX3_awaitedBehind_43 : decode cX3_awaitedBehind 43 = .ok (.invokestatic 34, 3) := by decide +kernel
theorem dX3_awaitedBehind_46 : decode cX3_awaitedBehind 46 = .ok (.ifCond .eq 7, 3) := by decide +kernel
theorem dX3_awaitedBehind_49 : decode cX3_awaitedBehind 49 = .ok (.iconst 2, 1) := by decide +kernel
theorem dX3_awaitedBehind_50 : decode cX3_awaitedBehind 50 = .ok (.goto 4, 3) := by decide +kernel
theorem dX3_awaitedBehind_53 : decode cX3_awaitedBehind 53 = .ok (.iconst (-1), 1) := by decide +kernel
theorem dX3_awaitedBehind_54 : decode cX3_awaitedBehind 54 = .ok (.ireturn, 1) := by decide +kernel
theorem dX3_awaitedBehind_55 : decode cX3_awaitedBehind 55 = .ok (.iload_n 1, 1) := by decide +kernel
theorem dX3_awaitedBehind_56 : decode cX3_awaitedBehind 56 = .ok (.bipush 48, 2) := by decide +kernel
theorem dX3_awaitedBehind_58 : decode cX3_awaitedBehind 58 = .ok (.isub, 1) := by decide +kernel
theorem dX3_awaitedBehind_59 : decode cX3_awaitedBehind 59 = .ok (.iconst 1, 1) := by decide +kernel
theorem dX3_awaitedBehind_60 : decode cX3_awaitedBehind 60 = .ok (.bipush 9, 2) := by decide +kernel
theorem dX3_awaitedBehind_62 : decode cX3_awaitedBehind 62 = .ok (.invokestatic 34, 3) := by decide +kernel
theorem dX3_awaitedBehind_65 : decode cX3_awaitedBehind 65 = .ok (.ifCond .eq 7, 3) := by decide +kernel
theorem dX3_awaitedBehind_68 : decode cX3_awaitedBehind 68 = .ok (.iconst 0, 1) := by decide +kernel
theorem dX3_awaitedBehind_69 : decode cX3_awaitedBehind 69 = .ok (.goto 4, 3) := by decide +kernel
theorem dX3_awaitedBehind_72 : decode cX3_awaitedBehind 72 = .ok (.iconst (-1), 1) := by decide +kernel
theorem dX3_awaitedBehind_73 : decode cX3_awaitedBehind 73 = .ok (.ireturn, 1) := by decide +kernel
theorem dX3_awaitedBehind_74 : decode cX3_awaitedBehind 74 = .ok (.iconst (-1), 1) := by decide +kernel
theorem dX3_awaitedBehind_75 : decode cX3_awaitedBehind 75 = .ok (.ireturn, 1) := by decide +kernel
theorem dX3_awaitedBehindKind_0 : decode cX3_awaitedBehindKind 0 = .ok (.iload_n 0, 1) := by decide +kernel
theorem dX3_awaitedBehindKind_1 : decode cX3_awaitedBehindKind 1 = .ok (.tableswitch 35 0 3 #[31, 31, 33, 33], 31) := by decide +kernel
theorem dX3_awaitedBehindKind_32 : decode cX3_awaitedBehindKind 32 = .ok (.iconst 1, 1) := by decide +kernel
theorem dX3_awaitedBehindKind_33 : decode cX3_awaitedBehindKind 33 = .ok (.ireturn, 1) := by decide +kernel
theorem dX3_awaitedBehindKind_34 : decode cX3_awaitedBehindKind 34 = .ok (.iconst 2, 1) := by decide +kernel
theorem dX3_awaitedBehindKind_35 : decode cX3_awaitedBehindKind 35 = .ok (.ireturn, 1) := by decide +kernel
theorem dX3_awaitedBehindKind_36 : decode cX3_awaitedBehindKind 36 = .ok (.iconst (-1), 1) := by decide +kernel
theorem dX3_awaitedBehindKind_37 : decode cX3_awaitedBehindKind 37 = .ok (.ireturn, 1) := by decide +kernel
theorem dX3_kindOf_0 : decode cX3_kindOf 0 = .ok (.iload_n 0, 1) := by decide +kernel
theorem dX3_kindOf_1 : decode cX3_kindOf 1 = .ok (.lookupswitch 51 #[(98, 45), (100, 49), (112, 43), (115, 47)], 43) := by decide +kernel
theorem dX3_kindOf_44 : decode cX3_kindOf 44 = .ok (.iconst 0, 1) := by decide +kernel
theorem dX3_kindOf_45 : decode cX3_kindOf 45 = .ok (.ireturn, 1) := by decide +kernel
theorem dX3_kindOf_46 : decode cX3_kindOf 46 = .ok (.iconst 1, 1) := by decide +kernel
theorem dX3_kindOf_47 : decode cX3_kindOf 47 = .ok (.ireturn, 1) := by decide +kernel
theorem dX3_kindOf_48 : decode cX3_kindOf 48 = .ok (.iconst 2, 1) := by decide +kernel
theorem dX3_kindOf_49 : decode cX3_kindOf 49 = .ok (.ireturn, 1) := by decide +kernel
theorem dX3_kindOf_50 : decode cX3_kindOf 50 = .ok (.iconst 3, 1) := by decide +kernel
theorem dX3_kindOf_51 : decode cX3_kindOf 51 = .ok (.ireturn, 1) := by decide +kernel
theorem dX3_kindOf_52 : decode cX3_kindOf 52 = .ok (.iconst (-1), 1) := by decide +kernel
theorem dX3_kindOf_53 : decode cX3_kindOf 53 = .ok (.ireturn, 1) := by decide +kernel
set_option maxRecDepth 20000 in
theorem ggX4_init_X2_init : GoodIn wsX4_init wsX2_init := goodIn_r _ [23, 24, 2, 3, 25, 26, 27, 28, 29, 30, 60, 61, 62, 63, 64] (by decide +kernel) (by decide +kernel)
set_option maxRecDepth 20000 in
theorem gX4_init_X2_init_n11 : GoodIn wsX4_init (wsX2_init) := ggX4_init_X2_init
set_option maxRecDepth 20000 in
theorem ggX4_init_X1_init : GoodIn wsX4_init wsX1_init := goodIn_r _ [32, 33, 2, 3, 25, 34, 35, 36, 37, 38, 39, 40, 41, 42, 43, 44, 45, 46, 47, 48, 71, 72, 73, 74, 75, 76, 77, 78, 79, 80, 81, 82, 83, 84, 85] (by decide +kernel) (by decide +kernel)
set_option maxRecDepth 20000 in
theorem gX4_init_X1_init_n18 : GoodIn wsX4_init (wsX1_init) := ggX4_init_X1_init
set_option maxRecDepth 20000 in
theorem ggX4_init_X0_init : GoodIn wsX4_init wsX0_init := goodIn_r _ [50, 51, 2, 3, 52, 53, 54, 5, 6, 22, 23, 24, 25, 26, 27, 28, 29, 30, 86, 87, 60, 61, 62, 63, 64] (by decide +kernel) (by decide +kernel)
set_option maxRecDepth 20000 in
theorem gX4_init_X0_init_n31 : GoodIn wsX4_init (wsX0_init) := ggX4_init_X0_init
set_option maxRecDepth 20000 in
theorem ggX4_init_X3_init : GoodIn wsX4_init wsX3_init := goodIn_r _ [56, 57, 2, 3, 25, 58, 59, 88, 89] (by decide +kernel) (by decide +kernel)
set_option maxRecDepth 20000 in
theorem gX4_init_X3_init_n38 : GoodIn wsX4_init (wsX3_init) := ggX4_init_X3_init
theorem dX4_init_0 : decode cX4_init 0 = .ok (.aload_n 0, 1) := by decide +kernel
theorem dX4_init_1 : decode cX4_init 1 = .ok (.invokespecial 3, 3) := by decide +kernel
theorem dX4_init_4 : decode cX4_init 4 = .ok (.aload_n 0, 1) := by decide +kernel
theorem dX4_init_5 : decode cX4_init 5 = .ok (.new 9, 3) := by decide +kernel
theorem dX4_init_8 : decode cX4_init 8 = .ok (.dup, 1) := by decide +kernel
theorem dX4_init_9 : decode cX4_init 9 = .ok (.invokespecial 11, 3) := by decide +kernel
theorem dX4_init_12 : decode cX4_init 12 = .ok (.putfield 12, 3) := by decide +kernel
theorem dX4_init_15 : decode cX4_init 15 = .ok (.aload_n 0, 1) := by decide +kernel
theorem dX4_init_16 : decode cX4_init 16 = .ok (.new 16, 3) := by decide +kernel
theorem dX4_init_19 : decode cX4_init 19 = .ok (.dup, 1) := by decide +kernel
theorem dX4_init_20 : decode cX4_init 20 = .ok (.invokespecial 18, 3) := by decide +kernel
theorem dX4_init_23 : decode cX4_init 23 = .ok (.putfield 19, 3) := by decide +kernel
theorem dX4_init_26 : decode cX4_init 26 = .ok (.aload_n 0, 1) := by decide +kernel
theorem dX4_init_27 : decode cX4_init 27 = .ok (.new 9, 3) := by decide +kernel
theorem dX4_init_30 : decode cX4_init 30 = .ok (.dup, 1) := by decide +kernel
theorem dX4_init_31 : decode cX4_init 31 = .ok (.invokespecial 11, 3) := by decide +kernel
theorem dX4_init_34 : decode cX4_init 34 = .ok (.putfield 23, 3) := by decide +kernel
theorem dX4_init_37 : decode cX4_init 37 = .ok (.aload_n 0, 1) := by decide +kernel
theorem dX4_init_38 : decode cX4_init 38 = .ok (.new 16, 3) := by decide +kernel
theorem dX4_init_41 : decode cX4_init 41 = .ok (.dup, 1) := by decide +kernel
theorem dX4_init_42 : decode cX4_init 42 = .ok (.invokespecial 18, 3) := by decide +kernel
theorem dX4_init_45 : decode cX4_init 45 = .ok (.putfield 26, 3) := by decide +kernel
theorem dX4_init_48 : decode cX4_init 48 = .ok (.aload_n 0, 1) := by decide +kernel
theorem dX4_init_49 : decode cX4_init 49 = .ok (.new 29, 3) := by decide +kernel
theorem dX4_init_52 : decode cX4_init 52 = .ok (.dup, 1) := by decide +kernel
theorem dX4_init_53 : decode cX4_init 53 = .ok (.invokespecial 31, 3) := by decide +kernel
theorem dX4_init_56 : decode cX4_init 56 = .ok (.putfield 32, 3) := by decide +kernel
theorem dX4_init_59 : decode cX4_init 59 = .ok (.aload_n 0, 1) := by decide +kernel
theorem dX4_init_60 : decode cX4_init 60 = .ok (.new 36, 3) := by decide +kernel
theorem dX4_init_63 : decode cX4_init 63 = .ok (.dup, 1) := by decide +kernel
theorem dX4_init_64 : decode cX4_init 64 = .ok (.invokespecial 38, 3) := by decide +kernel
theorem dX4_init_67 : decode cX4_init 67 = .ok (.putfield 39, 3) := by decide +kernel
theorem dX4_init_70 : decode cX4_init 70 = .ok (.return_, 1) := by decide +kernel
set_option maxRecDepth 20000 in
theorem ggX4_put_X4_isWithin : GoodIn wsX4_put wsX4_isWithin := goodIn_r _ [13] (by decide +kernel) (by decide +kernel)
set_option maxRecDepth 20000 in
theorem gX4_put_X4_isWithin : GoodIn wsX4_put (va_wsS RX4 47 yX4_isWithin wsX4_isWithin) := goodIn_app (goodIn_of _ (by decide +kernel)) ggX4_put_X4_isWithin
set_option maxRecDepth 20000 in
theorem ggX4_put_X4_isPanelSize : GoodIn wsX4_put wsX4_isPanelSize := goodIn_r _ [16, 10, 11, 12, 13] (by decide +kernel) (by decide +kernel)
set_option maxRecDepth 20000 in
theorem gX4_put_X4_isPanelSize : GoodIn wsX4_put (va_wsS RX4 58 yX4_isPanelSize wsX4_isPanelSize) := goodIn_app (goodIn_of _ (by decide +kernel)) ggX4_put_X4_isPanelSize
set_option maxRecDepth 20000 in
theorem ggX4_put_X0_save : GoodIn wsX4_put wsX0_save := goodIn_r _ [20, 21, 22, 23, 24, 18, 25, 26, 27, 28, 29, 30, 31, 32, 33, 34, 35, 36, 37, 38, 39, 40, 41, 42, 43, 127, 128, 122, 123, 124, 125, 126] (by decide +kernel) (by decide +kernel)
set_option maxRecDepth 20000 in
theorem gX4_put_X0_save_n72 : GoodIn wsX4_put (wsX0_save) := ggX4_put_X0_save
set_option maxRecDepth 20000 in
theorem ggX4_put_X2_insert : GoodIn wsX4_put wsX2_insert := goodIn_r _ [46, 42, 35, 40, 41, 47, 48, 32, 49, 50, 12, 51, 122, 123, 124, 125, 126] (by decide +kernel) (by decide +kernel)
set_option maxRecDepth 20000 in
theorem gX4_put_X2_insert_n76 : GoodIn wsX4_put (wsX2_insert) := ggX4_put_X2_insert
set_option maxRecDepth 20000 in
theorem ggX4_put_X1_pour : GoodIn wsX4_put wsX1_pour := goodIn_r _ [55, 56, 57, 58, 59, 53, 60, 61, 62, 63, 64, 65, 66, 67, 68, 69, 70, 71, 72, 73, 74, 75, 76, 77, 78, 79, 80, 12, 81, 82, 83, 84, 85, 86, 87, 88, 89, 90, 91, 92, 93, 94, 95, 96, 97, 98, 99, 100, 101, 102, 103, 104, 105, 106, 107, 108, 109, 110, 111, 112, 113, 114, 115, 50, 51, 122, 123, 124, 125, 126, 129, 130, 131, 132, 133, 134, 135, 136, 137, 138, 139, 140, 141, 142, 143] (by decide +kernel) (by decide +kernel)
set_option maxRecDepth 20000 in
theorem gX4_put_X1_pour_n80 : GoodIn wsX4_put (wsX1_pour) := ggX4_put_X1_pour
theorem dX4_put_0 : decode cX4_put 0 = .ok (.iload_n 1, 1) := by decide +kernel
theorem dX4_put_1 : decode cX4_put 1 = .ok (.iconst 0, 1) := by decide +kernel
theorem dX4_put_2 : decode cX4_put 2 = .ok (.aload_n 0, 1) := by decide +kernel
theorem dX4_put_3 : decode cX4_put 3 = .ok (.getfield 12, 3) := by decide +kernel
theorem dX4_put_6 : decode cX4_put 6 = .ok (.getfield 43, 3) := by decide +kernel
theorem dX4_put_9 : decode cX4_put 9 = .ok (.invokestatic 47, 3) := by decide +kernel
theorem dX4_put_12 : decode cX4_put 12 = .ok (.ifCond .ne 13, 3) := by decide +kernel
theorem dX4_put_15 : decode cX4_put 15 = .ok (.new 51, 3) := by decide +kernel
theorem dX4_put_18 : decode cX4_put 18 = .ok (.dup, 1) := by decide +kernel
theorem dX4_put_19 : decode cX4_put 19 = .ok (.ldc 53, 2) := by decide +kernel
theorem dX4_put_21 : decode cX4_put 21 = .ok (.invokespecial 55, 3) := by decide +kernel
theorem dX4_put_24 : decode cX4_put 24 = .ok (.athrow, 1) := by decide +kernel
theorem dX4_put_25 : decode cX4_put 25 = .ok (.iload_n 2, 1) := by decide +kernel
theorem dX4_put_26 : decode cX4_put 26 = .ok (.iconst 0, 1) := by decide +kernel
theorem dX4_put_27 : decode cX4_put 27 = .ok (.iconst 3, 1) := by decide +kernel
theorem dX4_put_28 : decode cX4_put 28 = .ok (.invokestatic 47, 3) := by decide +kernel
theorem dX4_put_31 : decode cX4_put 31 = .ok (.ifCond .eq 12, 3) := by decide +kernel
theorem dX4_put_34 : decode cX4_put 34 = .ok (.iload_n 3, 1) := by decide +kernel
theorem dX4_put_35 : decode cX4_put 35 = .ok (.iload 4, 2) := by decide +kernel
theorem dX4_put_37 : decode cX4_put 37 = .ok (.invokestatic 58, 3) := by decide +kernel
theorem dX4_put_40 : decode cX4_put 40 = .ok (.ifCond .ne 13, 3) := by decide +kernel
theorem dX4_put_43 : decode cX4_put 43 = .ok (.new 62, 3) := by decide +kernel
theorem dX4_put_46 : decode cX4_put 46 = .ok (.dup, 1) := by decide +kernel
theorem dX4_put_47 : decode cX4_put 47 = .ok (.ldc 64, 2) := by decide +kernel
theorem dX4_put_49 : decode cX4_put 49 = .ok (.invokespecial 66, 3) := by decide +kernel
theorem dX4_put_52 : decode cX4_put 52 = .ok (.athrow, 1) := by decide +kernel
theorem dX4_put_53 : decode cX4_put 53 = .ok (.aload_n 0, 1) := by decide +kernel
theorem dX4_put_54 : decode cX4_put 54 = .ok (.getfield 12, 3) := by decide +kernel
theorem dX4_put_57 : decode cX4_put 57 = .ok (.getfield 43, 3) := by decide +kernel
theorem dX4_put_60 : decode cX4_put 60 = .ok (.bipush 24, 2) := by decide +kernel
theorem dX4_put_62 : decode cX4_put 62 = .ok (.if_icmp .lt 13, 3) := by decide +kernel
theorem dX4_put_65 : decode cX4_put 65 = .ok (.new 67, 3) := by decide +kernel
theorem dX4_put_68 : decode cX4_put 68 = .ok (.dup, 1) := by decide +kernel
theorem dX4_put_69 : decode cX4_put 69 = .ok (.ldc 69, 2) := by decide +kernel
theorem dX4_put_71 : decode cX4_put 71 = .ok (.invokespecial 71, 3) := by decide +kernel
theorem dX4_put_74 : decode cX4_put 74 = .ok (.athrow, 1) := by decide +kernel
theorem dX4_put_75 : decode cX4_put 75 = .ok (.aload_n 0, 1) := by decide +kernel
theorem dX4_put_76 : decode cX4_put 76 = .ok (.getfield 32, 3) := by decide +kernel
theorem dX4_put_79 : decode cX4_put 79 = .ok (.aload_n 0, 1) := by decide +kernel
theorem dX4_put_80 : decode cX4_put 80 = .ok (.getfield 12, 3) := by decide +kernel
theorem dX4_put_83 : decode cX4_put 83 = .ok (.invokevirtual 72, 3) := by decide +kernel
theorem dX4_put_86 : decode cX4_put 86 = .ok (.aload_n 0, 1) := by decide +kernel
theorem dX4_put_87 : decode cX4_put 87 = .ok (.getfield 12, 3) := by decide +kernel
theorem dX4_put_90 : decode cX4_put 90 = .ok (.iload_n 1, 1) := by decide +kernel
theorem dX4_put_91 : decode cX4_put 91 = .ok (.iload_n 2, 1) := by decide +kernel
theorem dX4_put_92 : decode cX4_put 92 = .ok (.iload_n 3, 1) := by decide +kernel
theorem dX4_put_93 : decode cX4_put 93 = .ok (.iload 4, 2) := by decide +kernel
theorem dX4_put_95 : decode cX4_put 95 = .ok (.invokevirtual 76, 3) := by decide +kernel
theorem dX4_put_98 : decode cX4_put 98 = .ok (.aload_n 0, 1) := by decide +kernel
theorem dX4_put_99 : decode cX4_put 99 = .ok (.getfield 19, 3) := by decide +kernel
theorem dX4_put_102 : decode cX4_put 102 = .ok (.aload_n 0, 1) := by decide +kernel
theorem dX4_put_103 : decode cX4_put 103 = .ok (.getfield 12, 3) := by decide +kernel
theorem dX4_put_106 : decode cX4_put 106 = .ok (.invokevirtual 80, 3) := by decide +kernel
theorem dX4_put_109 : decode cX4_put 109 = .ok (.aload_n 0, 1) := by decide +kernel
theorem dX4_put_110 : decode cX4_put 110 = .ok (.getfield 12, 3) := by decide +kernel
theorem dX4_put_113 : decode cX4_put 113 = .ok (.getfield 43, 3) := by decide +kernel
theorem dX4_put_116 : decode cX4_put 116 = .ok (.ireturn, 1) := by decide +kernel
set_option maxRecDepth 20000 in
theorem ggX4_take_X2_has : GoodIn wsX4_take wsX2_has := goodIn_r _ [9, 10, 116, 117, 118, 119, 120] (by decide +kernel) (by decide +kernel)
set_option maxRecDepth 20000 in
theorem gX4_take_X2_has_n83 : GoodIn wsX4_take (wsX2_has) := ggX4_take_X2_has
set_option maxRecDepth 20000 in
theorem ggX4_take_X0_save : GoodIn wsX4_take wsX0_save := goodIn_r _ [14, 15, 16, 17, 18, 12, 19, 20, 21, 22, 23, 24, 25, 7, 26, 27, 28, 29, 30, 31, 32, 33, 34, 10, 35, 121, 122, 116, 117, 118, 119, 120] (by decide +kernel) (by decide +kernel)
set_option maxRecDepth 20000 in
theorem gX4_take_X0_save_n72 : GoodIn wsX4_take (wsX0_save) := ggX4_take_X0_save
set_option maxRecDepth 20000 in
theorem ggX4_take_X2_remove : GoodIn wsX4_take wsX2_remove := goodIn_r _ [38, 28, 33, 34, 10, 39, 6, 8, 7, 9, 40, 41, 42, 116, 117, 118, 119, 120] (by decide +kernel) (by decide +kernel)
set_option maxRecDepth 20000 in
theorem gX4_take_X2_remove_n89 : GoodIn wsX4_take (wsX2_remove) := ggX4_take_X2_remove
set_option maxRecDepth 20000 in
theorem ggX4_take_X1_pour : GoodIn wsX4_take wsX1_pour := goodIn_r _ [46, 47, 48, 49, 50, 44, 51, 52, 53, 54, 55, 56, 57, 58, 59, 60, 61, 62, 63, 64, 65, 66, 67, 68, 69, 70, 71, 72, 73, 74, 75, 76, 77, 78, 79, 80, 81, 82, 83, 84, 85, 86, 87, 88, 89, 90, 91, 92, 93, 94, 95, 96, 97, 98, 99, 100, 101, 102, 103, 104, 105, 106, 107, 108, 109, 116, 117, 118, 119, 120, 123, 124, 125, 126, 127, 128, 129, 130, 131, 132, 133, 134, 135, 136, 137] (by decide +kernel) (by decide +kernel)
set_option maxRecDepth 20000 in
theorem gX4_take_X1_pour_n80 : GoodIn wsX4_take (wsX1_pour) := ggX4_take_X1_pour
theorem dX4_take_0 : decode cX4_take 0 = .ok (.aload_n 0, 1) := by decide +kernel
theorem dX4_take_1 : decode cX4_take 1 = .ok (.getfield 12, 3) := by decide +kernel
theorem dX4_take_4 : decode cX4_take 4 = .ok (.iload_n 1, 1) := by decide +kernel
theorem dX4_take_5 : decode cX4_take 5 = .ok (.invokevirtual 83, 3) := by decide +kernel
theorem dX4_take_8 : decode cX4_take 8 = .ok (.ifCond .ne 13, 3) := by decide +kernel
theorem dX4_take_11 : decode cX4_take 11 = .ok (.new 51, 3) := by decide +kernel
theorem dX4_take_14 : decode cX4_take 14 = .ok (.dup, 1) := by decide +kernel
theorem dX4_take_15 : decode cX4_take 15 = .ok (.ldc 87, 2) := by decide +kernel
theorem dX4_take_17 : decode cX4_take 17 = .ok (.invokespecial 55, 3) := by decide +kernel
theorem dX4_take_20 : decode cX4_take 20 = .ok (.athrow, 1) := by decide +kernel
theorem dX4_take_21 : decode cX4_take 21 = .ok (.aload_n 0, 1) := by decide +kernel
theorem dX4_take_22 : decode cX4_take 22 = .ok (.getfield 32, 3) := by decide +kernel
theorem dX4_take_25 : decode cX4_take 25 = .ok (.aload_n 0, 1) := by decide +kernel
theorem dX4_take_26 : decode cX4_take 26 = .ok (.getfield 12, 3) := by decide +kernel
theorem dX4_take_29 : decode cX4_take 29 = .ok (.invokevirtual 72, 3) := by decide +kernel
theorem dX4_take_32 : decode cX4_take 32 = .ok (.aload_n 0, 1) := by decide +kernel
theorem dX4_take_33 : decode cX4_take 33 = .ok (.getfield 12, 3) := by decide +kernel
theorem dX4_take_36 : decode cX4_take 36 = .ok (.iload_n 1, 1) := by decide +kernel
theorem dX4_take_37 : decode cX4_take 37 = .ok (.invokevirtual 89, 3) := by decide +kernel
theorem dX4_take_40 : decode cX4_take 40 = .ok (.aload_n 0, 1) := by decide +kernel
theorem dX4_take_41 : decode cX4_take 41 = .ok (.getfield 19, 3) := by decide +kernel
theorem dX4_take_44 : decode cX4_take 44 = .ok (.aload_n 0, 1) := by decide +kernel
theorem dX4_take_45 : decode cX4_take 45 = .ok (.getfield 12, 3) := by decide +kernel
theorem dX4_take_48 : decode cX4_take 48 = .ok (.invokevirtual 80, 3) := by decide +kernel
theorem dX4_take_51 : decode cX4_take 51 = .ok (.aload_n 0, 1) := by decide +kernel
theorem dX4_take_52 : decode cX4_take 52 = .ok (.getfield 12, 3) := by decide +kernel
theorem dX4_take_55 : decode cX4_take 55 = .ok (.getfield 43, 3) := by decide +kernel
theorem dX4_take_58 : decode cX4_take 58 = .ok (.ireturn, 1) := by decide +kernel
set_option maxRecDepth 20000 in
theorem ggX4_change_X2_has : GoodIn wsX4_change wsX2_has := goodIn_r _ [11, 12, 118, 119, 120, 121, 122] (by decide +kernel) (by decide +kernel)
set_option maxRecDepth 20000 in
theorem gX4_change_X2_has_n83 : GoodIn wsX4_change (wsX2_has) := ggX4_change_X2_has
set_option maxRecDepth 20000 in
theorem ggX4_change_X4_isPanelSize : GoodIn wsX4_change wsX4_isPanelSize := goodIn_r _ [16, 17, 18, 15, 19] (by decide +kernel) (by decide +kernel)
set_option maxRecDepth 20000 in
theorem gX4_change_X4_isPanelSize : GoodIn wsX4_change (va_wsS RX4 58 yX4_isPanelSize wsX4_isPanelSize) := goodIn_app (goodIn_of _ (by decide +kernel)) ggX4_change_X4_isPanelSize
set_option maxRecDepth 20000 in
theorem ggX4_change_X0_save : GoodIn wsX4_change wsX0_save := goodIn_r _ [23, 24, 25, 26, 27, 21, 28, 29, 30, 31, 32, 33, 34, 9, 35, 36, 37, 38, 39, 40, 41, 42, 43, 12, 44, 138, 139, 118, 119, 120, 121, 122] (by decide +kernel) (by decide +kernel)
set_option maxRecDepth 20000 in
theorem gX4_change_X0_save_n72 : GoodIn wsX4_change (wsX0_save) := ggX4_change_X0_save
set_option maxRecDepth 20000 in
theorem ggX4_change_X4_write : GoodIn wsX4_change wsX4_write := goodIn_r _ [47] (by decide +kernel) (by decide +kernel)
set_option maxRecDepth 20000 in
theorem gX4_change_X4_write : GoodIn wsX4_change (va_wsS RX4 99 yX4_write wsX4_write) := goodIn_app (goodIn_of _ (by decide +kernel)) ggX4_change_X4_write
set_option maxRecDepth 20000 in
theorem ggX4_change_X1_pour : GoodIn wsX4_change wsX1_pour := goodIn_r _ [51, 52, 53, 54, 55, 49, 56, 57, 58, 59, 60, 61, 62, 63, 64, 65, 66, 67, 68, 69, 70, 71, 72, 73, 74, 75, 76, 15, 77, 78, 79, 80, 81, 82, 83, 84, 85, 86, 87, 88, 89, 90, 91, 92, 93, 94, 95, 96, 97, 98, 99, 100, 101, 102, 103, 104, 105, 106, 107, 108, 109, 110, 111, 46, 47, 118, 119, 120, 121, 122, 123, 124, 125, 126, 127, 128, 129, 130, 131, 132, 133, 134, 135, 136, 137] (by decide +kernel) (by decide +kernel)
set_option maxRecDepth 20000 in
theorem gX4_change_X1_pour_n80 : GoodIn wsX4_change (wsX1_pour) := ggX4_change_X1_pour
theorem dX4_change_0 : decode cX4_change 0 = .ok (.aload_n 0, 1) := by decide +kernel
theorem dX4_change_1 : decode cX4_change 1 = .ok (.getfield 12, 3) := by decide +kernel
theorem dX4_change_4 : decode cX4_change 4 = .ok (.iload_n 1, 1) := by decide +kernel
theorem dX4_change_5 : decode cX4_change 5 = .ok (.invokevirtual 83, 3) := by decide +kernel
theorem dX4_change_8 : decode cX4_change 8 = .ok (.ifCond .ne 13, 3) := by decide +kernel
theorem dX4_change_11 : decode cX4_change 11 = .ok (.new 51, 3) := by decide +kernel
theorem dX4_change_14 : decode cX4_change 14 = .ok (.dup, 1) := by decide +kernel
theorem dX4_change_15 : decode cX4_change 15 = .ok (.ldc 87, 2) := by decide +kernel
theorem dX4_change_17 : decode cX4_change 17 = .ok (.invokespecial 55, 3) := by decide +kernel
theorem dX4_change_20 : decode cX4_change 20 = .ok (.athrow, 1) := by decide +kernel
theorem dX4_change_21 : decode cX4_change 21 = .ok (.iload_n 2, 1) := by decide +kernel
theorem dX4_change_22 : decode cX4_change 22 = .ok (.iload_n 3, 1) := by decide +kernel
theorem dX4_change_23 : decode cX4_change 23 = .ok (.invokestatic 58, 3) := by decide +kernel
theorem dX4_change_26 : decode cX4_change 26 = .ok (.ifCond .ne 13, 3) := by decide +kernel
theorem dX4_change_29 : decode cX4_change 29 = .ok (.new 62, 3) := by decide +kernel
theorem dX4_change_32 : decode cX4_change 32 = .ok (.dup, 1) := by decide +kernel
theorem dX4_change_33 : decode cX4_change 33 = .ok (.ldc 93, 2) := by decide +kernel
theorem dX4_change_35 : decode cX4_change 35 = .ok (.invokespecial 66, 3) := by decide +kernel
theorem dX4_change_38 : decode cX4_change 38 = .ok (.athrow, 1) := by decide +kernel
theorem dX4_change_39 : decode cX4_change 39 = .ok (.aload_n 0, 1) := by decide +kernel
theorem dX4_change_40 : decode cX4_change 40 = .ok (.getfield 32, 3) := by decide +kernel
theorem dX4_change_43 : decode cX4_change 43 = .ok (.aload_n 0, 1) := by decide +kernel
theorem dX4_change_44 : decode cX4_change 44 = .ok (.getfield 12, 3) := by decide +kernel
theorem dX4_change_47 : decode cX4_change 47 = .ok (.invokevirtual 72, 3) := by decide +kernel
theorem dX4_change_50 : decode cX4_change 50 = .ok (.aload_n 0, 1) := by decide +kernel
theorem dX4_change_51 : decode cX4_change 51 = .ok (.getfield 12, 3) := by decide +kernel
theorem dX4_change_54 : decode cX4_change 54 = .ok (.getfield 95, 3) := by decide +kernel
theorem dX4_change_57 : decode cX4_change 57 = .ok (.iload_n 1, 1) := by decide +kernel
theorem dX4_change_58 : decode cX4_change 58 = .ok (.iload_n 2, 1) := by decide +kernel
theorem dX4_change_59 : decode cX4_change 59 = .ok (.invokestatic 99, 3) := by decide +kernel
theorem dX4_change_62 : decode cX4_change 62 = .ok (.aload_n 0, 1) := by decide +kernel
theorem dX4_change_63 : decode cX4_change 63 = .ok (.getfield 12, 3) := by decide +kernel
theorem dX4_change_66 : decode cX4_change 66 = .ok (.getfield 103, 3) := by decide +kernel
theorem dX4_change_69 : decode cX4_change 69 = .ok (.iload_n 1, 1) := by decide +kernel
theorem dX4_change_70 : decode cX4_change 70 = .ok (.iload_n 3, 1) := by decide +kernel
theorem dX4_change_71 : decode cX4_change 71 = .ok (.invokestatic 99, 3) := by decide +kernel
theorem dX4_change_74 : decode cX4_change 74 = .ok (.aload_n 0, 1) := by decide +kernel
theorem dX4_change_75 : decode cX4_change 75 = .ok (.getfield 19, 3) := by decide +kernel
theorem dX4_change_78 : decode cX4_change 78 = .ok (.aload_n 0, 1) := by decide +kernel
theorem dX4_change_79 : decode cX4_change 79 = .ok (.getfield 12, 3) := by decide +kernel
theorem dX4_change_82 : decode cX4_change 82 = .ok (.invokevirtual 80, 3) := by decide +kernel
theorem dX4_change_85 : decode cX4_change 85 = .ok (.aload_n 0, 1) := by decide +kernel
theorem dX4_change_86 : decode cX4_change 86 = .ok (.getfield 19, 3) := by decide +kernel
theorem dX4_change_89 : decode cX4_change 89 = .ok (.getfield 106, 3) := by decide +kernel
theorem dX4_change_92 : decode cX4_change 92 = .ok (.ireturn, 1) := by decide +kernel
set_option maxRecDepth 20000 in
theorem ggX4_set_X4_isWithin : GoodIn wsX4_set wsX4_isWithin := goodIn_r _ [9] (by decide +kernel) (by decide +kernel)
set_option maxRecDepth 20000 in
theorem gX4_set_X4_isWithin : GoodIn wsX4_set (va_wsS RX4 47 yX4_isWithin wsX4_isWithin) := goodIn_app (goodIn_of _ (by decide +kernel)) ggX4_set_X4_isWithin
set_option maxRecDepth 20000 in
theorem ggX4_set_X0_save : GoodIn wsX4_set wsX0_save := goodIn_r _ [13, 14, 15, 16, 17, 11, 18, 19, 20, 21, 22, 23, 24, 25, 26, 27, 28, 29, 30, 31, 32, 33, 34, 35, 36, 114, 115, 109, 110, 111, 112, 113] (by decide +kernel) (by decide +kernel)
set_option maxRecDepth 20000 in
theorem gX4_set_X0_save_n72 : GoodIn wsX4_set (wsX0_save) := ggX4_set_X0_save
set_option maxRecDepth 20000 in
theorem ggX4_set_X1_pour : GoodIn wsX4_set wsX1_pour := goodIn_r _ [40, 41, 42, 43, 44, 38, 45, 46, 47, 48, 49, 50, 51, 52, 53, 54, 55, 56, 57, 58, 59, 60, 61, 62, 63, 64, 65, 8, 66, 67, 68, 69, 70, 71, 72, 73, 74, 75, 76, 77, 78, 79, 80, 81, 82, 83, 84, 85, 86, 87, 88, 89, 90, 91, 92, 93, 94, 95, 96, 97, 98, 99, 100, 101, 102, 109, 110, 111, 112, 113, 116, 117, 118, 119, 120, 121, 122, 123, 124, 125, 126, 127, 128, 129, 130] (by decide +kernel) (by decide +kernel)
set_option maxRecDepth 20000 in
theorem gX4_set_X1_pour_n80 : GoodIn wsX4_set (wsX1_pour) := ggX4_set_X1_pour
theorem dX4_set_0 : decode cX4_set 0 = .ok (.iload_n 1, 1) := by decide +kernel
theorem dX4_set_1 : decode cX4_set 1 = .ok (.bipush 9, 2) := by decide +kernel
theorem dX4_set_3 : decode cX4_set 3 = .ok (.bipush 60, 2) := by decide +kernel
theorem dX4_set_5 : decode cX4_set 5 = .ok (.invokestatic 47, 3) := by decide +kernel
theorem dX4_set_8 : decode cX4_set 8 = .ok (.ifCond .ne 13, 3) := by decide +kernel
theorem dX4_set_11 : decode cX4_set 11 = .ok (.new 62, 3) := by decide +kernel
theorem dX4_set_14 : decode cX4_set 14 = .ok (.dup, 1) := by decide +kernel
theorem dX4_set_15 : decode cX4_set 15 = .ok (.ldc 109, 2) := by decide +kernel
theorem dX4_set_17 : decode cX4_set 17 = .ok (.invokespecial 66, 3) := by decide +kernel
theorem dX4_set_20 : decode cX4_set 20 = .ok (.athrow, 1) := by decide +kernel
theorem dX4_set_21 : decode cX4_set 21 = .ok (.aload_n 0, 1) := by decide +kernel
theorem dX4_set_22 : decode cX4_set 22 = .ok (.getfield 12, 3) := by decide +kernel
theorem dX4_set_25 : decode cX4_set 25 = .ok (.getfield 111, 3) := by decide +kernel
theorem dX4_set_28 : decode cX4_set 28 = .ok (.istore_n 2, 1) := by decide +kernel
theorem dX4_set_29 : decode cX4_set 29 = .ok (.aload_n 0, 1) := by decide +kernel
theorem dX4_set_30 : decode cX4_set 30 = .ok (.getfield 32, 3) := by decide +kernel
theorem dX4_set_33 : decode cX4_set 33 = .ok (.aload_n 0, 1) := by decide +kernel
theorem dX4_set_34 : decode cX4_set 34 = .ok (.getfield 12, 3) := by decide +kernel
theorem dX4_set_37 : decode cX4_set 37 = .ok (.invokevirtual 72, 3) := by decide +kernel
theorem dX4_set_40 : decode cX4_set 40 = .ok (.aload_n 0, 1) := by decide +kernel
theorem dX4_set_41 : decode cX4_set 41 = .ok (.getfield 12, 3) := by decide +kernel
theorem dX4_set_44 : decode cX4_set 44 = .ok (.iload_n 1, 1) := by decide +kernel
theorem dX4_set_45 : decode cX4_set 45 = .ok (.putfield 111, 3) := by decide +kernel
theorem dX4_set_48 : decode cX4_set 48 = .ok (.aload_n 0, 1) := by decide +kernel
theorem dX4_set_49 : decode cX4_set 49 = .ok (.getfield 19, 3) := by decide +kernel
theorem dX4_set_52 : decode cX4_set 52 = .ok (.aload_n 0, 1) := by decide +kernel
theorem dX4_set_53 : decode cX4_set 53 = .ok (.getfield 12, 3) := by decide +kernel
theorem dX4_set_56 : decode cX4_set 56 = .ok (.invokevirtual 80, 3) := by decide +kernel
theorem dX4_set_59 : decode cX4_set 59 = .ok (.iload_n 2, 1) := by decide +kernel
theorem dX4_set_60 : decode cX4_set 60 = .ok (.ireturn, 1) := by decide +kernel
set_option maxRecDepth 20000 in
theorem ggX4_append_X4_isWithin : GoodIn wsX4_append wsX4_isWithin := goodIn_r _ [9] (by decide +kernel) (by decide +kernel)
set_option maxRecDepth 20000 in
theorem gX4_append_X4_isWithin : GoodIn wsX4_append (va_wsS RX4 47 yX4_isWithin wsX4_isWithin) := goodIn_app (goodIn_of _ (by decide +kernel)) ggX4_append_X4_isWithin
set_option maxRecDepth 20000 in
theorem ggX4_append_X3_add : GoodIn wsX4_append wsX3_add := goodIn_r _ [13, 14, 15, 22, 23] (by decide +kernel) (by decide +kernel)
set_option maxRecDepth 20000 in
theorem gX4_append_X3_add_n121 : GoodIn wsX4_append (wsX3_add) := ggX4_append_X3_add
theorem dX4_append_0 : decode cX4_append 0 = .ok (.iload_n 1, 1) := by decide +kernel
theorem dX4_append_1 : decode cX4_append 1 = .ok (.bipush 33, 2) := by decide +kernel
theorem dX4_append_3 : decode cX4_append 3 = .ok (.bipush 126, 2) := by decide +kernel
theorem dX4_append_5 : decode cX4_append 5 = .ok (.invokestatic 47, 3) := by decide +kernel
theorem dX4_append_8 : decode cX4_append 8 = .ok (.ifCond .ne 13, 3) := by decide +kernel
theorem dX4_append_11 : decode cX4_append 11 = .ok (.new 62, 3) := by decide +kernel
theorem dX4_append_14 : decode cX4_append 14 = .ok (.dup, 1) := by decide +kernel
theorem dX4_append_15 : decode cX4_append 15 = .ok (.ldc 114, 2) := by decide +kernel
theorem dX4_append_17 : decode cX4_append 17 = .ok (.invokespecial 66, 3) := by decide +kernel
theorem dX4_append_20 : decode cX4_append 20 = .ok (.athrow, 1) := by decide +kernel
theorem dX4_append_21 : decode cX4_append 21 = .ok (.aload_n 0, 1) := by decide +kernel
theorem dX4_append_22 : decode cX4_append 22 = .ok (.getfield 39, 3) := by decide +kernel
theorem dX4_append_25 : decode cX4_append 25 = .ok (.getfield 116, 3) := by decide +kernel
theorem dX4_append_28 : decode cX4_append 28 = .ok (.bipush 60, 2) := by decide +kernel
theorem dX4_append_30 : decode cX4_append 30 = .ok (.if_icmp .lt 13, 3) := by decide +kernel
theorem dX4_append_33 : decode cX4_append 33 = .ok (.new 67, 3) := by decide +kernel
theorem dX4_append_36 : decode cX4_append 36 = .ok (.dup, 1) := by decide +kernel
theorem dX4_append_37 : decode cX4_append 37 = .ok (.ldc 119, 2) := by decide +kernel
theorem dX4_append_39 : decode cX4_append 39 = .ok (.invokespecial 71, 3) := by decide +kernel
theorem dX4_append_42 : decode cX4_append 42 = .ok (.athrow, 1) := by decide +kernel
theorem dX4_append_43 : decode cX4_append 43 = .ok (.aload_n 0, 1) := by decide +kernel
theorem dX4_append_44 : decode cX4_append 44 = .ok (.getfield 39, 3) := by decide +kernel
theorem dX4_append_47 : decode cX4_append 47 = .ok (.iload_n 1, 1) := by decide +kernel
theorem dX4_append_48 : decode cX4_append 48 = .ok (.invokevirtual 121, 3) := by decide +kernel
theorem dX4_append_51 : decode cX4_append 51 = .ok (.aload_n 0, 1) := by decide +kernel
theorem dX4_append_52 : decode cX4_append 52 = .ok (.getfield 39, 3) := by decide +kernel
theorem dX4_append_55 : decode cX4_append 55 = .ok (.getfield 116, 3) := by decide +kernel
theorem dX4_append_58 : decode cX4_append 58 = .ok (.ireturn, 1) := by decide +kernel
theorem dX4_clearBuffer_0 : decode cX4_clearBuffer 0 = .ok (.aload_n 0, 1) := by decide +kernel
theorem dX4_clearBuffer_1 : decode cX4_clearBuffer 1 = .ok (.getfield 39, 3) := by decide +kernel
theorem dX4_clearBuffer_4 : decode cX4_clearBuffer 4 = .ok (.getfield 116, 3) := by decide +kernel
theorem dX4_clearBuffer_7 : decode cX4_clearBuffer 7 = .ok (.istore_n 1, 1) := by decide +kernel
theorem dX4_clearBuffer_8 : decode cX4_clearBuffer 8 = .ok (.aload_n 0, 1) := by decide +kernel
theorem dX4_clearBuffer_9 : decode cX4_clearBuffer 9 = .ok (.getfield 39, 3) := by decide +kernel
theorem dX4_clearBuffer_12 : decode cX4_clearBuffer 12 = .ok (.iconst 0, 1) := by decide +kernel
theorem dX4_clearBuffer_13 : decode cX4_clearBuffer 13 = .ok (.putfield 116, 3) := by decide +kernel
theorem dX4_clearBuffer_16 : decode cX4_clearBuffer 16 = .ok (.iload_n 1, 1) := by decide +kernel
theorem dX4_clearBuffer_17 : decode cX4_clearBuffer 17 = .ok (.ireturn, 1) := by decide +kernel
set_option maxRecDepth 20000 in
theorem ggX4_firstError_X3_indexOfError : GoodIn wsX4_firstError wsX3_indexOfError := goodIn_r _ [5, 6, 7, 8, 9, 10, 11, 12, 3, 13, 14, 15, 16, 17, 18, 19, 20, 21, 28, 29] (by decide +kernel) (by decide +kernel)
set_option maxRecDepth 20000 in
theorem gX4_firstError_X3_indexOfError_n124 : GoodIn wsX4_firstError (wsX3_indexOfError) := ggX4_firstError_X3_indexOfError
theorem dX4_firstError_0 : decode cX4_firstError 0 = .ok (.aload_n 0, 1) := by decide +kernel
theorem dX4_firstError_1 : decode cX4_firstError 1 = .ok (.getfield 39, 3) := by decide +kernel
theorem dX4_firstError_4 : decode cX4_firstError 4 = .ok (.invokevirtual 124, 3) := by decide +kernel
theorem dX4_firstError_7 : decode cX4_firstError 7 = .ok (.ireturn, 1) := by decide +kernel
set_option maxRecDepth 20000 in
theorem ggX4_story_X3_isWhole : GoodIn wsX4_story wsX3_isWhole := goodIn_r _ [10, 11, 12, 13, 14, 15, 16, 17, 8, 18, 19, 20, 21, 22, 23, 24, 25, 26, 135, 136] (by decide +kernel) (by decide +kernel)
set_option maxRecDepth 20000 in
theorem gX4_story_X3_isWhole_n128 : GoodIn wsX4_story (wsX3_isWhole) := ggX4_story_X3_isWhole
set_option maxRecDepth 20000 in
theorem ggX4_story_X0_save : GoodIn wsX4_story wsX0_save := goodIn_r _ [30, 31, 32, 33, 34, 28, 35, 36, 37, 38, 39, 40, 41, 42, 43, 44, 45, 46, 47, 48, 49, 50, 51, 52, 53, 137, 138, 139, 140, 141, 142, 143] (by decide +kernel) (by decide +kernel)
set_option maxRecDepth 20000 in
theorem gX4_story_X0_save_n72 : GoodIn wsX4_story (wsX0_save) := ggX4_story_X0_save
set_option maxRecDepth 20000 in
theorem ggX4_story_X4_addPanelsOfText : GoodIn wsX4_story wsX4_addPanelsOfText := goodIn_r _ [57, 5, 3, 58, 13, 14, 15, 20, 8, 21, 59, 42, 60, 61, 52, 45, 50, 51, 62, 63, 64, 65, 66, 17, 18, 19, 22, 23, 24, 25, 26, 129, 130, 131, 132, 133, 134, 139, 140, 141, 142, 143, 135, 136] (by decide +kernel) (by decide +kernel)
set_option maxRecDepth 20000 in
theorem gX4_story_X4_addPanelsOfText : GoodIn wsX4_story (wsV RX4 134 RX4 yX4_addPanelsOfText wsX4_addPanelsOfText) := goodIn_app (goodIn_of _ (by decide +kernel)) ggX4_story_X4_addPanelsOfText
set_option maxRecDepth 20000 in
theorem ggX4_story_X1_pour : GoodIn wsX4_story wsX1_pour := goodIn_r _ [70, 71, 72, 73, 74, 68, 75, 76, 77, 78, 79, 80, 81, 82, 83, 84, 85, 86, 87, 88, 89, 90, 91, 92, 93, 94, 13, 14, 15, 95, 96, 97, 98, 99, 100, 101, 102, 103, 104, 105, 106, 107, 108, 109, 110, 111, 112, 113, 114, 115, 116, 117, 118, 119, 120, 121, 122, 123, 124, 125, 126, 127, 128, 65, 66, 139, 140, 141, 142, 143, 144, 145, 146, 147, 148, 149, 150, 151, 152, 153, 154, 155, 156, 157, 158] (by decide +kernel) (by decide +kernel)
set_option maxRecDepth 20000 in
theorem gX4_story_X1_pour_n80 : GoodIn wsX4_story (wsX1_pour) := ggX4_story_X1_pour
theorem dX4_story_0 : decode cX4_story 0 = .ok (.aload_n 0, 1) := by decide +kernel
theorem dX4_story_1 : decode cX4_story 1 = .ok (.getfield 39, 3) := by decide +kernel
theorem dX4_story_4 : decode cX4_story 4 = .ok (.invokevirtual 128, 3) := by decide +kernel
theorem dX4_story_7 : decode cX4_story 7 = .ok (.ifCond .ne 13, 3) := by decide +kernel
theorem dX4_story_10 : decode cX4_story 10 = .ok (.new 62, 3) := by decide +kernel
theorem dX4_story_13 : decode cX4_story 13 = .ok (.dup, 1) := by decide +kernel
theorem dX4_story_14 : decode cX4_story 14 = .ok (.ldc 132, 2) := by decide +kernel
theorem dX4_story_16 : decode cX4_story 16 = .ok (.invokespecial 66, 3) := by decide +kernel
theorem dX4_story_19 : decode cX4_story 19 = .ok (.athrow, 1) := by decide +kernel
theorem dX4_story_20 : decode cX4_story 20 = .ok (.aload_n 0, 1) := by decide +kernel
theorem dX4_story_21 : decode cX4_story 21 = .ok (.getfield 32, 3) := by decide +kernel
theorem dX4_story_24 : decode cX4_story 24 = .ok (.aload_n 0, 1) := by decide +kernel
theorem dX4_story_25 : decode cX4_story 25 = .ok (.getfield 12, 3) := by decide +kernel
theorem dX4_story_28 : decode cX4_story 28 = .ok (.invokevirtual 72, 3) := by decide +kernel
theorem dX4_story_31 : decode cX4_story 31 = .ok (.aload_n 0, 1) := by decide +kernel
theorem dX4_story_32 : decode cX4_story 32 = .ok (.invokevirtual 134, 3) := by decide +kernel
theorem dX4_story_35 : decode cX4_story 35 = .ok (.istore_n 1, 1) := by decide +kernel
theorem dX4_story_36 : decode cX4_story 36 = .ok (.aload_n 0, 1) := by decide +kernel
theorem dX4_story_37 : decode cX4_story 37 = .ok (.getfield 39, 3) := by decide +kernel
theorem dX4_story_40 : decode cX4_story 40 = .ok (.iconst 0, 1) := by decide +kernel
theorem dX4_story_41 : decode cX4_story 41 = .ok (.putfield 116, 3) := by decide +kernel
theorem dX4_story_44 : decode cX4_story 44 = .ok (.aload_n 0, 1) := by decide +kernel
theorem dX4_story_45 : decode cX4_story 45 = .ok (.getfield 19, 3) := by decide +kernel
theorem dX4_story_48 : decode cX4_story 48 = .ok (.aload_n 0, 1) := by decide +kernel
theorem dX4_story_49 : decode cX4_story 49 = .ok (.getfield 12, 3) := by decide +kernel
theorem dX4_story_52 : decode cX4_story 52 = .ok (.invokevirtual 80, 3) := by decide +kernel
theorem dX4_story_55 : decode cX4_story 55 = .ok (.iload_n 1, 1) := by decide +kernel
theorem dX4_story_56 : decode cX4_story 56 = .ok (.ireturn, 1) := by decide +kernel
set_option maxRecDepth 20000 in
theorem ggX4_undo_X0_restoreLatest : GoodIn wsX4_undo wsX0_restoreLatest := goodIn_r _ [9, 10, 11, 12, 13, 7, 14, 15, 16, 17, 18, 19, 20, 21, 22, 23, 24, 25, 26, 27, 28, 102, 103, 104, 105, 106, 107, 108] (by decide +kernel) (by decide +kernel)
set_option maxRecDepth 20000 in
theorem gX4_undo_X0_restoreLatest_n140 : GoodIn wsX4_undo (wsX0_restoreLatest) := ggX4_undo_X0_restoreLatest
set_option maxRecDepth 20000 in
theorem ggX4_undo_X1_pour : GoodIn wsX4_undo wsX1_pour := goodIn_r _ [32, 33, 34, 35, 36, 30, 37, 38, 39, 40, 41, 42, 43, 44, 45, 46, 47, 48, 49, 50, 51, 52, 53, 54, 55, 56, 57, 58, 59, 60, 61, 62, 63, 64, 65, 66, 67, 68, 69, 70, 71, 72, 73, 74, 75, 76, 77, 78, 79, 80, 81, 82, 83, 84, 85, 86, 87, 88, 89, 90, 91, 92, 93, 94, 95, 104, 105, 106, 107, 108, 109, 110, 111, 112, 113, 114, 115, 116, 117, 118, 119, 120, 121, 122, 123] (by decide +kernel) (by decide +kernel)
set_option maxRecDepth 20000 in
theorem gX4_undo_X1_pour_n80 : GoodIn wsX4_undo (wsX1_pour) := ggX4_undo_X1_pour
theorem dX4_undo_0 : decode cX4_undo 0 = .ok (.aload_n 0, 1) := by decide +kernel
theorem dX4_undo_1 : decode cX4_undo 1 = .ok (.getfield 32, 3) := by decide +kernel
theorem dX4_undo_4 : decode cX4_undo 4 = .ok (.getfield 137, 3) := by decide +kernel
theorem dX4_undo_7 : decode cX4_undo 7 = .ok (.ifCond .gt 13, 3) := by decide +kernel
theorem dX4_undo_10 : decode cX4_undo 10 = .ok (.new 67, 3) := by decide +kernel
theorem dX4_undo_13 : decode cX4_undo 13 = .ok (.dup, 1) := by decide +kernel
theorem dX4_undo_14 : decode cX4_undo 14 = .ok (.ldc 138, 2) := by decide +kernel
theorem dX4_undo_16 : decode cX4_undo 16 = .ok (.invokespecial 71, 3) := by decide +kernel
theorem dX4_undo_19 : decode cX4_undo 19 = .ok (.athrow, 1) := by decide +kernel
theorem dX4_undo_20 : decode cX4_undo 20 = .ok (.aload_n 0, 1) := by decide +kernel
theorem dX4_undo_21 : decode cX4_undo 21 = .ok (.getfield 32, 3) := by decide +kernel
theorem dX4_undo_24 : decode cX4_undo 24 = .ok (.aload_n 0, 1) := by decide +kernel
theorem dX4_undo_25 : decode cX4_undo 25 = .ok (.getfield 12, 3) := by decide +kernel
theorem dX4_undo_28 : decode cX4_undo 28 = .ok (.invokevirtual 140, 3) := by decide +kernel
theorem dX4_undo_31 : decode cX4_undo 31 = .ok (.aload_n 0, 1) := by decide +kernel
theorem dX4_undo_32 : decode cX4_undo 32 = .ok (.getfield 19, 3) := by decide +kernel
theorem dX4_undo_35 : decode cX4_undo 35 = .ok (.aload_n 0, 1) := by decide +kernel
theorem dX4_undo_36 : decode cX4_undo 36 = .ok (.getfield 12, 3) := by decide +kernel
theorem dX4_undo_39 : decode cX4_undo 39 = .ok (.invokevirtual 80, 3) := by decide +kernel
theorem dX4_undo_42 : decode cX4_undo 42 = .ok (.aload_n 0, 1) := by decide +kernel
theorem dX4_undo_43 : decode cX4_undo 43 = .ok (.getfield 32, 3) := by decide +kernel
theorem dX4_undo_46 : decode cX4_undo 46 = .ok (.getfield 137, 3) := by decide +kernel
theorem dX4_undo_49 : decode cX4_undo 49 = .ok (.ireturn, 1) := by decide +kernel
set_option maxRecDepth 20000 in
theorem ggX4_panel_X2_has : GoodIn wsX4_panel wsX2_has := goodIn_r _ [9, 10, 29, 30, 31, 32, 33] (by decide +kernel) (by decide +kernel)
set_option maxRecDepth 20000 in
theorem gX4_panel_X2_has_n83 : GoodIn wsX4_panel (wsX2_has) := ggX4_panel_X2_has
set_option maxRecDepth 20000 in
theorem ggX4_panel_X4_isWithin : GoodIn wsX4_panel wsX4_isWithin := goodIn_r _ [14] (by decide +kernel) (by decide +kernel)
set_option maxRecDepth 20000 in
theorem gX4_panel_X4_isWithin : GoodIn wsX4_panel (va_wsS RX4 47 yX4_isWithin wsX4_isWithin) := goodIn_app (goodIn_of _ (by decide +kernel)) ggX4_panel_X4_isWithin
set_option maxRecDepth 20000 in
theorem ggX4_panel_X4_numberOfPanel : GoodIn wsX4_panel wsX4_numberOfPanel := goodIn_r _ [18, 5, 19, 20, 21, 13, 22, 23, 24, 25, 26, 27, 28, 29, 30, 31, 32, 33, 34, 35, 36, 37, 38, 39, 40, 41, 42, 43, 44, 45, 46, 47, 48] (by decide +kernel) (by decide +kernel)
set_option maxRecDepth 20000 in
theorem gX4_panel_X4_numberOfPanel : GoodIn wsX4_panel (wsV RX4 145 RX4 yX4_numberOfPanel wsX4_numberOfPanel) := goodIn_app (goodIn_of _ (by decide +kernel)) ggX4_panel_X4_numberOfPanel
theorem dX4_panel_0 : decode cX4_panel 0 = .ok (.aload_n 0, 1) := by decide +kernel
theorem dX4_panel_1 : decode cX4_panel 1 = .ok (.getfield 12, 3) := by decide +kernel
theorem dX4_panel_4 : decode cX4_panel 4 = .ok (.iload_n 1, 1) := by decide +kernel
theorem dX4_panel_5 : decode cX4_panel 5 = .ok (.invokevirtual 83, 3) := by decide +kernel
theorem dX4_panel_8 : decode cX4_panel 8 = .ok (.ifCond .ne 13, 3) := by decide +kernel
theorem dX4_panel_11 : decode cX4_panel 11 = .ok (.new 51, 3) := by decide +kernel
theorem dX4_panel_14 : decode cX4_panel 14 = .ok (.dup, 1) := by decide +kernel
theorem dX4_panel_15 : decode cX4_panel 15 = .ok (.ldc 87, 2) := by decide +kernel
theorem dX4_panel_17 : decode cX4_panel 17 = .ok (.invokespecial 55, 3) := by decide +kernel
theorem dX4_panel_20 : decode cX4_panel 20 = .ok (.athrow, 1) := by decide +kernel
theorem dX4_panel_21 : decode cX4_panel 21 = .ok (.iload_n 2, 1) := by decide +kernel
theorem dX4_panel_22 : decode cX4_panel 22 = .ok (.iconst 0, 1) := by decide +kernel
theorem dX4_panel_23 : decode cX4_panel 23 = .ok (.iconst 5, 1) := by decide +kernel
theorem dX4_panel_24 : decode cX4_panel 24 = .ok (.invokestatic 47, 3) := by decide +kernel
theorem dX4_panel_27 : decode cX4_panel 27 = .ok (.ifCond .ne 13, 3) := by decide +kernel
theorem dX4_panel_30 : decode cX4_panel 30 = .ok (.new 62, 3) := by decide +kernel
theorem dX4_panel_33 : decode cX4_panel 33 = .ok (.dup, 1) := by decide +kernel
theorem dX4_panel_34 : decode cX4_panel 34 = .ok (.ldc 143, 2) := by decide +kernel
theorem dX4_panel_36 : decode cX4_panel 36 = .ok (.invokespecial 66, 3) := by decide +kernel
theorem dX4_panel_39 : decode cX4_panel 39 = .ok (.athrow, 1) := by decide +kernel
theorem dX4_panel_40 : decode cX4_panel 40 = .ok (.aload_n 0, 1) := by decide +kernel
theorem dX4_panel_41 : decode cX4_panel 41 = .ok (.iload_n 1, 1) := by decide +kernel
theorem dX4_panel_42 : decode cX4_panel 42 = .ok (.iload_n 2, 1) := by decide +kernel
theorem dX4_panel_43 : decode cX4_panel 43 = .ok (.invokevirtual 145, 3) := by decide +kernel
theorem dX4_panel_46 : decode cX4_panel 46 = .ok (.ireturn, 1) := by decide +kernel
set_option maxRecDepth 20000 in
theorem ggX4_page_X4_isWithin : GoodIn wsX4_page wsX4_isWithin := goodIn_r _ [9] (by decide +kernel) (by decide +kernel)
set_option maxRecDepth 20000 in
theorem gX4_page_X4_isWithin : GoodIn wsX4_page (va_wsS RX4 47 yX4_isWithin wsX4_isWithin) := goodIn_app (goodIn_of _ (by decide +kernel)) ggX4_page_X4_isWithin
set_option maxRecDepth 20000 in
theorem ggX4_page_X1_numberOfPage : GoodIn wsX4_page wsX1_numberOfPage := goodIn_r _ [13, 14, 15, 16, 17, 18, 19, 20, 8, 21, 22, 23, 24, 11, 25, 32, 33, 34, 35, 36, 37, 38, 39, 40, 41, 42, 43, 44, 45, 46] (by decide +kernel) (by decide +kernel)
set_option maxRecDepth 20000 in
theorem gX4_page_X1_numberOfPage_n151 : GoodIn wsX4_page (wsX1_numberOfPage) := ggX4_page_X1_numberOfPage
theorem dX4_page_0 : decode cX4_page 0 = .ok (.iload_n 1, 1) := by decide +kernel
theorem dX4_page_1 : decode cX4_page 1 = .ok (.iconst 0, 1) := by decide +kernel
theorem dX4_page_2 : decode cX4_page 2 = .ok (.bipush 15, 2) := by decide +kernel
theorem dX4_page_4 : decode cX4_page 4 = .ok (.invokestatic 47, 3) := by decide +kernel
theorem dX4_page_7 : decode cX4_page 7 = .ok (.ifCond .ne 13, 3) := by decide +kernel
theorem dX4_page_10 : decode cX4_page 10 = .ok (.new 51, 3) := by decide +kernel
theorem dX4_page_13 : decode cX4_page 13 = .ok (.dup, 1) := by decide +kernel
theorem dX4_page_14 : decode cX4_page 14 = .ok (.ldc 149, 2) := by decide +kernel
theorem dX4_page_16 : decode cX4_page 16 = .ok (.invokespecial 55, 3) := by decide +kernel
theorem dX4_page_19 : decode cX4_page 19 = .ok (.athrow, 1) := by decide +kernel
theorem dX4_page_20 : decode cX4_page 20 = .ok (.iload_n 2, 1) := by decide +kernel
theorem dX4_page_21 : decode cX4_page 21 = .ok (.iconst 0, 1) := by decide +kernel
theorem dX4_page_22 : decode cX4_page 22 = .ok (.iconst 5, 1) := by decide +kernel
theorem dX4_page_23 : decode cX4_page 23 = .ok (.invokestatic 47, 3) := by decide +kernel
theorem dX4_page_26 : decode cX4_page 26 = .ok (.ifCond .ne 13, 3) := by decide +kernel
theorem dX4_page_29 : decode cX4_page 29 = .ok (.new 62, 3) := by decide +kernel
theorem dX4_page_32 : decode cX4_page 32 = .ok (.dup, 1) := by decide +kernel
theorem dX4_page_33 : decode cX4_page 33 = .ok (.ldc 143, 2) := by decide +kernel
theorem dX4_page_35 : decode cX4_page 35 = .ok (.invokespecial 66, 3) := by decide +kernel
theorem dX4_page_38 : decode cX4_page 38 = .ok (.athrow, 1) := by decide +kernel
theorem dX4_page_39 : decode cX4_page 39 = .ok (.aload_n 0, 1) := by decide +kernel
theorem dX4_page_40 : decode cX4_page 40 = .ok (.getfield 19, 3) := by decide +kernel
theorem dX4_page_43 : decode cX4_page 43 = .ok (.iload_n 1, 1) := by decide +kernel
theorem dX4_page_44 : decode cX4_page 44 = .ok (.iload_n 2, 1) := by decide +kernel
theorem dX4_page_45 : decode cX4_page 45 = .ok (.invokevirtual 151, 3) := by decide +kernel
theorem dX4_page_48 : decode cX4_page 48 = .ok (.ireturn, 1) := by decide +kernel
set_option maxRecDepth 20000 in
theorem ggX4_at_X4_isWithin : GoodIn wsX4_at wsX4_isWithin := goodIn_r _ [6] (by decide +kernel) (by decide +kernel)
set_option maxRecDepth 20000 in
theorem gX4_at_X4_isWithin : GoodIn wsX4_at (va_wsS RX4 47 yX4_isWithin wsX4_isWithin) := goodIn_app (goodIn_of _ (by decide +kernel)) ggX4_at_X4_isWithin
set_option maxRecDepth 20000 in
theorem ggX4_at_X4_panelAt : GoodIn wsX4_at wsX4_panelAt := goodIn_r _ [10, 11, 12, 13, 14, 5, 15, 16, 17, 18, 19, 20, 21, 22, 23, 24, 25, 26, 27, 28, 29, 30, 31, 32, 33, 34, 35, 36, 37, 38, 39, 40, 41] (by decide +kernel) (by decide +kernel)
set_option maxRecDepth 20000 in
theorem gX4_at_X4_panelAt : GoodIn wsX4_at (wsV RX4 156 RX4 yX4_panelAt wsX4_panelAt) := goodIn_app (goodIn_of _ (by decide +kernel)) ggX4_at_X4_panelAt
theorem dX4_at_0 : decode cX4_at 0 = .ok (.iload_n 1, 1) := by decide +kernel
theorem dX4_at_1 : decode cX4_at 1 = .ok (.iconst 0, 1) := by decide +kernel
theorem dX4_at_2 : decode cX4_at 2 = .ok (.bipush 15, 2) := by decide +kernel
theorem dX4_at_4 : decode cX4_at 4 = .ok (.invokestatic 47, 3) := by decide +kernel
theorem dX4_at_7 : decode cX4_at 7 = .ok (.ifCond .eq 21, 3) := by decide +kernel
theorem dX4_at_10 : decode cX4_at 10 = .ok (.iload_n 2, 1) := by decide +kernel
theorem dX4_at_11 : decode cX4_at 11 = .ok (.iconst 0, 1) := by decide +kernel
theorem dX4_at_12 : decode cX4_at 12 = .ok (.iconst 3, 1) := by decide +kernel
theorem dX4_at_13 : decode cX4_at 13 = .ok (.invokestatic 47, 3) := by decide +kernel
theorem dX4_at_16 : decode cX4_at 16 = .ok (.ifCond .eq 12, 3) := by decide +kernel
theorem dX4_at_19 : decode cX4_at 19 = .ok (.iload_n 3, 1) := by decide +kernel
theorem dX4_at_20 : decode cX4_at 20 = .ok (.iconst 0, 1) := by decide +kernel
theorem dX4_at_21 : decode cX4_at 21 = .ok (.iconst 5, 1) := by decide +kernel
theorem dX4_at_22 : decode cX4_at 22 = .ok (.invokestatic 47, 3) := by decide +kernel
theorem dX4_at_25 : decode cX4_at 25 = .ok (.ifCond .ne 13, 3) := by decide +kernel
theorem dX4_at_28 : decode cX4_at 28 = .ok (.new 51, 3) := by decide +kernel
theorem dX4_at_31 : decode cX4_at 31 = .ok (.dup, 1) := by decide +kernel
theorem dX4_at_32 : decode cX4_at 32 = .ok (.ldc 154, 2) := by decide +kernel
theorem dX4_at_34 : decode cX4_at 34 = .ok (.invokespecial 55, 3) := by decide +kernel
theorem dX4_at_37 : decode cX4_at 37 = .ok (.athrow, 1) := by decide +kernel
theorem dX4_at_38 : decode cX4_at 38 = .ok (.aload_n 0, 1) := by decide +kernel
theorem dX4_at_39 : decode cX4_at 39 = .ok (.iload_n 1, 1) := by decide +kernel
theorem dX4_at_40 : decode cX4_at 40 = .ok (.iload_n 2, 1) := by decide +kernel
theorem dX4_at_41 : decode cX4_at 41 = .ok (.iload_n 3, 1) := by decide +kernel
theorem dX4_at_42 : decode cX4_at 42 = .ok (.invokevirtual 156, 3) := by decide +kernel
theorem dX4_at_45 : decode cX4_at 45 = .ok (.ireturn, 1) := by decide +kernel
set_option maxRecDepth 20000 in
theorem ggX4_count_X4_isWithin : GoodIn wsX4_count wsX4_isWithin := goodIn_r _ [6] (by decide +kernel) (by decide +kernel)
set_option maxRecDepth 20000 in
theorem gX4_count_X4_isWithin : GoodIn wsX4_count (va_wsS RX4 47 yX4_isWithin wsX4_isWithin) := goodIn_app (goodIn_of _ (by decide +kernel)) ggX4_count_X4_isWithin
set_option maxRecDepth 20000 in
theorem ggX4_count_X4_numberInAll : GoodIn wsX4_count wsX4_numberInAll := goodIn_r _ [10, 11, 12, 13, 14, 15, 16, 17, 18, 19, 20, 21, 22, 23, 24, 25, 26, 27, 28, 29, 30, 31, 32, 33, 34, 35, 36, 37, 38, 39, 40, 41, 42, 43, 44, 45, 46, 47, 48, 49, 50, 51, 52, 53, 54, 55, 56, 57, 58, 59, 60, 61] (by decide +kernel) (by decide +kernel)
set_option maxRecDepth 20000 in
theorem gX4_count_X4_numberInAll : GoodIn wsX4_count (wsV RX4 162 RX4 yX4_numberInAll wsX4_numberInAll) := goodIn_app (goodIn_of _ (by decide +kernel)) ggX4_count_X4_numberInAll
theorem dX4_count_0 : decode cX4_count 0 = .ok (.iload_n 1, 1) := by decide +kernel
theorem dX4_count_1 : decode cX4_count 1 = .ok (.iconst 0, 1) := by decide +kernel
theorem dX4_count_2 : decode cX4_count 2 = .ok (.bipush 8, 2) := by decide +kernel
theorem dX4_count_4 : decode cX4_count 4 = .ok (.invokestatic 47, 3) := by decide +kernel
theorem dX4_count_7 : decode cX4_count 7 = .ok (.ifCond .ne 13, 3) := by decide +kernel
theorem dX4_count_10 : decode cX4_count 10 = .ok (.new 62, 3) := by decide +kernel
theorem dX4_count_13 : decode cX4_count 13 = .ok (.dup, 1) := by decide +kernel
theorem dX4_count_14 : decode cX4_count 14 = .ok (.ldc 160, 2) := by decide +kernel
theorem dX4_count_16 : decode cX4_count 16 = .ok (.invokespecial 66, 3) := by decide +kernel
theorem dX4_count_19 : decode cX4_count 19 = .ok (.athrow, 1) := by decide +kernel
theorem dX4_count_20 : decode cX4_count 20 = .ok (.aload_n 0, 1) := by decide +kernel
theorem dX4_count_21 : decode cX4_count 21 = .ok (.iload_n 1, 1) := by decide +kernel
theorem dX4_count_22 : decode cX4_count 22 = .ok (.invokevirtual 162, 3) := by decide +kernel
theorem dX4_count_25 : decode cX4_count 25 = .ok (.ireturn, 1) := by decide +kernel
set_option maxRecDepth 20000 in
theorem ggX4_ifExchanged_X2_has : GoodIn wsX4_ifExchanged wsX2_has := goodIn_r _ [9, 10, 113, 114, 115, 116, 117] (by decide +kernel) (by decide +kernel)
set_option maxRecDepth 20000 in
theorem gX4_ifExchanged_X2_has_n83 : GoodIn wsX4_ifExchanged (wsX2_has) := ggX4_ifExchanged_X2_has
set_option maxRecDepth 20000 in
theorem ggX4_ifExchanged_X4_isWithin : GoodIn wsX4_ifExchanged wsX4_isWithin := goodIn_r _ [14] (by decide +kernel) (by decide +kernel)
set_option maxRecDepth 20000 in
theorem gX4_ifExchanged_X4_isWithin : GoodIn wsX4_ifExchanged (va_wsS RX4 47 yX4_isWithin wsX4_isWithin) := goodIn_app (goodIn_of _ (by decide +kernel)) ggX4_ifExchanged_X4_isWithin
set_option maxRecDepth 20000 in
theorem ggX4_ifExchanged_X4_afterExchange : GoodIn wsX4_ifExchanged wsX4_afterExchange := goodIn_r _ [18, 19, 5, 20, 21, 7, 22, 23, 24, 25, 26, 27, 28, 29, 30, 10, 31, 32, 33, 34, 35, 36, 37, 38, 13, 39, 40, 41, 42, 43, 44, 45, 46, 47, 48, 49, 50, 51, 52, 53, 54, 55, 56, 57, 58, 59, 60, 61, 62, 63, 64, 65, 66, 67, 68, 69, 70, 71, 72, 73, 74, 75, 76, 77, 78, 79, 80, 81, 82, 83, 84, 85, 86, 87, 88, 89, 90, 91, 92, 93, 94, 95, 96, 97, 98, 99, 100, 101, 102, 103, 104, 105, 106, 107, 108, 109, 110, 111, 112, 118, 119, 120, 121, 122, 123, 124, 125, 126, 127, 128, 129, 130, 131, 132, 113, 114, 115, 116, 117] (by decide +kernel) (by decide +kernel)
set_option maxRecDepth 20000 in
theorem gX4_ifExchanged_X4_afterExchange : GoodIn wsX4_ifExchanged (wsV RX4 170 RX4 yX4_afterExchange wsX4_afterExchange) := goodIn_app (goodIn_of _ (by decide +kernel)) ggX4_ifExchanged_X4_afterExchange
theorem dX4_ifExchanged_0 : decode cX4_ifExchanged 0 = .ok (.aload_n 0, 1) := by decide +kernel
theorem dX4_ifExchanged_1 : decode cX4_ifExchanged 1 = .ok (.getfield 12, 3) := by decide +kernel
theorem dX4_ifExchanged_4 : decode cX4_ifExchanged 4 = .ok (.iload_n 1, 1) := by decide +kernel
theorem dX4_ifExchanged_5 : decode cX4_ifExchanged 5 = .ok (.invokevirtual 83, 3) := by decide +kernel
theorem dX4_ifExchanged_8 : decode cX4_ifExchanged 8 = .ok (.ifCond .eq 16, 3) := by decide +kernel
theorem dX4_ifExchanged_11 : decode cX4_ifExchanged 11 = .ok (.aload_n 0, 1) := by decide +kernel
theorem dX4_ifExchanged_12 : decode cX4_ifExchanged 12 = .ok (.getfield 12, 3) := by decide +kernel
theorem dX4_ifExchanged_15 : decode cX4_ifExchanged 15 = .ok (.iload_n 1, 1) := by decide +kernel
theorem dX4_ifExchanged_16 : decode cX4_ifExchanged 16 = .ok (.iconst 1, 1) := by decide +kernel
theorem dX4_ifExchanged_17 : decode cX4_ifExchanged 17 = .ok (.iadd, 1) := by decide +kernel
theorem dX4_ifExchanged_18 : decode cX4_ifExchanged 18 = .ok (.invokevirtual 83, 3) := by decide +kernel
theorem dX4_ifExchanged_21 : decode cX4_ifExchanged 21 = .ok (.ifCond .ne 13, 3) := by decide +kernel
theorem dX4_ifExchanged_24 : decode cX4_ifExchanged 24 = .ok (.new 51, 3) := by decide +kernel
theorem dX4_ifExchanged_27 : decode cX4_ifExchanged 27 = .ok (.dup, 1) := by decide +kernel
theorem dX4_ifExchanged_28 : decode cX4_ifExchanged 28 = .ok (.ldc 166, 2) := by decide +kernel
theorem dX4_ifExchanged_30 : decode cX4_ifExchanged 30 = .ok (.invokespecial 55, 3) := by decide +kernel
theorem dX4_ifExchanged_33 : decode cX4_ifExchanged 33 = .ok (.athrow, 1) := by decide +kernel
theorem dX4_ifExchanged_34 : decode cX4_ifExchanged 34 = .ok (.iload_n 2, 1) := by decide +kernel
theorem dX4_ifExchanged_35 : decode cX4_ifExchanged 35 = .ok (.iconst 0, 1) := by decide +kernel
theorem dX4_ifExchanged_36 : decode cX4_ifExchanged 36 = .ok (.iconst 1, 1) := by decide +kernel
theorem dX4_ifExchanged_37 : decode cX4_ifExchanged 37 = .ok (.invokestatic 47, 3) := by decide +kernel
theorem dX4_ifExchanged_40 : decode cX4_ifExchanged 40 = .ok (.ifCond .ne 13, 3) := by decide +kernel
theorem dX4_ifExchanged_43 : decode cX4_ifExchanged 43 = .ok (.new 62, 3) := by decide +kernel
theorem dX4_ifExchanged_46 : decode cX4_ifExchanged 46 = .ok (.dup, 1) := by decide +kernel
theorem dX4_ifExchanged_47 : decode cX4_ifExchanged 47 = .ok (.ldc 168, 2) := by decide +kernel
theorem dX4_ifExchanged_49 : decode cX4_ifExchanged 49 = .ok (.invokespecial 66, 3) := by decide +kernel
theorem dX4_ifExchanged_52 : decode cX4_ifExchanged 52 = .ok (.athrow, 1) := by decide +kernel
theorem dX4_ifExchanged_53 : decode cX4_ifExchanged 53 = .ok (.aload_n 0, 1) := by decide +kernel
theorem dX4_ifExchanged_54 : decode cX4_ifExchanged 54 = .ok (.iload_n 1, 1) := by decide +kernel
theorem dX4_ifExchanged_55 : decode cX4_ifExchanged 55 = .ok (.iload_n 2, 1) := by decide +kernel
theorem dX4_ifExchanged_56 : decode cX4_ifExchanged 56 = .ok (.invokevirtual 170, 3) := by decide +kernel
theorem dX4_ifExchanged_59 : decode cX4_ifExchanged 59 = .ok (.ireturn, 1) := by decide +kernel
set_option maxRecDepth 20000 in
theorem ggX4_leastSetting_X4_leastThatServes : GoodIn wsX4_leastSetting wsX4_leastThatServes := goodIn_r _ [5, 6, 7, 8, 9, 10, 11, 12, 13, 14, 15, 16, 17, 18, 19, 20, 21, 22, 23, 24, 25, 26, 27, 28, 29, 30, 31, 32, 33, 34, 35, 36, 37, 38, 39, 40, 41, 42, 43, 44, 45, 46, 47, 48, 49, 50, 51, 4, 52, 53, 54, 55, 56, 57, 58, 59, 60, 61, 62, 63, 64, 65, 66, 67, 68, 69, 70, 71, 72, 73, 74, 75, 76, 77, 78, 79, 80, 81, 82, 83, 84, 85, 86, 87, 88, 89, 90, 91, 92, 93, 94, 95, 96, 97, 98, 99, 100, 101, 102, 103, 104, 105, 106, 107, 108, 109, 110, 111, 112, 113, 114] (by decide +kernel) (by decide +kernel)
set_option maxRecDepth 20000 in
theorem gX4_leastSetting_X4_leastThatServes : GoodIn wsX4_leastSetting (wsV RX4 173 RX4 yX4_leastThatServes wsX4_leastThatServes) := goodIn_app (goodIn_of _ (by decide +kernel)) ggX4_leastSetting_X4_leastThatServes
theorem dX4_leastSetting_0 : decode cX4_leastSetting 0 = .ok (.aload_n 0, 1) := by decide +kernel
theorem dX4_leastSetting_1 : decode cX4_leastSetting 1 = .ok (.invokevirtual 173, 3) := by decide +kernel
theorem dX4_leastSetting_4 : decode cX4_leastSetting 4 = .ok (.ireturn, 1) := by decide +kernel
set_option maxRecDepth 20000 in
theorem ggX4_bestWidth_X2_has : GoodIn wsX4_bestWidth wsX2_has := goodIn_r _ [7, 8, 107, 108, 109, 110, 111] (by decide +kernel) (by decide +kernel)
set_option maxRecDepth 20000 in
theorem gX4_bestWidth_X2_has_n83 : GoodIn wsX4_bestWidth (wsX2_has) := ggX4_bestWidth_X2_has
set_option maxRecDepth 20000 in
theorem ggX4_bestWidth_X4_widthOfLeastCost : GoodIn wsX4_bestWidth wsX4_widthOfLeastCost := goodIn_r _ [13, 14, 3, 15, 16, 5, 17, 18, 19, 20, 21, 22, 23, 24, 25, 8, 26, 27, 28, 12, 29, 30, 31, 32, 33, 34, 35, 36, 37, 38, 39, 40, 41, 42, 43, 44, 45, 46, 47, 48, 49, 50, 51, 52, 53, 54, 55, 56, 57, 58, 59, 60, 61, 62, 63, 64, 65, 66, 67, 68, 69, 70, 71, 72, 73, 74, 75, 76, 77, 78, 79, 80, 81, 82, 83, 84, 85, 86, 87, 88, 89, 90, 91, 92, 93, 94, 95, 96, 97, 98, 99, 100, 101, 102, 103, 104, 105, 106, 107, 108, 109, 110, 111, 112, 113, 114, 115, 116, 117, 118, 119, 120, 121, 122, 123, 124, 125, 126] (by decide +kernel) (by decide +kernel)
set_option maxRecDepth 20000 in
theorem gX4_bestWidth_X4_widthOfLeastCost : GoodIn wsX4_bestWidth (wsV RX4 176 RX4 yX4_widthOfLeastCost wsX4_widthOfLeastCost) := goodIn_app (goodIn_of _ (by decide +kernel)) ggX4_bestWidth_X4_widthOfLeastCost
theorem dX4_bestWidth_0 : decode cX4_bestWidth 0 = .ok (.aload_n 0, 1) := by decide +kernel
theorem dX4_bestWidth_1 : decode cX4_bestWidth 1 = .ok (.getfield 12, 3) := by decide +kernel
theorem dX4_bestWidth_4 : decode cX4_bestWidth 4 = .ok (.iload_n 1, 1) := by decide +kernel
theorem dX4_bestWidth_5 : decode cX4_bestWidth 5 = .ok (.invokevirtual 83, 3) := by decide +kernel
theorem dX4_bestWidth_8 : decode cX4_bestWidth 8 = .ok (.ifCond .ne 13, 3) := by decide +kernel
theorem dX4_bestWidth_11 : decode cX4_bestWidth 11 = .ok (.new 51, 3) := by decide +kernel
theorem dX4_bestWidth_14 : decode cX4_bestWidth 14 = .ok (.dup, 1) := by decide +kernel
theorem dX4_bestWidth_15 : decode cX4_bestWidth 15 = .ok (.ldc 87, 2) := by decide +kernel
theorem dX4_bestWidth_17 : decode cX4_bestWidth 17 = .ok (.invokespecial 55, 3) := by decide +kernel
theorem dX4_bestWidth_20 : decode cX4_bestWidth 20 = .ok (.athrow, 1) := by decide +kernel
theorem dX4_bestWidth_21 : decode cX4_bestWidth 21 = .ok (.aload_n 0, 1) := by decide +kernel
theorem dX4_bestWidth_22 : decode cX4_bestWidth 22 = .ok (.iload_n 1, 1) := by decide +kernel
theorem dX4_bestWidth_23 : decode cX4_bestWidth 23 = .ok (.invokevirtual 176, 3) := by decide +kernel
theorem dX4_bestWidth_26 : decode cX4_bestWidth 26 = .ok (.ireturn, 1) := by decide +kernel
set_option maxRecDepth 20000 in
theorem ggX4_fullness_X4_shareOfFilled : GoodIn wsX4_fullness wsX4_shareOfFilled := goodIn_r _ [5, 6, 7, 8, 9, 10, 11, 12, 13, 14, 15, 16, 17, 18, 19, 20, 21, 22, 23, 24, 25, 26, 27] (by decide +kernel) (by decide +kernel)
set_option maxRecDepth 20000 in
theorem gX4_fullness_X4_shareOfFilled : GoodIn wsX4_fullness (wsV RX4 179 RX4 yX4_shareOfFilled wsX4_shareOfFilled) := goodIn_app (goodIn_of _ (by decide +kernel)) ggX4_fullness_X4_shareOfFilled
theorem dX4_fullness_0 : decode cX4_fullness 0 = .ok (.aload_n 0, 1) := by decide +kernel
theorem dX4_fullness_1 : decode cX4_fullness 1 = .ok (.invokevirtual 179, 3) := by decide +kernel
theorem dX4_fullness_4 : decode cX4_fullness 4 = .ok (.dreturn, 1) := by decide +kernel
set_option maxRecDepth 20000 in
theorem ggX4_digest_X4_numberInAll : GoodIn wsX4_digest wsX4_numberInAll := goodIn_r _ [9, 3, 10, 11, 12, 13, 14, 15, 16, 17, 18, 19, 20, 21, 22, 23, 24, 25, 26, 27, 28, 29, 30, 31, 164, 165, 166, 167, 168, 169, 170, 171, 172, 173, 174, 177, 178, 179, 180, 181, 182, 183, 184, 185, 186, 187, 188, 189, 190, 191, 192, 193] (by decide +kernel) (by decide +kernel)
set_option maxRecDepth 20000 in
theorem gX4_digest_X4_numberInAll : GoodIn wsX4_digest (wsV RX4 162 RX4 yX4_numberInAll wsX4_numberInAll) := goodIn_app (goodIn_of _ (by decide +kernel)) ggX4_digest_X4_numberInAll
set_option maxRecDepth 20000 in
theorem ggX4_digest_X4_hashWithPanel : GoodIn wsX4_digest wsX4_hashWithPanel := goodIn_r _ [35, 2, 3, 36, 37, 38, 8, 39, 10, 40, 41, 42, 43, 44, 45, 46, 47, 48, 49, 50, 51, 52, 53, 54, 55, 56, 57, 58, 59, 60, 61, 62, 63, 64, 65, 13, 66, 67, 68, 69, 70, 71, 72, 73, 16, 74, 75, 76, 77, 24, 25, 78, 79, 80, 81, 82, 83, 84, 85, 86, 87, 88, 89, 90, 91, 92, 93, 94, 95, 96, 97, 98, 99, 100, 101, 102, 103, 104, 105, 106, 107, 108, 109, 110, 111, 112, 113, 114, 115, 116, 117, 118, 119, 120, 121, 122, 123, 124, 125, 126, 21, 22, 23, 127, 128, 129, 130, 131, 132, 133, 134, 135, 136, 137, 138, 139, 164, 165, 166, 167, 168, 169, 170, 171, 172, 173, 174, 177, 178, 179, 180, 181, 182, 183, 184, 185, 186, 187, 188, 189, 190, 191] (by decide +kernel) (by decide +kernel)
set_option maxRecDepth 20000 in
theorem gX4_digest_X4_hashWithPanel : GoodIn wsX4_digest (wsV RX4 187 RX4 yX4_hashWithPanel wsX4_hashWithPanel) := goodIn_app (goodIn_of _ (by decide +kernel)) ggX4_digest_X4_hashWithPanel
set_option maxRecDepth 20000 in
theorem ggX4_digest_X4_hashWithPage : GoodIn wsX4_digest wsX4_hashWithPage := goodIn_r _ [143, 2, 10, 144, 13, 145, 146, 73, 16, 74, 75, 77, 76, 41, 8, 42, 93, 94, 95, 96, 147, 148, 149, 150, 3, 40, 164, 165, 166, 167, 168, 169, 177, 178, 179, 180, 181, 182, 183, 184, 185, 186, 187, 188, 189, 190, 191, 170, 171, 172, 173, 174] (by decide +kernel) (by decide +kernel)
set_option maxRecDepth 20000 in
theorem gX4_digest_X4_hashWithPage : GoodIn wsX4_digest (wsV RX4 191 RX4 yX4_hashWithPage wsX4_hashWithPage) := goodIn_app (goodIn_of _ (by decide +kernel)) ggX4_digest_X4_hashWithPage
set_option maxRecDepth 20000 in
theorem ggX4_digest_X4_leastThatServes : GoodIn wsX4_digest wsX4_leastThatServes := goodIn_r _ [154, 47, 3, 48, 10, 49, 50, 51, 52, 53, 54, 55, 56, 57, 58, 59, 60, 61, 65, 13, 66, 67, 68, 69, 70, 71, 72, 73, 16, 74, 75, 76, 77, 24, 25, 78, 79, 80, 81, 82, 83, 84, 85, 86, 87, 88, 41, 8, 42, 89, 90, 91, 92, 93, 94, 95, 96, 97, 98, 99, 100, 101, 102, 103, 104, 105, 106, 107, 108, 109, 110, 111, 112, 113, 114, 115, 116, 117, 118, 119, 120, 121, 122, 63, 64, 164, 165, 166, 167, 168, 169, 170, 171, 172, 173, 174, 177, 178, 179, 180, 181, 182, 183, 184, 185, 186, 187, 188, 189, 190, 191] (by decide +kernel) (by decide +kernel)
set_option maxRecDepth 20000 in
theorem gX4_digest_X4_leastThatServes : GoodIn wsX4_digest (wsV RX4 173 RX4 yX4_leastThatServes wsX4_leastThatServes) := goodIn_app (goodIn_of _ (by decide +kernel)) ggX4_digest_X4_leastThatServes
set_option maxRecDepth 20000 in
theorem ggX4_digest_X4_shareOfFilled : GoodIn wsX4_digest wsX4_shareOfFilled := goodIn_r _ [158, 10, 164, 165, 166, 167, 168, 169, 177, 178, 179, 180, 181, 182, 183, 184, 185, 186, 187, 188, 189, 190, 191] (by decide +kernel) (by decide +kernel)
set_option maxRecDepth 20000 in
theorem gX4_digest_X4_shareOfFilled : GoodIn wsX4_digest (wsV RX4 179 RX4 yX4_shareOfFilled wsX4_shareOfFilled) := goodIn_app (goodIn_of _ (by decide +kernel)) ggX4_digest_X4_shareOfFilled
set_option maxRecDepth 20000 in
theorem ggX4_digest_X4_bitsOf : GoodIn wsX4_digest wsX4_bitsOf := goodIn_r _ [161, 162, 163] (by decide +kernel) (by decide +kernel)
set_option maxRecDepth 20000 in
theorem gX4_digest_X4_bitsOf : GoodIn wsX4_digest (va_wsS RX4 194 yX4_bitsOf wsX4_bitsOf) := goodIn_app (goodIn_of _ (by decide +kernel)) ggX4_digest_X4_bitsOf
set_option maxRecDepth 20000 in
theorem ggX4_digest_X4_read : GoodIn wsX4_digest wsX4_read := goodIn_r _ [42] (by decide +kernel) (by decide +kernel)
set_option maxRecDepth 20000 in
theorem gX4_digest_X4_read : GoodIn wsX4_digest (va_wsS RX4 201 yX4_read wsX4_read) := goodIn_app (goodIn_of _ (by decide +kernel)) ggX4_digest_X4_read
theorem dX4_digest_0 : decode cX4_digest 0 = .ok (.ldc2_w 183, 3) := by decide +kernel
theorem dX4_digest_3 : decode cX4_digest 3 = .ok (.lstore_n 1, 1) := by decide +kernel
theorem dX4_digest_4 : decode cX4_digest 4 = .ok (.iconst 0, 1) := by decide +kernel
theorem dX4_digest_5 : decode cX4_digest 5 = .ok (.istore_n 3, 1) := by decide +kernel
theorem dX4_digest_6 : decode cX4_digest 6 = .ok (.iload_n 3, 1) := by decide +kernel
theorem dX4_digest_7 : decode cX4_digest 7 = .ok (.bipush 8, 2) := by decide +kernel
theorem dX4_digest_9 : decode cX4_digest 9 = .ok (.if_icmp .gt 22, 3) := by decide +kernel
theorem dX4_digest_12 : decode cX4_digest 12 = .ok (.ldc2_w 185, 3) := by decide +kernel
theorem dX4_digest_15 : decode cX4_digest 15 = .ok (.lload_n 1, 1) := by decide +kernel
theorem dX4_digest_16 : decode cX4_digest 16 = .ok (.lmul, 1) := by decide +kernel
theorem dX4_digest_17 : decode cX4_digest 17 = .ok (.aload_n 0, 1) := by decide +kernel
theorem dX4_digest_18 : decode cX4_digest 18 = .ok (.iload_n 3, 1) := by decide +kernel
theorem dX4_digest_19 : decode cX4_digest 19 = .ok (.invokevirtual 162, 3) := by decide +kernel
theorem dX4_digest_22 : decode cX4_digest 22 = .ok (.i2l, 1) := by decide +kernel
theorem dX4_digest_23 : decode cX4_digest 23 = .ok (.ladd, 1) := by decide +kernel
theorem dX4_digest_24 : decode cX4_digest 24 = .ok (.lstore_n 1, 1) := by decide +kernel
theorem dX4_digest_25 : decode cX4_digest 25 = .ok (.iinc 3 1, 3) := by decide +kernel
theorem dX4_digest_28 : decode cX4_digest 28 = .ok (.goto (-22), 3) := by decide +kernel
theorem dX4_digest_31 : decode cX4_digest 31 = .ok (.iconst 0, 1) := by decide +kernel
theorem dX4_digest_32 : decode cX4_digest 32 = .ok (.istore_n 3, 1) := by decide +kernel
theorem dX4_digest_33 : decode cX4_digest 33 = .ok (.iload_n 3, 1) := by decide +kernel
theorem dX4_digest_34 : decode cX4_digest 34 = .ok (.aload_n 0, 1) := by decide +kernel
theorem dX4_digest_35 : decode cX4_digest 35 = .ok (.getfield 12, 3) := by decide +kernel
theorem dX4_digest_38 : decode cX4_digest 38 = .ok (.getfield 43, 3) := by decide +kernel
theorem dX4_digest_41 : decode cX4_digest 41 = .ok (.if_icmp .ge 16, 3) := by decide +kernel
theorem dX4_digest_44 : decode cX4_digest 44 = .ok (.aload_n 0, 1) := by decide +kernel
theorem dX4_digest_45 : decode cX4_digest 45 = .ok (.lload_n 1, 1) := by decide +kernel
theorem dX4_digest_46 : decode cX4_digest 46 = .ok (.iload_n 3, 1) := by decide +kernel
theorem dX4_digest_47 : decode cX4_digest 47 = .ok (.invokevirtual 187, 3) := by decide +kernel
theorem dX4_digest_50 : decode cX4_digest 50 = .ok (.lstore_n 1, 1) := by decide +kernel
theorem dX4_digest_51 : decode cX4_digest 51 = .ok (.iinc 3 1, 3) := by decide +kernel
theorem dX4_digest_54 : decode cX4_digest 54 = .ok (.goto (-21), 3) := by decide +kernel
theorem dX4_digest_57 : decode cX4_digest 57 = .ok (.iconst 0, 1) := by decide +kernel
theorem dX4_digest_58 : decode cX4_digest 58 = .ok (.istore_n 3, 1) := by decide +kernel
theorem dX4_digest_59 : decode cX4_digest 59 = .ok (.iload_n 3, 1) := by decide +kernel
theorem dX4_digest_60 : decode cX4_digest 60 = .ok (.bipush 16, 2) := by decide +kernel
theorem dX4_digest_62 : decode cX4_digest 62 = .ok (.if_icmp .ge 16, 3) := by decide +kernel
theorem dX4_digest_65 : decode cX4_digest 65 = .ok (.aload_n 0, 1) := by decide +kernel
theorem dX4_digest_66 : decode cX4_digest 66 = .ok (.lload_n 1, 1) := by decide +kernel
theorem dX4_digest_67 : decode cX4_digest 67 = .ok (.iload_n 3, 1) := by decide +kernel
theorem dX4_digest_68 : decode cX4_digest 68 = .ok (.invokevirtual 191, 3) := by decide +kernel
theorem dX4_digest_71 : decode cX4_digest 71 = .ok (.lstore_n 1, 1) := by decide +kernel
theorem dX4_digest_72 : decode cX4_digest 72 = .ok (.iinc 3 1, 3) := by decide +kernel
theorem dX4_digest_75 : decode cX4_digest 75 = .ok (.goto (-16), 3) := by decide +kernel
theorem dX4_digest_78 : decode cX4_digest 78 = .ok (.ldc2_w 185, 3) := by decide +kernel
theorem dX4_digest_81 : decode cX4_digest 81 = .ok (.lload_n 1, 1) := by decide +kernel
theorem dX4_digest_82 : decode cX4_digest 82 = .ok (.lmul, 1) := by decide +kernel
theorem dX4_digest_83 : decode cX4_digest 83 = .ok (.aload_n 0, 1) := by decide +kernel
theorem dX4_digest_84 : decode cX4_digest 84 = .ok (.invokevirtual 173, 3) := by decide +kernel
theorem dX4_digest_87 : decode cX4_digest 87 = .ok (.i2l, 1) := by decide +kernel
theorem dX4_digest_88 : decode cX4_digest 88 = .ok (.ladd, 1) := by decide +kernel
theorem dX4_digest_89 : decode cX4_digest 89 = .ok (.lstore_n 1, 1) := by decide +kernel
theorem dX4_digest_90 : decode cX4_digest 90 = .ok (.ldc2_w 185, 3) := by decide +kernel
theorem dX4_digest_93 : decode cX4_digest 93 = .ok (.lload_n 1, 1) := by decide +kernel
theorem dX4_digest_94 : decode cX4_digest 94 = .ok (.lmul, 1) := by decide +kernel
theorem dX4_digest_95 : decode cX4_digest 95 = .ok (.aload_n 0, 1) := by decide +kernel
theorem dX4_digest_96 : decode cX4_digest 96 = .ok (.invokevirtual 179, 3) := by decide +kernel
theorem dX4_digest_99 : decode cX4_digest 99 = .ok (.invokestatic 194, 3) := by decide +kernel
theorem dX4_digest_102 : decode cX4_digest 102 = .ok (.ladd, 1) := by decide +kernel
theorem dX4_digest_103 : decode cX4_digest 103 = .ok (.lstore_n 1, 1) := by decide +kernel
theorem dX4_digest_104 : decode cX4_digest 104 = .ok (.ldc2_w 185, 3) := by decide +kernel
theorem dX4_digest_107 : decode cX4_digest 107 = .ok (.lload_n 1, 1) := by decide +kernel
theorem dX4_digest_108 : decode cX4_digest 108 = .ok (.lmul, 1) := by decide +kernel
theorem dX4_digest_109 : decode cX4_digest 109 = .ok (.aload_n 0, 1) := by decide +kernel
theorem dX4_digest_110 : decode cX4_digest 110 = .ok (.getfield 39, 3) := by decide +kernel
theorem dX4_digest_113 : decode cX4_digest 113 = .ok (.getfield 116, 3) := by decide +kernel
theorem dX4_digest_116 : decode cX4_digest 116 = .ok (.i2l, 1) := by decide +kernel
theorem dX4_digest_117 : decode cX4_digest 117 = .ok (.ladd, 1) := by decide +kernel
theorem dX4_digest_118 : decode cX4_digest 118 = .ok (.lstore_n 1, 1) := by decide +kernel
theorem dX4_digest_119 : decode cX4_digest 119 = .ok (.iconst 0, 1) := by decide +kernel
theorem dX4_digest_120 : decode cX4_digest 120 = .ok (.istore_n 3, 1) := by decide +kernel
theorem dX4_digest_121 : decode cX4_digest 121 = .ok (.iload_n 3, 1) := by decide +kernel
theorem dX4_digest_122 : decode cX4_digest 122 = .ok (.aload_n 0, 1) := by decide +kernel
theorem dX4_digest_123 : decode cX4_digest 123 = .ok (.getfield 39, 3) := by decide +kernel
theorem dX4_digest_126 : decode cX4_digest 126 = .ok (.getfield 116, 3) := by decide +kernel
theorem dX4_digest_129 : decode cX4_digest 129 = .ok (.if_icmp .ge 28, 3) := by decide +kernel
theorem dX4_digest_132 : decode cX4_digest 132 = .ok (.ldc2_w 185, 3) := by decide +kernel
theorem dX4_digest_135 : decode cX4_digest 135 = .ok (.lload_n 1, 1) := by decide +kernel
theorem dX4_digest_136 : decode cX4_digest 136 = .ok (.lmul, 1) := by decide +kernel
theorem dX4_digest_137 : decode cX4_digest 137 = .ok (.aload_n 0, 1) := by decide +kernel
theorem dX4_digest_138 : decode cX4_digest 138 = .ok (.getfield 39, 3) := by decide +kernel
theorem dX4_digest_141 : decode cX4_digest 141 = .ok (.getfield 198, 3) := by decide +kernel
theorem dX4_digest_144 : decode cX4_digest 144 = .ok (.iload_n 3, 1) := by decide +kernel
theorem dX4_digest_145 : decode cX4_digest 145 = .ok (.invokestatic 201, 3) := by decide +kernel
theorem dX4_digest_148 : decode cX4_digest 148 = .ok (.i2l, 1) := by decide +kernel
theorem dX4_digest_149 : decode cX4_digest 149 = .ok (.ladd, 1) := by decide +kernel
theorem dX4_digest_150 : decode cX4_digest 150 = .ok (.lstore_n 1, 1) := by decide +kernel
theorem dX4_digest_151 : decode cX4_digest 151 = .ok (.iinc 3 1, 3) := by decide +kernel
theorem dX4_digest_154 : decode cX4_digest 154 = .ok (.goto (-33), 3) := by decide +kernel
theorem dX4_digest_157 : decode cX4_digest 157 = .ok (.lload_n 1, 1) := by decide +kernel
theorem dX4_digest_158 : decode cX4_digest 158 = .ok (.lreturn, 1) := by decide +kernel
theorem dX4_isWithin_0 : decode cX4_isWithin 0 = .ok (.iload_n 0, 1) := by decide +kernel
theorem dX4_isWithin_1 : decode cX4_isWithin 1 = .ok (.iload_n 1, 1) := by decide +kernel
theorem dX4_isWithin_2 : decode cX4_isWithin 2 = .ok (.if_icmp .lt 12, 3) := by decide +kernel
theorem dX4_isWithin_5 : decode cX4_isWithin 5 = .ok (.iload_n 0, 1) := by decide +kernel
theorem dX4_isWithin_6 : decode cX4_isWithin 6 = .ok (.iload_n 2, 1) := by decide +kernel
theorem dX4_isWithin_7 : decode cX4_isWithin 7 = .ok (.if_icmp .gt 7, 3) := by decide +kernel
theorem dX4_isWithin_10 : decode cX4_isWithin 10 = .ok (.iconst 1, 1) := by decide +kernel
theorem dX4_isWithin_11 : decode cX4_isWithin 11 = .ok (.goto 4, 3) := by decide +kernel
theorem dX4_isWithin_14 : decode cX4_isWithin 14 = .ok (.iconst 0, 1) := by decide +kernel
theorem dX4_isWithin_15 : decode cX4_isWithin 15 = .ok (.ireturn, 1) := by decide +kernel
set_option maxRecDepth 20000 in
theorem ggX4_isPanelSize_X4_isWithin : GoodIn wsX4_isPanelSize wsX4_isWithin := goodIn_r _ [4] (by decide +kernel) (by decide +kernel)
set_option maxRecDepth 20000 in
theorem gX4_isPanelSize_X4_isWithin : GoodIn wsX4_isPanelSize (va_wsS RX4 47 yX4_isWithin wsX4_isWithin) := goodIn_app (goodIn_of _ (by decide +kernel)) ggX4_isPanelSize_X4_isWithin
theorem dX4_isPanelSize_0 : decode cX4_isPanelSize 0 = .ok (.iload_n 0, 1) := by decide +kernel
theorem dX4_isPanelSize_1 : decode cX4_isPanelSize 1 = .ok (.iconst 1, 1) := by decide +kernel
theorem dX4_isPanelSize_2 : decode cX4_isPanelSize 2 = .ok (.bipush 6, 2) := by decide +kernel
theorem dX4_isPanelSize_4 : decode cX4_isPanelSize 4 = .ok (.invokestatic 47, 3) := by decide +kernel
theorem dX4_isPanelSize_7 : decode cX4_isPanelSize 7 = .ok (.ifCond .eq 17, 3) := by decide +kernel
theorem dX4_isPanelSize_10 : decode cX4_isPanelSize 10 = .ok (.iload_n 1, 1) := by decide +kernel
theorem dX4_isPanelSize_11 : decode cX4_isPanelSize 11 = .ok (.iconst 1, 1) := by decide +kernel
theorem dX4_isPanelSize_12 : decode cX4_isPanelSize 12 = .ok (.bipush 9, 2) := by decide +kernel
theorem dX4_isPanelSize_14 : decode cX4_isPanelSize 14 = .ok (.invokestatic 47, 3) := by decide +kernel
theorem dX4_isPanelSize_17 : decode cX4_isPanelSize 17 = .ok (.ifCond .eq 7, 3) := by decide +kernel
theorem dX4_isPanelSize_20 : decode cX4_isPanelSize 20 = .ok (.iconst 1, 1) := by decide +kernel
theorem dX4_isPanelSize_21 : decode cX4_isPanelSize 21 = .ok (.goto 4, 3) := by decide +kernel
theorem dX4_isPanelSize_24 : decode cX4_isPanelSize 24 = .ok (.iconst 0, 1) := by decide +kernel
theorem dX4_isPanelSize_25 : decode cX4_isPanelSize 25 = .ok (.ireturn, 1) := by decide +kernel
theorem dX4_read_0 : decode cX4_read 0 = .ok (.iload_n 1, 1) := by decide +kernel
theorem dX4_read_1 : decode cX4_read 1 = .ok (.ifCond .lt 15, 3) := by decide +kernel
theorem dX4_read_4 : decode cX4_read 4 = .ok (.iload_n 1, 1) := by decide +kernel
theorem dX4_read_5 : decode cX4_read 5 = .ok (.aload_n 0, 1) := by decide +kernel
theorem dX4_read_6 : decode cX4_read 6 = .ok (.arraylength, 1) := by decide +kernel
theorem dX4_read_7 : decode cX4_read 7 = .ok (.if_icmp .ge 9, 3) := by decide +kernel
theorem dX4_read_10 : decode cX4_read 10 = .ok (.aload_n 0, 1) := by decide +kernel
theorem dX4_read_11 : decode cX4_read 11 = .ok (.iload_n 1, 1) := by decide +kernel
theorem dX4_read_12 : decode cX4_read 12 = .ok (.iaload, 1) := by decide +kernel
theorem dX4_read_13 : decode cX4_read 13 = .ok (.goto 4, 3) := by decide +kernel
theorem dX4_read_16 : decode cX4_read 16 = .ok (.iconst (-1), 1) := by decide +kernel
theorem dX4_read_17 : decode cX4_read 17 = .ok (.ireturn, 1) := by decide +kernel
theorem dX4_write_0 : decode cX4_write 0 = .ok (.iload_n 1, 1) := by decide +kernel
theorem dX4_write_1 : decode cX4_write 1 = .ok (.ifCond .lt 13, 3) := by decide +kernel
theorem dX4_write_4 : decode cX4_write 4 = .ok (.iload_n 1, 1) := by decide +kernel
theorem dX4_write_5 : decode cX4_write 5 = .ok (.aload_n 0, 1) := by decide +kernel
theorem dX4_write_6 : decode cX4_write 6 = .ok (.arraylength, 1) := by decide +kernel
theorem dX4_write_7 : decode cX4_write 7 = .ok (.if_icmp .ge 7, 3) := by decide +kernel
theorem dX4_write_10 : decode cX4_write 10 = .ok (.aload_n 0, 1) := by decide +kernel
theorem dX4_write_11 : decode cX4_write 11 = .ok (.iload_n 1, 1) := by decide +kernel
theorem dX4_write_12 : decode cX4_write 12 = .ok (.iload_n 2, 1) := by decide +kernel
theorem dX4_write_13 : decode cX4_write 13 = .ok (.iastore, 1) := by decide +kernel
theorem dX4_write_14 : decode cX4_write 14 = .ok (.return_, 1) := by decide +kernel
set_option maxRecDepth 20000 in
theorem ggX4_numberOfPanel_X4_read : GoodIn wsX4_numberOfPanel wsX4_read := goodIn_r _ [6] (by decide +kernel) (by decide +kernel)
set_option maxRecDepth 20000 in
theorem gX4_numberOfPanel_X4_read : GoodIn wsX4_numberOfPanel (va_wsS RX4 201 yX4_read wsX4_read) := goodIn_app (goodIn_of _ (by decide +kernel)) ggX4_numberOfPanel_X4_read
theorem dX4_numberOfPanel_0 : decode cX4_numberOfPanel 0 = .ok (.iload_n 2, 1) := by decide +kernel
theorem dX4_numberOfPanel_1 : decode cX4_numberOfPanel 1 = .ok (.tableswitch 95 0 4 #[35, 47, 59, 71, 83], 35) := by decide +kernel
theorem dX4_numberOfPanel_36 : decode cX4_numberOfPanel 36 = .ok (.aload_n 0, 1) := by decide +kernel
theorem dX4_numberOfPanel_37 : decode cX4_numberOfPanel 37 = .ok (.getfield 12, 3) := by decide +kernel
theorem dX4_numberOfPanel_40 : decode cX4_numberOfPanel 40 = .ok (.getfield 205, 3) := by decide +kernel
theorem dX4_numberOfPanel_43 : decode cX4_numberOfPanel 43 = .ok (.iload_n 1, 1) := by decide +kernel
theorem dX4_numberOfPanel_44 : decode cX4_numberOfPanel 44 = .ok (.invokestatic 201, 3) := by decide +kernel
theorem dX4_numberOfPanel_47 : decode cX4_numberOfPanel 47 = .ok (.ireturn, 1) := by decide +kernel
theorem dX4_numberOfPanel_48 : decode cX4_numberOfPanel 48 = .ok (.aload_n 0, 1) := by decide +kernel
theorem dX4_numberOfPanel_49 : decode cX4_numberOfPanel 49 = .ok (.getfield 12, 3) := by decide +kernel
theorem dX4_numberOfPanel_52 : decode cX4_numberOfPanel 52 = .ok (.getfield 95, 3) := by decide +kernel
theorem dX4_numberOfPanel_55 : decode cX4_numberOfPanel 55 = .ok (.iload_n 1, 1) := by decide +kernel
theorem dX4_numberOfPanel_56 : decode cX4_numberOfPanel 56 = .ok (.invokestatic 201, 3) := by decide +kernel
theorem dX4_numberOfPanel_59 : decode cX4_numberOfPanel 59 = .ok (.ireturn, 1) := by decide +kernel
theorem dX4_numberOfPanel_60 : decode cX4_numberOfPanel 60 = .ok (.aload_n 0, 1) := by decide +kernel
theorem dX4_numberOfPanel_61 : decode cX4_numberOfPanel 61 = .ok (.getfield 12, 3) := by decide +kernel
theorem dX4_numberOfPanel_64 : decode cX4_numberOfPanel 64 = .ok (.getfield 103, 3) := by decide +kernel
theorem dX4_numberOfPanel_67 : decode cX4_numberOfPanel 67 = .ok (.iload_n 1, 1) := by decide +kernel
theorem dX4_numberOfPanel_68 : decode cX4_numberOfPanel 68 = .ok (.invokestatic 201, 3) := by decide +kernel
theorem dX4_numberOfPanel_71 : decode cX4_numberOfPanel 71 = .ok (.ireturn, 1) := by decide +kernel
theorem dX4_numberOfPanel_72 : decode cX4_numberOfPanel 72 = .ok (.aload_n 0, 1) := by decide +kernel
theorem dX4_numberOfPanel_73 : decode cX4_numberOfPanel 73 = .ok (.getfield 19, 3) := by decide +kernel
theorem dX4_numberOfPanel_76 : decode cX4_numberOfPanel 76 = .ok (.getfield 208, 3) := by decide +kernel
theorem dX4_numberOfPanel_79 : decode cX4_numberOfPanel 79 = .ok (.iload_n 1, 1) := by decide +kernel
theorem dX4_numberOfPanel_80 : decode cX4_numberOfPanel 80 = .ok (.invokestatic 201, 3) := by decide +kernel
theorem dX4_numberOfPanel_83 : decode cX4_numberOfPanel 83 = .ok (.ireturn, 1) := by decide +kernel
theorem dX4_numberOfPanel_84 : decode cX4_numberOfPanel 84 = .ok (.aload_n 0, 1) := by decide +kernel
theorem dX4_numberOfPanel_85 : decode cX4_numberOfPanel 85 = .ok (.getfield 19, 3) := by decide +kernel
theorem dX4_numberOfPanel_88 : decode cX4_numberOfPanel 88 = .ok (.getfield 211, 3) := by decide +kernel
theorem dX4_numberOfPanel_91 : decode cX4_numberOfPanel 91 = .ok (.iload_n 1, 1) := by decide +kernel
theorem dX4_numberOfPanel_92 : decode cX4_numberOfPanel 92 = .ok (.invokestatic 201, 3) := by decide +kernel
theorem dX4_numberOfPanel_95 : decode cX4_numberOfPanel 95 = .ok (.ireturn, 1) := by decide +kernel
theorem dX4_numberOfPanel_96 : decode cX4_numberOfPanel 96 = .ok (.aload_n 0, 1) := by decide +kernel
theorem dX4_numberOfPanel_97 : decode cX4_numberOfPanel 97 = .ok (.getfield 19, 3) := by decide +kernel
theorem dX4_numberOfPanel_100 : decode cX4_numberOfPanel 100 = .ok (.getfield 214, 3) := by decide +kernel
theorem dX4_numberOfPanel_103 : decode cX4_numberOfPanel 103 = .ok (.iload_n 1, 1) := by decide +kernel
theorem dX4_numberOfPanel_104 : decode cX4_numberOfPanel 104 = .ok (.invokestatic 201, 3) := by decide +kernel
theorem dX4_numberOfPanel_107 : decode cX4_numberOfPanel 107 = .ok (.ireturn, 1) := by decide +kernel
set_option maxRecDepth 20000 in
theorem ggX4_numberInAll_X1_greatestBeats : GoodIn wsX4_numberInAll wsX1_greatestBeats := goodIn_r _ [7, 8, 9, 10, 11, 12, 35, 36, 37, 38, 39, 40, 41, 42, 43, 44, 45, 46, 47, 48, 49] (by decide +kernel) (by decide +kernel)
set_option maxRecDepth 20000 in
theorem gX4_numberInAll_X1_greatestBeats_n223 : GoodIn wsX4_numberInAll (wsX1_greatestBeats) := ggX4_numberInAll_X1_greatestBeats
set_option maxRecDepth 20000 in
theorem ggX4_numberInAll_X1_emptyUnits : GoodIn wsX4_numberInAll wsX1_emptyUnits := goodIn_r _ [15, 16, 17, 35, 36, 37, 38, 39, 40, 41, 42, 43, 44, 45, 46, 47, 48, 49] (by decide +kernel) (by decide +kernel)
set_option maxRecDepth 20000 in
theorem gX4_numberInAll_X1_emptyUnits_n226 : GoodIn wsX4_numberInAll (wsX1_emptyUnits) := ggX4_numberInAll_X1_emptyUnits
set_option maxRecDepth 20000 in
theorem ggX4_numberInAll_X1_greatestDifference : GoodIn wsX4_numberInAll wsX1_greatestDifference := goodIn_r _ [20, 8, 21, 22, 11, 23, 9, 10, 12, 35, 36, 37, 38, 39, 40, 41, 42, 43, 44, 45, 46, 47, 48, 49] (by decide +kernel) (by decide +kernel)
set_option maxRecDepth 20000 in
theorem gX4_numberInAll_X1_greatestDifference_n229 : GoodIn wsX4_numberInAll (wsX1_greatestDifference) := ggX4_numberInAll_X1_greatestDifference
theorem dX4_numberInAll_0 : decode cX4_numberInAll 0 = .ok (.iload_n 1, 1) := by decide +kernel
theorem dX4_numberInAll_1 : decode cX4_numberInAll 1 = .ok (.tableswitch 119 0 7 #[47, 55, 63, 79, 87, 95, 103, 111], 47) := by decide +kernel
theorem dX4_numberInAll_48 : decode cX4_numberInAll 48 = .ok (.aload_n 0, 1) := by decide +kernel
theorem dX4_numberInAll_49 : decode cX4_numberInAll 49 = .ok (.getfield 12, 3) := by decide +kernel
theorem dX4_numberInAll_52 : decode cX4_numberInAll 52 = .ok (.getfield 43, 3) := by decide +kernel
theorem dX4_numberInAll_55 : decode cX4_numberInAll 55 = .ok (.ireturn, 1) := by decide +kernel
theorem dX4_numberInAll_56 : decode cX4_numberInAll 56 = .ok (.aload_n 0, 1) := by decide +kernel
theorem dX4_numberInAll_57 : decode cX4_numberInAll 57 = .ok (.getfield 19, 3) := by decide +kernel
theorem dX4_numberInAll_60 : decode cX4_numberInAll 60 = .ok (.getfield 106, 3) := by decide +kernel
theorem dX4_numberInAll_63 : decode cX4_numberInAll 63 = .ok (.ireturn, 1) := by decide +kernel
theorem dX4_numberInAll_64 : decode cX4_numberInAll 64 = .ok (.aload_n 0, 1) := by decide +kernel
theorem dX4_numberInAll_65 : decode cX4_numberInAll 65 = .ok (.getfield 19, 3) := by decide +kernel
theorem dX4_numberInAll_68 : decode cX4_numberInAll 68 = .ok (.getfield 106, 3) := by decide +kernel
theorem dX4_numberInAll_71 : decode cX4_numberInAll 71 = .ok (.aload_n 0, 1) := by decide +kernel
theorem dX4_numberInAll_72 : decode cX4_numberInAll 72 = .ok (.getfield 19, 3) := by decide +kernel
theorem dX4_numberInAll_75 : decode cX4_numberInAll 75 = .ok (.getfield 217, 3) := by decide +kernel
theorem dX4_numberInAll_78 : decode cX4_numberInAll 78 = .ok (.isub, 1) := by decide +kernel
theorem dX4_numberInAll_79 : decode cX4_numberInAll 79 = .ok (.ireturn, 1) := by decide +kernel
theorem dX4_numberInAll_80 : decode cX4_numberInAll 80 = .ok (.aload_n 0, 1) := by decide +kernel
theorem dX4_numberInAll_81 : decode cX4_numberInAll 81 = .ok (.getfield 19, 3) := by decide +kernel
theorem dX4_numberInAll_84 : decode cX4_numberInAll 84 = .ok (.getfield 220, 3) := by decide +kernel
theorem dX4_numberInAll_87 : decode cX4_numberInAll 87 = .ok (.ireturn, 1) := by decide +kernel
theorem dX4_numberInAll_88 : decode cX4_numberInAll 88 = .ok (.aload_n 0, 1) := by decide +kernel
theorem dX4_numberInAll_89 : decode cX4_numberInAll 89 = .ok (.getfield 19, 3) := by decide +kernel
theorem dX4_numberInAll_92 : decode cX4_numberInAll 92 = .ok (.invokevirtual 223, 3) := by decide +kernel
theorem dX4_numberInAll_95 : decode cX4_numberInAll 95 = .ok (.ireturn, 1) := by decide +kernel
theorem dX4_numberInAll_96 : decode cX4_numberInAll 96 = .ok (.aload_n 0, 1) := by decide +kernel
theorem dX4_numberInAll_97 : decode cX4_numberInAll 97 = .ok (.getfield 19, 3) := by decide +kernel
theorem dX4_numberInAll_100 : decode cX4_numberInAll 100 = .ok (.invokevirtual 226, 3) := by decide +kernel
theorem dX4_numberInAll_103 : decode cX4_numberInAll 103 = .ok (.ireturn, 1) := by decide +kernel
theorem dX4_numberInAll_104 : decode cX4_numberInAll 104 = .ok (.aload_n 0, 1) := by decide +kernel
theorem dX4_numberInAll_105 : decode cX4_numberInAll 105 = .ok (.getfield 19, 3) := by decide +kernel
theorem dX4_numberInAll_108 : decode cX4_numberInAll 108 = .ok (.invokevirtual 229, 3) := by decide +kernel
theorem dX4_numberInAll_111 : decode cX4_numberInAll 111 = .ok (.ireturn, 1) := by decide +kernel
theorem dX4_numberInAll_112 : decode cX4_numberInAll 112 = .ok (.aload_n 0, 1) := by decide +kernel
theorem dX4_numberInAll_113 : decode cX4_numberInAll 113 = .ok (.getfield 12, 3) := by decide +kernel
theorem dX4_numberInAll_116 : decode cX4_numberInAll 116 = .ok (.getfield 111, 3) := by decide +kernel
theorem dX4_numberInAll_119 : decode cX4_numberInAll 119 = .ok (.ireturn, 1) := by decide +kernel
theorem dX4_numberInAll_120 : decode cX4_numberInAll 120 = .ok (.aload_n 0, 1) := by decide +kernel
theorem dX4_numberInAll_121 : decode cX4_numberInAll 121 = .ok (.getfield 32, 3) := by decide +kernel
theorem dX4_numberInAll_124 : decode cX4_numberInAll 124 = .ok (.getfield 137, 3) := by decide +kernel
theorem dX4_numberInAll_127 : decode cX4_numberInAll 127 = .ok (.ireturn, 1) := by decide +kernel
set_option maxRecDepth 20000 in
theorem ggX4_panelAt_X4_read : GoodIn wsX4_panelAt wsX4_read := goodIn_r _ [6] (by decide +kernel) (by decide +kernel)
set_option maxRecDepth 20000 in
theorem gX4_panelAt_X4_read : GoodIn wsX4_panelAt (va_wsS RX4 201 yX4_read wsX4_read) := goodIn_app (goodIn_of _ (by decide +kernel)) ggX4_panelAt_X4_read
theorem dX4_panelAt_0 : decode cX4_panelAt 0 = .ok (.aload_n 0, 1) := by decide +kernel
theorem dX4_panelAt_1 : decode cX4_panelAt 1 = .ok (.getfield 19, 3) := by decide +kernel
theorem dX4_panelAt_4 : decode cX4_panelAt 4 = .ok (.getfield 232, 3) := by decide +kernel
theorem dX4_panelAt_7 : decode cX4_panelAt 7 = .ok (.iload_n 1, 1) := by decide +kernel
theorem dX4_panelAt_8 : decode cX4_panelAt 8 = .ok (.invokestatic 201, 3) := by decide +kernel
theorem dX4_panelAt_11 : decode cX4_panelAt 11 = .ok (.istore 4, 2) := by decide +kernel
theorem dX4_panelAt_13 : decode cX4_panelAt 13 = .ok (.iload 4, 2) := by decide +kernel
theorem dX4_panelAt_15 : decode cX4_panelAt 15 = .ok (.aload_n 0, 1) := by decide +kernel
theorem dX4_panelAt_16 : decode cX4_panelAt 16 = .ok (.getfield 19, 3) := by decide +kernel
theorem dX4_panelAt_19 : decode cX4_panelAt 19 = .ok (.getfield 235, 3) := by decide +kernel
theorem dX4_panelAt_22 : decode cX4_panelAt 22 = .ok (.iload_n 1, 1) := by decide +kernel
theorem dX4_panelAt_23 : decode cX4_panelAt 23 = .ok (.invokestatic 201, 3) := by decide +kernel
theorem dX4_panelAt_26 : decode cX4_panelAt 26 = .ok (.iadd, 1) := by decide +kernel
theorem dX4_panelAt_27 : decode cX4_panelAt 27 = .ok (.istore 5, 2) := by decide +kernel
theorem dX4_panelAt_29 : decode cX4_panelAt 29 = .ok (.iload 4, 2) := by decide +kernel
theorem dX4_panelAt_31 : decode cX4_panelAt 31 = .ok (.istore 6, 2) := by decide +kernel
theorem dX4_panelAt_33 : decode cX4_panelAt 33 = .ok (.iload 6, 2) := by decide +kernel
theorem dX4_panelAt_35 : decode cX4_panelAt 35 = .ok (.iload 5, 2) := by decide +kernel
theorem dX4_panelAt_37 : decode cX4_panelAt 37 = .ok (.if_icmp .ge 80, 3) := by decide +kernel
theorem dX4_panelAt_40 : decode cX4_panelAt 40 = .ok (.aload_n 0, 1) := by decide +kernel
theorem dX4_panelAt_41 : decode cX4_panelAt 41 = .ok (.getfield 19, 3) := by decide +kernel
theorem dX4_panelAt_44 : decode cX4_panelAt 44 = .ok (.getfield 211, 3) := by decide +kernel
theorem dX4_panelAt_47 : decode cX4_panelAt 47 = .ok (.iload 6, 2) := by decide +kernel
theorem dX4_panelAt_49 : decode cX4_panelAt 49 = .ok (.invokestatic 201, 3) := by decide +kernel
theorem dX4_panelAt_52 : decode cX4_panelAt 52 = .ok (.istore 7, 2) := by decide +kernel
theorem dX4_panelAt_54 : decode cX4_panelAt 54 = .ok (.aload_n 0, 1) := by decide +kernel
theorem dX4_panelAt_55 : decode cX4_panelAt 55 = .ok (.getfield 19, 3) := by decide +kernel
theorem dX4_panelAt_58 : decode cX4_panelAt 58 = .ok (.getfield 214, 3) := by decide +kernel
theorem dX4_panelAt_61 : decode cX4_panelAt 61 = .ok (.iload 6, 2) := by decide +kernel
theorem dX4_panelAt_63 : decode cX4_panelAt 63 = .ok (.invokestatic 201, 3) := by decide +kernel
theorem dX4_panelAt_66 : decode cX4_panelAt 66 = .ok (.istore 8, 2) := by decide +kernel
theorem dX4_panelAt_68 : decode cX4_panelAt 68 = .ok (.iload 7, 2) := by decide +kernel
theorem dX4_panelAt_70 : decode cX4_panelAt 70 = .ok (.iconst (-1), 1) := by decide +kernel
theorem dX4_panelAt_71 : decode cX4_panelAt 71 = .ok (.if_icmp .ne 6, 3) := by decide +kernel
theorem dX4_panelAt_74 : decode cX4_panelAt 74 = .ok (.iload 6, 2) := by decide +kernel
theorem dX4_panelAt_76 : decode cX4_panelAt 76 = .ok (.ireturn, 1) := by decide +kernel
theorem dX4_panelAt_77 : decode cX4_panelAt 77 = .ok (.iload 7, 2) := by decide +kernel
theorem dX4_panelAt_79 : decode cX4_panelAt 79 = .ok (.iload_n 2, 1) := by decide +kernel
theorem dX4_panelAt_80 : decode cX4_panelAt 80 = .ok (.if_icmp .ne 31, 3) := by decide +kernel
theorem dX4_panelAt_83 : decode cX4_panelAt 83 = .ok (.iload_n 3, 1) := by decide +kernel
theorem dX4_panelAt_84 : decode cX4_panelAt 84 = .ok (.iload 8, 2) := by decide +kernel
theorem dX4_panelAt_86 : decode cX4_panelAt 86 = .ok (.if_icmp .lt 25, 3) := by decide +kernel
theorem dX4_panelAt_89 : decode cX4_panelAt 89 = .ok (.iload_n 3, 1) := by decide +kernel
theorem dX4_panelAt_90 : decode cX4_panelAt 90 = .ok (.iload 8, 2) := by decide +kernel
theorem dX4_panelAt_92 : decode cX4_panelAt 92 = .ok (.aload_n 0, 1) := by decide +kernel
theorem dX4_panelAt_93 : decode cX4_panelAt 93 = .ok (.getfield 12, 3) := by decide +kernel
theorem dX4_panelAt_96 : decode cX4_panelAt 96 = .ok (.getfield 95, 3) := by decide +kernel
theorem dX4_panelAt_99 : decode cX4_panelAt 99 = .ok (.iload 6, 2) := by decide +kernel
theorem dX4_panelAt_101 : decode cX4_panelAt 101 = .ok (.invokestatic 201, 3) := by decide +kernel
theorem dX4_panelAt_104 : decode cX4_panelAt 104 = .ok (.iadd, 1) := by decide +kernel
theorem dX4_panelAt_105 : decode cX4_panelAt 105 = .ok (.if_icmp .ge 6, 3) := by decide +kernel
theorem dX4_panelAt_108 : decode cX4_panelAt 108 = .ok (.iload 6, 2) := by decide +kernel
theorem dX4_panelAt_110 : decode cX4_panelAt 110 = .ok (.ireturn, 1) := by decide +kernel
theorem dX4_panelAt_111 : decode cX4_panelAt 111 = .ok (.iinc 6 1, 3) := by decide +kernel
theorem dX4_panelAt_114 : decode cX4_panelAt 114 = .ok (.goto (-81), 3) := by decide +kernel
theorem dX4_panelAt_117 : decode cX4_panelAt 117 = .ok (.iconst (-1), 1) := by decide +kernel
theorem dX4_panelAt_118 : decode cX4_panelAt 118 = .ok (.ireturn, 1) := by decide +kernel
theorem dX4_shareOfFilled_0 : decode cX4_shareOfFilled 0 = .ok (.aload_n 0, 1) := by decide +kernel
theorem dX4_shareOfFilled_1 : decode cX4_shareOfFilled 1 = .ok (.getfield 19, 3) := by decide +kernel
theorem dX4_shareOfFilled_4 : decode cX4_shareOfFilled 4 = .ok (.getfield 217, 3) := by decide +kernel
theorem dX4_shareOfFilled_7 : decode cX4_shareOfFilled 7 = .ok (.bipush 24, 2) := by decide +kernel
theorem dX4_shareOfFilled_9 : decode cX4_shareOfFilled 9 = .ok (.imul, 1) := by decide +kernel
theorem dX4_shareOfFilled_10 : decode cX4_shareOfFilled 10 = .ok (.istore_n 1, 1) := by decide +kernel
theorem dX4_shareOfFilled_11 : decode cX4_shareOfFilled 11 = .ok (.iload_n 1, 1) := by decide +kernel
theorem dX4_shareOfFilled_12 : decode cX4_shareOfFilled 12 = .ok (.ifCond .gt 5, 3) := by decide +kernel
theorem dX4_shareOfFilled_15 : decode cX4_shareOfFilled 15 = .ok (.dconst 1, 1) := by decide +kernel
theorem dX4_shareOfFilled_16 : decode cX4_shareOfFilled 16 = .ok (.dreturn, 1) := by decide +kernel
theorem dX4_shareOfFilled_17 : decode cX4_shareOfFilled 17 = .ok (.aload_n 0, 1) := by decide +kernel
theorem dX4_shareOfFilled_18 : decode cX4_shareOfFilled 18 = .ok (.getfield 19, 3) := by decide +kernel
theorem dX4_shareOfFilled_21 : decode cX4_shareOfFilled 21 = .ok (.getfield 238, 3) := by decide +kernel
theorem dX4_shareOfFilled_24 : decode cX4_shareOfFilled 24 = .ok (.i2d, 1) := by decide +kernel
theorem dX4_shareOfFilled_25 : decode cX4_shareOfFilled 25 = .ok (.iload_n 1, 1) := by decide +kernel
theorem dX4_shareOfFilled_26 : decode cX4_shareOfFilled 26 = .ok (.i2d, 1) := by decide +kernel
theorem dX4_shareOfFilled_27 : decode cX4_shareOfFilled 27 = .ok (.ddiv, 1) := by decide +kernel
theorem dX4_shareOfFilled_28 : decode cX4_shareOfFilled 28 = .ok (.dreturn, 1) := by decide +kernel
set_option maxRecDepth 20000 in
theorem ggX4_afterExchange_X2_copyFrom : GoodIn wsX4_afterExchange wsX2_copyFrom := goodIn_r _ [7, 8, 9, 10, 11, 12, 13, 14, 15, 16, 114, 115, 116, 117, 118] (by decide +kernel) (by decide +kernel)
set_option maxRecDepth 20000 in
theorem gX4_afterExchange_X2_copyFrom_n241 : GoodIn wsX4_afterExchange (wsX2_copyFrom) := ggX4_afterExchange_X2_copyFrom
set_option maxRecDepth 20000 in
theorem ggX4_afterExchange_X2_exchangeWithNext : GoodIn wsX4_afterExchange wsX2_exchangeWithNext := goodIn_r _ [19, 8, 13, 14, 20, 21, 5, 22, 23, 24, 25, 26, 27, 114, 115, 116, 117, 118] (by decide +kernel) (by decide +kernel)
set_option maxRecDepth 20000 in
theorem gX4_afterExchange_X2_exchangeWithNext_n244 : GoodIn wsX4_afterExchange (wsX2_exchangeWithNext) := ggX4_afterExchange_X2_exchangeWithNext
set_option maxRecDepth 20000 in
theorem ggX4_afterExchange_X1_pour : GoodIn wsX4_afterExchange wsX1_pour := goodIn_r _ [31, 32, 33, 34, 35, 29, 36, 37, 38, 39, 40, 41, 42, 43, 44, 45, 46, 47, 48, 49, 50, 51, 52, 53, 54, 55, 23, 24, 25, 56, 57, 58, 59, 60, 61, 62, 63, 64, 65, 66, 67, 68, 69, 70, 71, 72, 73, 74, 75, 76, 77, 78, 79, 80, 81, 82, 83, 84, 85, 86, 87, 88, 89, 26, 27, 114, 115, 116, 117, 118, 99, 100, 101, 102, 103, 104, 105, 106, 107, 108, 109, 110, 111, 112, 113] (by decide +kernel) (by decide +kernel)
set_option maxRecDepth 20000 in
theorem gX4_afterExchange_X1_pour_n80 : GoodIn wsX4_afterExchange (wsX1_pour) := ggX4_afterExchange_X1_pour
set_option maxRecDepth 20000 in
theorem ggX4_afterExchange_X1_emptyUnits : GoodIn wsX4_afterExchange wsX1_emptyUnits := goodIn_r _ [92, 43, 44, 99, 100, 101, 102, 103, 104, 105, 106, 107, 108, 109, 110, 111, 112, 113] (by decide +kernel) (by decide +kernel)
set_option maxRecDepth 20000 in
theorem gX4_afterExchange_X1_emptyUnits_n226 : GoodIn wsX4_afterExchange (wsX1_emptyUnits) := ggX4_afterExchange_X1_emptyUnits
theorem dX4_afterExchange_0 : decode cX4_afterExchange 0 = .ok (.aload_n 0, 1) := by decide +kernel
theorem dX4_afterExchange_1 : decode cX4_afterExchange 1 = .ok (.getfield 23, 3) := by decide +kernel
theorem dX4_afterExchange_4 : decode cX4_afterExchange 4 = .ok (.aload_n 0, 1) := by decide +kernel
theorem dX4_afterExchange_5 : decode cX4_afterExchange 5 = .ok (.getfield 12, 3) := by decide +kernel
theorem dX4_afterExchange_8 : decode cX4_afterExchange 8 = .ok (.invokevirtual 241, 3) := by decide +kernel
theorem dX4_afterExchange_11 : decode cX4_afterExchange 11 = .ok (.aload_n 0, 1) := by decide +kernel
theorem dX4_afterExchange_12 : decode cX4_afterExchange 12 = .ok (.getfield 23, 3) := by decide +kernel
theorem dX4_afterExchange_15 : decode cX4_afterExchange 15 = .ok (.iload_n 1, 1) := by decide +kernel
theorem dX4_afterExchange_16 : decode cX4_afterExchange 16 = .ok (.invokevirtual 244, 3) := by decide +kernel
theorem dX4_afterExchange_19 : decode cX4_afterExchange 19 = .ok (.aload_n 0, 1) := by decide +kernel
theorem dX4_afterExchange_20 : decode cX4_afterExchange 20 = .ok (.getfield 26, 3) := by decide +kernel
theorem dX4_afterExchange_23 : decode cX4_afterExchange 23 = .ok (.aload_n 0, 1) := by decide +kernel
theorem dX4_afterExchange_24 : decode cX4_afterExchange 24 = .ok (.getfield 23, 3) := by decide +kernel
theorem dX4_afterExchange_27 : decode cX4_afterExchange 27 = .ok (.invokevirtual 80, 3) := by decide +kernel
theorem dX4_afterExchange_30 : decode cX4_afterExchange 30 = .ok (.iload_n 2, 1) := by decide +kernel
theorem dX4_afterExchange_31 : decode cX4_afterExchange 31 = .ok (.ifCond .ne 13, 3) := by decide +kernel
theorem dX4_afterExchange_34 : decode cX4_afterExchange 34 = .ok (.aload_n 0, 1) := by decide +kernel
theorem dX4_afterExchange_35 : decode cX4_afterExchange 35 = .ok (.getfield 26, 3) := by decide +kernel
theorem dX4_afterExchange_38 : decode cX4_afterExchange 38 = .ok (.getfield 106, 3) := by decide +kernel
theorem dX4_afterExchange_41 : decode cX4_afterExchange 41 = .ok (.goto 10, 3) := by decide +kernel
theorem dX4_afterExchange_44 : decode cX4_afterExchange 44 = .ok (.aload_n 0, 1) := by decide +kernel
theorem dX4_afterExchange_45 : decode cX4_afterExchange 45 = .ok (.getfield 26, 3) := by decide +kernel
theorem dX4_afterExchange_48 : decode cX4_afterExchange 48 = .ok (.invokevirtual 226, 3) := by decide +kernel
theorem dX4_afterExchange_51 : decode cX4_afterExchange 51 = .ok (.ireturn, 1) := by decide +kernel
set_option maxRecDepth 20000 in
theorem ggX4_leastThatServes_X2_copyFrom : GoodIn wsX4_leastThatServes wsX2_copyFrom := goodIn_r _ [8, 9, 10, 11, 12, 13, 14, 15, 16, 17, 91, 92, 93, 94, 95] (by decide +kernel) (by decide +kernel)
set_option maxRecDepth 20000 in
theorem gX4_leastThatServes_X2_copyFrom_n241 : GoodIn wsX4_leastThatServes (wsX2_copyFrom) := ggX4_leastThatServes_X2_copyFrom
set_option maxRecDepth 20000 in
theorem ggX4_leastThatServes_X1_pour : GoodIn wsX4_leastThatServes wsX1_pour := goodIn_r _ [21, 22, 23, 24, 25, 19, 26, 27, 28, 29, 30, 31, 32, 33, 34, 35, 36, 37, 38, 39, 40, 41, 42, 43, 44, 45, 46, 47, 48, 49, 50, 51, 52, 53, 54, 55, 56, 57, 58, 59, 60, 61, 62, 63, 64, 65, 66, 67, 68, 69, 70, 71, 72, 73, 74, 75, 76, 77, 78, 79, 80, 81, 82, 83, 84, 91, 92, 93, 94, 95, 96, 97, 98, 99, 100, 101, 102, 103, 104, 105, 106, 107, 108, 109, 110] (by decide +kernel) (by decide +kernel)
set_option maxRecDepth 20000 in
theorem gX4_leastThatServes_X1_pour_n80 : GoodIn wsX4_leastThatServes (wsX1_pour) := ggX4_leastThatServes_X1_pour
theorem dX4_leastThatServes_0 : decode cX4_leastThatServes 0 = .ok (.aload_n 0, 1) := by decide +kernel
theorem dX4_leastThatServes_1 : decode cX4_leastThatServes 1 = .ok (.getfield 23, 3) := by decide +kernel
theorem dX4_leastThatServes_4 : decode cX4_leastThatServes 4 = .ok (.aload_n 0, 1) := by decide +kernel
theorem dX4_leastThatServes_5 : decode cX4_leastThatServes 5 = .ok (.getfield 12, 3) := by decide +kernel
theorem dX4_leastThatServes_8 : decode cX4_leastThatServes 8 = .ok (.invokevirtual 241, 3) := by decide +kernel
theorem dX4_leastThatServes_11 : decode cX4_leastThatServes 11 = .ok (.bipush 9, 2) := by decide +kernel
theorem dX4_leastThatServes_13 : decode cX4_leastThatServes 13 = .ok (.istore_n 1, 1) := by decide +kernel
theorem dX4_leastThatServes_14 : decode cX4_leastThatServes 14 = .ok (.iload_n 1, 1) := by decide +kernel
theorem dX4_leastThatServes_15 : decode cX4_leastThatServes 15 = .ok (.aload_n 0, 1) := by decide +kernel
theorem dX4_leastThatServes_16 : decode cX4_leastThatServes 16 = .ok (.getfield 12, 3) := by decide +kernel
theorem dX4_leastThatServes_19 : decode cX4_leastThatServes 19 = .ok (.getfield 111, 3) := by decide +kernel
theorem dX4_leastThatServes_22 : decode cX4_leastThatServes 22 = .ok (.if_icmp .ge 64, 3) := by decide +kernel
theorem dX4_leastThatServes_25 : decode cX4_leastThatServes 25 = .ok (.aload_n 0, 1) := by decide +kernel
theorem dX4_leastThatServes_26 : decode cX4_leastThatServes 26 = .ok (.getfield 23, 3) := by decide +kernel
theorem dX4_leastThatServes_29 : decode cX4_leastThatServes 29 = .ok (.iload_n 1, 1) := by decide +kernel
theorem dX4_leastThatServes_30 : decode cX4_leastThatServes 30 = .ok (.putfield 111, 3) := by decide +kernel
theorem dX4_leastThatServes_33 : decode cX4_leastThatServes 33 = .ok (.aload_n 0, 1) := by decide +kernel
theorem dX4_leastThatServes_34 : decode cX4_leastThatServes 34 = .ok (.getfield 26, 3) := by decide +kernel
theorem dX4_leastThatServes_37 : decode cX4_leastThatServes 37 = .ok (.aload_n 0, 1) := by decide +kernel
theorem dX4_leastThatServes_38 : decode cX4_leastThatServes 38 = .ok (.getfield 23, 3) := by decide +kernel
theorem dX4_leastThatServes_41 : decode cX4_leastThatServes 41 = .ok (.invokevirtual 80, 3) := by decide +kernel
theorem dX4_leastThatServes_44 : decode cX4_leastThatServes 44 = .ok (.aload_n 0, 1) := by decide +kernel
theorem dX4_leastThatServes_45 : decode cX4_leastThatServes 45 = .ok (.getfield 26, 3) := by decide +kernel
theorem dX4_leastThatServes_48 : decode cX4_leastThatServes 48 = .ok (.getfield 106, 3) := by decide +kernel
theorem dX4_leastThatServes_51 : decode cX4_leastThatServes 51 = .ok (.aload_n 0, 1) := by decide +kernel
theorem dX4_leastThatServes_52 : decode cX4_leastThatServes 52 = .ok (.getfield 19, 3) := by decide +kernel
theorem dX4_leastThatServes_55 : decode cX4_leastThatServes 55 = .ok (.getfield 106, 3) := by decide +kernel
theorem dX4_leastThatServes_58 : decode cX4_leastThatServes 58 = .ok (.if_icmp .gt 22, 3) := by decide +kernel
theorem dX4_leastThatServes_61 : decode cX4_leastThatServes 61 = .ok (.aload_n 0, 1) := by decide +kernel
theorem dX4_leastThatServes_62 : decode cX4_leastThatServes 62 = .ok (.getfield 26, 3) := by decide +kernel
theorem dX4_leastThatServes_65 : decode cX4_leastThatServes 65 = .ok (.getfield 220, 3) := by decide +kernel
theorem dX4_leastThatServes_68 : decode cX4_leastThatServes 68 = .ok (.aload_n 0, 1) := by decide +kernel
theorem dX4_leastThatServes_69 : decode cX4_leastThatServes 69 = .ok (.getfield 19, 3) := by decide +kernel
theorem dX4_leastThatServes_72 : decode cX4_leastThatServes 72 = .ok (.getfield 220, 3) := by decide +kernel
theorem dX4_leastThatServes_75 : decode cX4_leastThatServes 75 = .ok (.if_icmp .gt 5, 3) := by decide +kernel
theorem dX4_leastThatServes_78 : decode cX4_leastThatServes 78 = .ok (.iload_n 1, 1) := by decide +kernel
theorem dX4_leastThatServes_79 : decode cX4_leastThatServes 79 = .ok (.ireturn, 1) := by decide +kernel
theorem dX4_leastThatServes_80 : decode cX4_leastThatServes 80 = .ok (.iinc 1 1, 3) := by decide +kernel
theorem dX4_leastThatServes_83 : decode cX4_leastThatServes 83 = .ok (.goto (-69), 3) := by decide +kernel
theorem dX4_leastThatServes_86 : decode cX4_leastThatServes 86 = .ok (.aload_n 0, 1) := by decide +kernel
theorem dX4_leastThatServes_87 : decode cX4_leastThatServes 87 = .ok (.getfield 12, 3) := by decide +kernel
theorem dX4_leastThatServes_90 : decode cX4_leastThatServes 90 = .ok (.getfield 111, 3) := by decide +kernel
theorem dX4_leastThatServes_93 : decode cX4_leastThatServes 93 = .ok (.ireturn, 1) := by decide +kernel
set_option maxRecDepth 20000 in
theorem ggX4_widthOfLeastCost_X2_copyFrom : GoodIn wsX4_widthOfLeastCost wsX2_copyFrom := goodIn_r _ [7, 8, 9, 10, 11, 12, 13, 14, 15, 16, 98, 99, 100, 101, 102] (by decide +kernel) (by decide +kernel)
set_option maxRecDepth 20000 in
theorem gX4_widthOfLeastCost_X2_copyFrom_n241 : GoodIn wsX4_widthOfLeastCost (wsX2_copyFrom) := ggX4_widthOfLeastCost_X2_copyFrom
set_option maxRecDepth 20000 in
theorem ggX4_widthOfLeastCost_X4_write : GoodIn wsX4_widthOfLeastCost wsX4_write := goodIn_r _ [20] (by decide +kernel) (by decide +kernel)
set_option maxRecDepth 20000 in
theorem gX4_widthOfLeastCost_X4_write : GoodIn wsX4_widthOfLeastCost (va_wsS RX4 99 yX4_write wsX4_write) := goodIn_app (goodIn_of _ (by decide +kernel)) ggX4_widthOfLeastCost_X4_write
set_option maxRecDepth 20000 in
theorem ggX4_widthOfLeastCost_X1_pour : GoodIn wsX4_widthOfLeastCost wsX1_pour := goodIn_r _ [24, 25, 26, 27, 28, 22, 29, 30, 31, 32, 33, 34, 35, 36, 37, 38, 39, 40, 41, 42, 43, 44, 45, 46, 47, 48, 49, 19, 50, 51, 52, 53, 54, 55, 56, 57, 58, 59, 60, 61, 62, 63, 64, 65, 66, 67, 68, 69, 70, 71, 72, 73, 74, 75, 76, 77, 78, 79, 80, 81, 82, 83, 84, 18, 20, 98, 99, 100, 101, 102, 103, 104, 105, 106, 107, 108, 109, 110, 111, 112, 113, 114, 115, 116, 117] (by decide +kernel) (by decide +kernel)
set_option maxRecDepth 20000 in
theorem gX4_widthOfLeastCost_X1_pour_n80 : GoodIn wsX4_widthOfLeastCost (wsX1_pour) := ggX4_widthOfLeastCost_X1_pour
set_option maxRecDepth 20000 in
theorem ggX4_widthOfLeastCost_X1_cost : GoodIn wsX4_widthOfLeastCost wsX1_cost := goodIn_r _ [87, 25, 35, 88, 89, 90, 22, 91, 36, 37, 103, 104, 105, 106, 107, 108, 109, 110, 111, 112, 113, 114, 115, 116, 117] (by decide +kernel) (by decide +kernel)
set_option maxRecDepth 20000 in
theorem gX4_widthOfLeastCost_X1_cost_n247 : GoodIn wsX4_widthOfLeastCost (wsX1_cost) := ggX4_widthOfLeastCost_X1_cost
theorem dX4_widthOfLeastCost_0 : decode cX4_widthOfLeastCost 0 = .ok (.aload_n 0, 1) := by decide +kernel
theorem dX4_widthOfLeastCost_1 : decode cX4_widthOfLeastCost 1 = .ok (.getfield 23, 3) := by decide +kernel
theorem dX4_widthOfLeastCost_4 : decode cX4_widthOfLeastCost 4 = .ok (.aload_n 0, 1) := by decide +kernel
theorem dX4_widthOfLeastCost_5 : decode cX4_widthOfLeastCost 5 = .ok (.getfield 12, 3) := by decide +kernel
theorem dX4_widthOfLeastCost_8 : decode cX4_widthOfLeastCost 8 = .ok (.invokevirtual 241, 3) := by decide +kernel
theorem dX4_widthOfLeastCost_11 : decode cX4_widthOfLeastCost 11 = .ok (.iconst (-1), 1) := by decide +kernel
theorem dX4_widthOfLeastCost_12 : decode cX4_widthOfLeastCost 12 = .ok (.istore_n 2, 1) := by decide +kernel
theorem dX4_widthOfLeastCost_13 : decode cX4_widthOfLeastCost 13 = .ok (.iconst 0, 1) := by decide +kernel
theorem dX4_widthOfLeastCost_14 : decode cX4_widthOfLeastCost 14 = .ok (.istore_n 3, 1) := by decide +kernel
theorem dX4_widthOfLeastCost_15 : decode cX4_widthOfLeastCost 15 = .ok (.iconst 1, 1) := by decide +kernel
theorem dX4_widthOfLeastCost_16 : decode cX4_widthOfLeastCost 16 = .ok (.istore 4, 2) := by decide +kernel
theorem dX4_widthOfLeastCost_18 : decode cX4_widthOfLeastCost 18 = .ok (.iload 4, 2) := by decide +kernel
theorem dX4_widthOfLeastCost_20 : decode cX4_widthOfLeastCost 20 = .ok (.bipush 6, 2) := by decide +kernel
theorem dX4_widthOfLeastCost_22 : decode cX4_widthOfLeastCost 22 = .ok (.if_icmp .gt 59, 3) := by decide +kernel
theorem dX4_widthOfLeastCost_25 : decode cX4_widthOfLeastCost 25 = .ok (.aload_n 0, 1) := by decide +kernel
theorem dX4_widthOfLeastCost_26 : decode cX4_widthOfLeastCost 26 = .ok (.getfield 23, 3) := by decide +kernel
theorem dX4_widthOfLeastCost_29 : decode cX4_widthOfLeastCost 29 = .ok (.getfield 95, 3) := by decide +kernel
theorem dX4_widthOfLeastCost_32 : decode cX4_widthOfLeastCost 32 = .ok (.iload_n 1, 1) := by decide +kernel
theorem dX4_widthOfLeastCost_33 : decode cX4_widthOfLeastCost 33 = .ok (.iload 4, 2) := by decide +kernel
theorem dX4_widthOfLeastCost_35 : decode cX4_widthOfLeastCost 35 = .ok (.invokestatic 99, 3) := by decide +kernel
theorem dX4_widthOfLeastCost_38 : decode cX4_widthOfLeastCost 38 = .ok (.aload_n 0, 1) := by decide +kernel
theorem dX4_widthOfLeastCost_39 : decode cX4_widthOfLeastCost 39 = .ok (.getfield 26, 3) := by decide +kernel
theorem dX4_widthOfLeastCost_42 : decode cX4_widthOfLeastCost 42 = .ok (.aload_n 0, 1) := by decide +kernel
theorem dX4_widthOfLeastCost_43 : decode cX4_widthOfLeastCost 43 = .ok (.getfield 23, 3) := by decide +kernel
theorem dX4_widthOfLeastCost_46 : decode cX4_widthOfLeastCost 46 = .ok (.invokevirtual 80, 3) := by decide +kernel
theorem dX4_widthOfLeastCost_49 : decode cX4_widthOfLeastCost 49 = .ok (.aload_n 0, 1) := by decide +kernel
theorem dX4_widthOfLeastCost_50 : decode cX4_widthOfLeastCost 50 = .ok (.getfield 26, 3) := by decide +kernel
theorem dX4_widthOfLeastCost_53 : decode cX4_widthOfLeastCost 53 = .ok (.invokevirtual 247, 3) := by decide +kernel
theorem dX4_widthOfLeastCost_56 : decode cX4_widthOfLeastCost 56 = .ok (.istore 5, 2) := by decide +kernel
theorem dX4_widthOfLeastCost_58 : decode cX4_widthOfLeastCost 58 = .ok (.iload_n 2, 1) := by decide +kernel
theorem dX4_widthOfLeastCost_59 : decode cX4_widthOfLeastCost 59 = .ok (.iconst (-1), 1) := by decide +kernel
theorem dX4_widthOfLeastCost_60 : decode cX4_widthOfLeastCost 60 = .ok (.if_icmp .eq 9, 3) := by decide +kernel
theorem dX4_widthOfLeastCost_63 : decode cX4_widthOfLeastCost 63 = .ok (.iload 5, 2) := by decide +kernel
theorem dX4_widthOfLeastCost_65 : decode cX4_widthOfLeastCost 65 = .ok (.iload_n 3, 1) := by decide +kernel
theorem dX4_widthOfLeastCost_66 : decode cX4_widthOfLeastCost 66 = .ok (.if_icmp .ge 9, 3) := by decide +kernel
theorem dX4_widthOfLeastCost_69 : decode cX4_widthOfLeastCost 69 = .ok (.iload 4, 2) := by decide +kernel
theorem dX4_widthOfLeastCost_71 : decode cX4_widthOfLeastCost 71 = .ok (.istore_n 2, 1) := by decide +kernel
theorem dX4_widthOfLeastCost_72 : decode cX4_widthOfLeastCost 72 = .ok (.iload 5, 2) := by decide +kernel
theorem dX4_widthOfLeastCost_74 : decode cX4_widthOfLeastCost 74 = .ok (.istore_n 3, 1) := by decide +kernel
theorem dX4_widthOfLeastCost_75 : decode cX4_widthOfLeastCost 75 = .ok (.iinc 4 1, 3) := by decide +kernel
theorem dX4_widthOfLeastCost_78 : decode cX4_widthOfLeastCost 78 = .ok (.goto (-60), 3) := by decide +kernel
theorem dX4_widthOfLeastCost_81 : decode cX4_widthOfLeastCost 81 = .ok (.iload_n 2, 1) := by decide +kernel
theorem dX4_widthOfLeastCost_82 : decode cX4_widthOfLeastCost 82 = .ok (.ireturn, 1) := by decide +kernel
set_option maxRecDepth 20000 in
theorem ggX4_addPanelsOfText_X4_read : GoodIn wsX4_addPanelsOfText wsX4_read := goodIn_r _ [6] (by decide +kernel) (by decide +kernel)
set_option maxRecDepth 20000 in
theorem gX4_addPanelsOfText_X4_read : GoodIn wsX4_addPanelsOfText (va_wsS RX4 201 yX4_read wsX4_read) := goodIn_app (goodIn_of _ (by decide +kernel)) ggX4_addPanelsOfText_X4_read
set_option maxRecDepth 20000 in
theorem ggX4_addPanelsOfText_X3_kindOf : GoodIn wsX4_addPanelsOfText wsX3_kindOf := goodIn_r _ [9] (by decide +kernel) (by decide +kernel)
set_option maxRecDepth 20000 in
theorem gX4_addPanelsOfText_X3_kindOf_n250 : GoodIn wsX4_addPanelsOfText (wsX3_kindOf) := ggX4_addPanelsOfText_X3_kindOf
set_option maxRecDepth 20000 in
theorem ggX4_addPanelsOfText_X2_insert : GoodIn wsX4_addPanelsOfText wsX2_insert := goodIn_r _ [13, 14, 15, 16, 17, 18, 19, 11, 20, 21, 5, 22, 37, 38, 39, 40, 41] (by decide +kernel) (by decide +kernel)
set_option maxRecDepth 20000 in
theorem gX4_addPanelsOfText_X2_insert_n76 : GoodIn wsX4_addPanelsOfText (wsX2_insert) := ggX4_addPanelsOfText_X2_insert
set_option maxRecDepth 20000 in
theorem ggX4_addPanelsOfText_X3_awaitedBehind : GoodIn wsX4_addPanelsOfText wsX3_awaitedBehind := goodIn_r _ [24, 25, 7, 8, 9, 26, 27, 28, 29, 5, 30] (by decide +kernel) (by decide +kernel)
set_option maxRecDepth 20000 in
theorem gX4_addPanelsOfText_X3_awaitedBehind_n253 : GoodIn wsX4_addPanelsOfText (wsX3_awaitedBehind) := ggX4_addPanelsOfText_X3_awaitedBehind
theorem dX4_addPanelsOfText_0 : decode cX4_addPanelsOfText 0 = .ok (.aload_n 0, 1) := by decide +kernel
theorem dX4_addPanelsOfText_1 : decode cX4_addPanelsOfText 1 = .ok (.getfield 12, 3) := by decide +kernel
theorem dX4_addPanelsOfText_4 : decode cX4_addPanelsOfText 4 = .ok (.getfield 43, 3) := by decide +kernel
theorem dX4_addPanelsOfText_7 : decode cX4_addPanelsOfText 7 = .ok (.istore_n 1, 1) := by decide +kernel
theorem dX4_addPanelsOfText_8 : decode cX4_addPanelsOfText 8 = .ok (.iconst 0, 1) := by decide +kernel
theorem dX4_addPanelsOfText_9 : decode cX4_addPanelsOfText 9 = .ok (.istore_n 2, 1) := by decide +kernel
theorem dX4_addPanelsOfText_10 : decode cX4_addPanelsOfText 10 = .ok (.iconst 0, 1) := by decide +kernel
theorem dX4_addPanelsOfText_11 : decode cX4_addPanelsOfText 11 = .ok (.istore_n 3, 1) := by decide +kernel
theorem dX4_addPanelsOfText_12 : decode cX4_addPanelsOfText 12 = .ok (.bipush 6, 2) := by decide +kernel
theorem dX4_addPanelsOfText_14 : decode cX4_addPanelsOfText 14 = .ok (.istore 4, 2) := by decide +kernel
theorem dX4_addPanelsOfText_16 : decode cX4_addPanelsOfText 16 = .ok (.iconst 0, 1) := by decide +kernel
theorem dX4_addPanelsOfText_17 : decode cX4_addPanelsOfText 17 = .ok (.istore 5, 2) := by decide +kernel
theorem dX4_addPanelsOfText_19 : decode cX4_addPanelsOfText 19 = .ok (.iload 5, 2) := by decide +kernel
theorem dX4_addPanelsOfText_21 : decode cX4_addPanelsOfText 21 = .ok (.aload_n 0, 1) := by decide +kernel
theorem dX4_addPanelsOfText_22 : decode cX4_addPanelsOfText 22 = .ok (.getfield 39, 3) := by decide +kernel
theorem dX4_addPanelsOfText_25 : decode cX4_addPanelsOfText 25 = .ok (.getfield 116, 3) := by decide +kernel
theorem dX4_addPanelsOfText_28 : decode cX4_addPanelsOfText 28 = .ok (.if_icmp .ge 96, 3) := by decide +kernel
theorem dX4_addPanelsOfText_31 : decode cX4_addPanelsOfText 31 = .ok (.aload_n 0, 1) := by decide +kernel
theorem dX4_addPanelsOfText_32 : decode cX4_addPanelsOfText 32 = .ok (.getfield 12, 3) := by decide +kernel
theorem dX4_addPanelsOfText_35 : decode cX4_addPanelsOfText 35 = .ok (.getfield 43, 3) := by decide +kernel
theorem dX4_addPanelsOfText_38 : decode cX4_addPanelsOfText 38 = .ok (.bipush 24, 2) := by decide +kernel
theorem dX4_addPanelsOfText_40 : decode cX4_addPanelsOfText 40 = .ok (.if_icmp .ge 84, 3) := by decide +kernel
theorem dX4_addPanelsOfText_43 : decode cX4_addPanelsOfText 43 = .ok (.aload_n 0, 1) := by decide +kernel
theorem dX4_addPanelsOfText_44 : decode cX4_addPanelsOfText 44 = .ok (.getfield 39, 3) := by decide +kernel
theorem dX4_addPanelsOfText_47 : decode cX4_addPanelsOfText 47 = .ok (.getfield 198, 3) := by decide +kernel
theorem dX4_addPanelsOfText_50 : decode cX4_addPanelsOfText 50 = .ok (.iload 5, 2) := by decide +kernel
theorem dX4_addPanelsOfText_52 : decode cX4_addPanelsOfText 52 = .ok (.invokestatic 201, 3) := by decide +kernel
theorem dX4_addPanelsOfText_55 : decode cX4_addPanelsOfText 55 = .ok (.istore 6, 2) := by decide +kernel
theorem dX4_addPanelsOfText_57 : decode cX4_addPanelsOfText 57 = .ok (.iload_n 2, 1) := by decide +kernel
theorem dX4_addPanelsOfText_58 : decode cX4_addPanelsOfText 58 = .ok (.ifCond .ne 16, 3) := by decide +kernel
theorem dX4_addPanelsOfText_61 : decode cX4_addPanelsOfText 61 = .ok (.iload 6, 2) := by decide +kernel
theorem dX4_addPanelsOfText_63 : decode cX4_addPanelsOfText 63 = .ok (.invokestatic 250, 3) := by decide +kernel
theorem dX4_addPanelsOfText_66 : decode cX4_addPanelsOfText 66 = .ok (.istore_n 3, 1) := by decide +kernel
theorem dX4_addPanelsOfText_67 : decode cX4_addPanelsOfText 67 = .ok (.bipush 6, 2) := by decide +kernel
theorem dX4_addPanelsOfText_69 : decode cX4_addPanelsOfText 69 = .ok (.istore 4, 2) := by decide +kernel
theorem dX4_addPanelsOfText_71 : decode cX4_addPanelsOfText 71 = .ok (.goto 40, 3) := by decide +kernel
theorem dX4_addPanelsOfText_74 : decode cX4_addPanelsOfText 74 = .ok (.iload_n 2, 1) := by decide +kernel
theorem dX4_addPanelsOfText_75 : decode cX4_addPanelsOfText 75 = .ok (.iconst 1, 1) := by decide +kernel
theorem dX4_addPanelsOfText_76 : decode cX4_addPanelsOfText 76 = .ok (.if_icmp .ne 13, 3) := by decide +kernel
theorem dX4_addPanelsOfText_79 : decode cX4_addPanelsOfText 79 = .ok (.iload 6, 2) := by decide +kernel
theorem dX4_addPanelsOfText_81 : decode cX4_addPanelsOfText 81 = .ok (.bipush 48, 2) := by decide +kernel
theorem dX4_addPanelsOfText_83 : decode cX4_addPanelsOfText 83 = .ok (.isub, 1) := by decide +kernel
theorem dX4_addPanelsOfText_84 : decode cX4_addPanelsOfText 84 = .ok (.istore 4, 2) := by decide +kernel
theorem dX4_addPanelsOfText_86 : decode cX4_addPanelsOfText 86 = .ok (.goto 25, 3) := by decide +kernel
theorem dX4_addPanelsOfText_89 : decode cX4_addPanelsOfText 89 = .ok (.aload_n 0, 1) := by decide +kernel
theorem dX4_addPanelsOfText_90 : decode cX4_addPanelsOfText 90 = .ok (.getfield 12, 3) := by decide +kernel
theorem dX4_addPanelsOfText_93 : decode cX4_addPanelsOfText 93 = .ok (.aload_n 0, 1) := by decide +kernel
theorem dX4_addPanelsOfText_94 : decode cX4_addPanelsOfText 94 = .ok (.getfield 12, 3) := by decide +kernel
theorem dX4_addPanelsOfText_97 : decode cX4_addPanelsOfText 97 = .ok (.getfield 43, 3) := by decide +kernel
theorem dX4_addPanelsOfText_100 : decode cX4_addPanelsOfText 100 = .ok (.iload_n 3, 1) := by decide +kernel
theorem dX4_addPanelsOfText_101 : decode cX4_addPanelsOfText 101 = .ok (.iload 4, 2) := by decide +kernel
theorem dX4_addPanelsOfText_103 : decode cX4_addPanelsOfText 103 = .ok (.iload 6, 2) := by decide +kernel
theorem dX4_addPanelsOfText_105 : decode cX4_addPanelsOfText 105 = .ok (.bipush 48, 2) := by decide +kernel
theorem dX4_addPanelsOfText_107 : decode cX4_addPanelsOfText 107 = .ok (.isub, 1) := by decide +kernel
theorem dX4_addPanelsOfText_108 : decode cX4_addPanelsOfText 108 = .ok (.invokevirtual 76, 3) := by decide +kernel
theorem dX4_addPanelsOfText_111 : decode cX4_addPanelsOfText 111 = .ok (.iload_n 2, 1) := by decide +kernel
theorem dX4_addPanelsOfText_112 : decode cX4_addPanelsOfText 112 = .ok (.iload 6, 2) := by decide +kernel
theorem dX4_addPanelsOfText_114 : decode cX4_addPanelsOfText 114 = .ok (.invokestatic 253, 3) := by decide +kernel
theorem dX4_addPanelsOfText_117 : decode cX4_addPanelsOfText 117 = .ok (.istore_n 2, 1) := by decide +kernel
theorem dX4_addPanelsOfText_118 : decode cX4_addPanelsOfText 118 = .ok (.iinc 5 1, 3) := by decide +kernel
theorem dX4_addPanelsOfText_121 : decode cX4_addPanelsOfText 121 = .ok (.goto (-102), 3) := by decide +kernel
theorem dX4_addPanelsOfText_124 : decode cX4_addPanelsOfText 124 = .ok (.aload_n 0, 1) := by decide +kernel
theorem dX4_addPanelsOfText_125 : decode cX4_addPanelsOfText 125 = .ok (.getfield 12, 3) := by decide +kernel
theorem dX4_addPanelsOfText_128 : decode cX4_addPanelsOfText 128 = .ok (.getfield 43, 3) := by decide +kernel
theorem dX4_addPanelsOfText_131 : decode cX4_addPanelsOfText 131 = .ok (.iload_n 1, 1) := by decide +kernel
theorem dX4_addPanelsOfText_132 : decode cX4_addPanelsOfText 132 = .ok (.isub, 1) := by decide +kernel
theorem dX4_addPanelsOfText_133 : decode cX4_addPanelsOfText 133 = .ok (.ireturn, 1) := by decide +kernel
set_option maxRecDepth 20000 in
theorem ggX4_hashWithPanel_X4_numberOfPanel : GoodIn wsX4_hashWithPanel wsX4_numberOfPanel := goodIn_r _ [7, 2, 8, 9, 10, 6, 11, 116, 117, 118, 119, 120, 121, 122, 123, 124, 125, 126, 127, 128, 129, 130, 131, 132, 133, 134, 135, 136, 137, 138, 139, 140, 141] (by decide +kernel) (by decide +kernel)
set_option maxRecDepth 20000 in
theorem gX4_hashWithPanel_X4_numberOfPanel : GoodIn wsX4_hashWithPanel (wsV RX4 145 RX4 yX4_numberOfPanel wsX4_numberOfPanel) := goodIn_app (goodIn_of _ (by decide +kernel)) ggX4_hashWithPanel_X4_numberOfPanel
set_option maxRecDepth 20000 in
theorem ggX4_hashWithPanel_X4_widthOfLeastCost : GoodIn wsX4_hashWithPanel wsX4_widthOfLeastCost := goodIn_r _ [15, 16, 2, 17, 18, 19, 20, 21, 22, 23, 24, 25, 26, 27, 28, 29, 30, 31, 32, 6, 33, 34, 35, 36, 37, 38, 39, 40, 41, 42, 43, 44, 45, 46, 47, 48, 49, 50, 51, 52, 53, 54, 55, 56, 57, 58, 59, 60, 61, 10, 11, 62, 63, 64, 65, 66, 67, 68, 69, 70, 71, 72, 73, 74, 75, 76, 77, 78, 79, 80, 81, 82, 83, 84, 85, 86, 87, 88, 89, 90, 91, 92, 93, 94, 95, 96, 97, 98, 99, 100, 101, 102, 116, 117, 118, 119, 120, 121, 122, 123, 124, 125, 126, 127, 128, 129, 130, 131, 132, 133, 134, 135, 136, 137, 138, 139, 140, 141] (by decide +kernel) (by decide +kernel)
set_option maxRecDepth 20000 in
theorem gX4_hashWithPanel_X4_widthOfLeastCost : GoodIn wsX4_hashWithPanel (wsV RX4 176 RX4 yX4_widthOfLeastCost wsX4_widthOfLeastCost) := goodIn_app (goodIn_of _ (by decide +kernel)) ggX4_hashWithPanel_X4_widthOfLeastCost
set_option maxRecDepth 20000 in
theorem ggX4_hashWithPanel_X2_has : GoodIn wsX4_hashWithPanel wsX2_has := goodIn_r _ [105, 29, 122, 123, 124, 125, 126] (by decide +kernel) (by decide +kernel)
set_option maxRecDepth 20000 in
theorem gX4_hashWithPanel_X2_has_n83 : GoodIn wsX4_hashWithPanel (wsX2_has) := ggX4_hashWithPanel_X2_has
set_option maxRecDepth 20000 in
theorem ggX4_hashWithPanel_X4_afterExchange : GoodIn wsX4_hashWithPanel wsX4_afterExchange := goodIn_r _ [109, 16, 2, 17, 18, 19, 20, 21, 22, 23, 24, 25, 26, 27, 28, 29, 30, 110, 111, 112, 113, 114, 115, 10, 6, 11, 32, 33, 34, 35, 36, 37, 38, 39, 40, 41, 42, 43, 44, 45, 46, 47, 48, 49, 50, 51, 52, 53, 54, 55, 56, 57, 58, 59, 60, 61, 62, 63, 64, 65, 66, 67, 68, 69, 70, 71, 72, 73, 74, 75, 76, 77, 78, 79, 80, 81, 82, 83, 84, 85, 86, 87, 88, 89, 90, 91, 92, 93, 94, 95, 100, 101, 102, 116, 117, 118, 119, 120, 121, 127, 128, 129, 130, 131, 132, 133, 134, 135, 136, 137, 138, 139, 140, 141, 122, 123, 124, 125, 126] (by decide +kernel) (by decide +kernel)
set_option maxRecDepth 20000 in
theorem gX4_hashWithPanel_X4_afterExchange : GoodIn wsX4_hashWithPanel (wsV RX4 170 RX4 yX4_afterExchange wsX4_afterExchange) := goodIn_app (goodIn_of _ (by decide +kernel)) ggX4_hashWithPanel_X4_afterExchange
theorem dX4_hashWithPanel_0 : decode cX4_hashWithPanel 0 = .ok (.lload_n 1, 1) := by decide +kernel
theorem dX4_hashWithPanel_1 : decode cX4_hashWithPanel 1 = .ok (.lstore 4, 2) := by decide +kernel
theorem dX4_hashWithPanel_3 : decode cX4_hashWithPanel 3 = .ok (.iconst 0, 1) := by decide +kernel
theorem dX4_hashWithPanel_4 : decode cX4_hashWithPanel 4 = .ok (.istore 6, 2) := by decide +kernel
theorem dX4_hashWithPanel_6 : decode cX4_hashWithPanel 6 = .ok (.iload 6, 2) := by decide +kernel
theorem dX4_hashWithPanel_8 : decode cX4_hashWithPanel 8 = .ok (.iconst 5, 1) := by decide +kernel
theorem dX4_hashWithPanel_9 : decode cX4_hashWithPanel 9 = .ok (.if_icmp .gt 26, 3) := by decide +kernel
theorem dX4_hashWithPanel_12 : decode cX4_hashWithPanel 12 = .ok (.ldc2_w 185, 3) := by decide +kernel
theorem dX4_hashWithPanel_15 : decode cX4_hashWithPanel 15 = .ok (.lload 4, 2) := by decide +kernel
theorem dX4_hashWithPanel_17 : decode cX4_hashWithPanel 17 = .ok (.lmul, 1) := by decide +kernel
theorem dX4_hashWithPanel_18 : decode cX4_hashWithPanel 18 = .ok (.aload_n 0, 1) := by decide +kernel
theorem dX4_hashWithPanel_19 : decode cX4_hashWithPanel 19 = .ok (.iload_n 3, 1) := by decide +kernel
theorem dX4_hashWithPanel_20 : decode cX4_hashWithPanel 20 = .ok (.iload 6, 2) := by decide +kernel
theorem dX4_hashWithPanel_22 : decode cX4_hashWithPanel 22 = .ok (.invokevirtual 145, 3) := by decide +kernel
theorem dX4_hashWithPanel_25 : decode cX4_hashWithPanel 25 = .ok (.i2l, 1) := by decide +kernel
theorem dX4_hashWithPanel_26 : decode cX4_hashWithPanel 26 = .ok (.ladd, 1) := by decide +kernel
theorem dX4_hashWithPanel_27 : decode cX4_hashWithPanel 27 = .ok (.lstore 4, 2) := by decide +kernel
theorem dX4_hashWithPanel_29 : decode cX4_hashWithPanel 29 = .ok (.iinc 6 1, 3) := by decide +kernel
theorem dX4_hashWithPanel_32 : decode cX4_hashWithPanel 32 = .ok (.goto (-26), 3) := by decide +kernel
theorem dX4_hashWithPanel_35 : decode cX4_hashWithPanel 35 = .ok (.ldc2_w 185, 3) := by decide +kernel
theorem dX4_hashWithPanel_38 : decode cX4_hashWithPanel 38 = .ok (.lload 4, 2) := by decide +kernel
theorem dX4_hashWithPanel_40 : decode cX4_hashWithPanel 40 = .ok (.lmul, 1) := by decide +kernel
theorem dX4_hashWithPanel_41 : decode cX4_hashWithPanel 41 = .ok (.aload_n 0, 1) := by decide +kernel
theorem dX4_hashWithPanel_42 : decode cX4_hashWithPanel 42 = .ok (.iload_n 3, 1) := by decide +kernel
theorem dX4_hashWithPanel_43 : decode cX4_hashWithPanel 43 = .ok (.invokevirtual 176, 3) := by decide +kernel
theorem dX4_hashWithPanel_46 : decode cX4_hashWithPanel 46 = .ok (.i2l, 1) := by decide +kernel
theorem dX4_hashWithPanel_47 : decode cX4_hashWithPanel 47 = .ok (.ladd, 1) := by decide +kernel
theorem dX4_hashWithPanel_48 : decode cX4_hashWithPanel 48 = .ok (.lstore 4, 2) := by decide +kernel
theorem dX4_hashWithPanel_50 : decode cX4_hashWithPanel 50 = .ok (.aload_n 0, 1) := by decide +kernel
theorem dX4_hashWithPanel_51 : decode cX4_hashWithPanel 51 = .ok (.getfield 12, 3) := by decide +kernel
theorem dX4_hashWithPanel_54 : decode cX4_hashWithPanel 54 = .ok (.iload_n 3, 1) := by decide +kernel
theorem dX4_hashWithPanel_55 : decode cX4_hashWithPanel 55 = .ok (.iconst 1, 1) := by decide +kernel
theorem dX4_hashWithPanel_56 : decode cX4_hashWithPanel 56 = .ok (.iadd, 1) := by decide +kernel
theorem dX4_hashWithPanel_57 : decode cX4_hashWithPanel 57 = .ok (.invokevirtual 83, 3) := by decide +kernel
theorem dX4_hashWithPanel_60 : decode cX4_hashWithPanel 60 = .ok (.ifCond .eq 35, 3) := by decide +kernel
theorem dX4_hashWithPanel_63 : decode cX4_hashWithPanel 63 = .ok (.ldc2_w 185, 3) := by decide +kernel
theorem dX4_hashWithPanel_66 : decode cX4_hashWithPanel 66 = .ok (.lload 4, 2) := by decide +kernel
theorem dX4_hashWithPanel_68 : decode cX4_hashWithPanel 68 = .ok (.lmul, 1) := by decide +kernel
theorem dX4_hashWithPanel_69 : decode cX4_hashWithPanel 69 = .ok (.aload_n 0, 1) := by decide +kernel
theorem dX4_hashWithPanel_70 : decode cX4_hashWithPanel 70 = .ok (.iload_n 3, 1) := by decide +kernel
theorem dX4_hashWithPanel_71 : decode cX4_hashWithPanel 71 = .ok (.iconst 0, 1) := by decide +kernel
theorem dX4_hashWithPanel_72 : decode cX4_hashWithPanel 72 = .ok (.invokevirtual 170, 3) := by decide +kernel
theorem dX4_hashWithPanel_75 : decode cX4_hashWithPanel 75 = .ok (.i2l, 1) := by decide +kernel
theorem dX4_hashWithPanel_76 : decode cX4_hashWithPanel 76 = .ok (.ladd, 1) := by decide +kernel
theorem dX4_hashWithPanel_77 : decode cX4_hashWithPanel 77 = .ok (.lstore 4, 2) := by decide +kernel
theorem dX4_hashWithPanel_79 : decode cX4_hashWithPanel 79 = .ok (.ldc2_w 185, 3) := by decide +kernel
theorem dX4_hashWithPanel_82 : decode cX4_hashWithPanel 82 = .ok (.lload 4, 2) := by decide +kernel
theorem dX4_hashWithPanel_84 : decode cX4_hashWithPanel 84 = .ok (.lmul, 1) := by decide +kernel
theorem dX4_hashWithPanel_85 : decode cX4_hashWithPanel 85 = .ok (.aload_n 0, 1) := by decide +kernel
theorem dX4_hashWithPanel_86 : decode cX4_hashWithPanel 86 = .ok (.iload_n 3, 1) := by decide +kernel
theorem dX4_hashWithPanel_87 : decode cX4_hashWithPanel 87 = .ok (.iconst 1, 1) := by decide +kernel
theorem dX4_hashWithPanel_88 : decode cX4_hashWithPanel 88 = .ok (.invokevirtual 170, 3) := by decide +kernel
theorem dX4_hashWithPanel_91 : decode cX4_hashWithPanel 91 = .ok (.i2l, 1) := by decide +kernel
theorem dX4_hashWithPanel_92 : decode cX4_hashWithPanel 92 = .ok (.ladd, 1) := by decide +kernel
theorem dX4_hashWithPanel_93 : decode cX4_hashWithPanel 93 = .ok (.lstore 4, 2) := by decide +kernel
theorem dX4_hashWithPanel_95 : decode cX4_hashWithPanel 95 = .ok (.lload 4, 2) := by decide +kernel
theorem dX4_hashWithPanel_97 : decode cX4_hashWithPanel 97 = .ok (.lreturn, 1) := by decide +kernel
set_option maxRecDepth 20000 in
theorem ggX4_hashWithPage_X1_numberOfPage : GoodIn wsX4_hashWithPage wsX1_numberOfPage := goodIn_r _ [6, 7, 8, 9, 10, 11, 12, 13, 14, 15, 16, 17, 18, 4, 19, 32, 33, 34, 35, 36, 37, 38, 39, 40, 41, 42, 43, 44, 45, 46] (by decide +kernel) (by decide +kernel)
set_option maxRecDepth 20000 in
theorem gX4_hashWithPage_X1_numberOfPage_n151 : GoodIn wsX4_hashWithPage (wsX1_numberOfPage) := ggX4_hashWithPage_X1_numberOfPage
set_option maxRecDepth 20000 in
theorem ggX4_hashWithPage_X4_panelAt : GoodIn wsX4_hashWithPage wsX4_panelAt := goodIn_r _ [23, 2, 24, 25, 13, 14, 15, 26, 27, 28, 29, 30, 31, 32, 33, 34, 35, 36, 37, 38, 39, 40, 41, 42, 43, 44, 45, 46, 47, 48, 49, 50, 51] (by decide +kernel) (by decide +kernel)
set_option maxRecDepth 20000 in
theorem gX4_hashWithPage_X4_panelAt : GoodIn wsX4_hashWithPage (wsV RX4 156 RX4 yX4_panelAt wsX4_panelAt) := goodIn_app (goodIn_of _ (by decide +kernel)) ggX4_hashWithPage_X4_panelAt
theorem dX4_hashWithPage_0 : decode cX4_hashWithPage 0 = .ok (.lload_n 1, 1) := by decide +kernel
theorem dX4_hashWithPage_1 : decode cX4_hashWithPage 1 = .ok (.lstore 4, 2) := by decide +kernel
theorem dX4_hashWithPage_3 : decode cX4_hashWithPage 3 = .ok (.iconst 0, 1) := by decide +kernel
theorem dX4_hashWithPage_4 : decode cX4_hashWithPage 4 = .ok (.istore 6, 2) := by decide +kernel
theorem dX4_hashWithPage_6 : decode cX4_hashWithPage 6 = .ok (.iload 6, 2) := by decide +kernel
theorem dX4_hashWithPage_8 : decode cX4_hashWithPage 8 = .ok (.iconst 5, 1) := by decide +kernel
theorem dX4_hashWithPage_9 : decode cX4_hashWithPage 9 = .ok (.if_icmp .gt 29, 3) := by decide +kernel
theorem dX4_hashWithPage_12 : decode cX4_hashWithPage 12 = .ok (.ldc2_w 185, 3) := by decide +kernel
theorem dX4_hashWithPage_15 : decode cX4_hashWithPage 15 = .ok (.lload 4, 2) := by decide +kernel
theorem dX4_hashWithPage_17 : decode cX4_hashWithPage 17 = .ok (.lmul, 1) := by decide +kernel
theorem dX4_hashWithPage_18 : decode cX4_hashWithPage 18 = .ok (.aload_n 0, 1) := by decide +kernel
theorem dX4_hashWithPage_19 : decode cX4_hashWithPage 19 = .ok (.getfield 19, 3) := by decide +kernel
theorem dX4_hashWithPage_22 : decode cX4_hashWithPage 22 = .ok (.iload_n 3, 1) := by decide +kernel
theorem dX4_hashWithPage_23 : decode cX4_hashWithPage 23 = .ok (.iload 6, 2) := by decide +kernel
theorem dX4_hashWithPage_25 : decode cX4_hashWithPage 25 = .ok (.invokevirtual 151, 3) := by decide +kernel
theorem dX4_hashWithPage_28 : decode cX4_hashWithPage 28 = .ok (.i2l, 1) := by decide +kernel
theorem dX4_hashWithPage_29 : decode cX4_hashWithPage 29 = .ok (.ladd, 1) := by decide +kernel
theorem dX4_hashWithPage_30 : decode cX4_hashWithPage 30 = .ok (.lstore 4, 2) := by decide +kernel
theorem dX4_hashWithPage_32 : decode cX4_hashWithPage 32 = .ok (.iinc 6 1, 3) := by decide +kernel
theorem dX4_hashWithPage_35 : decode cX4_hashWithPage 35 = .ok (.goto (-29), 3) := by decide +kernel
theorem dX4_hashWithPage_38 : decode cX4_hashWithPage 38 = .ok (.iconst 0, 1) := by decide +kernel
theorem dX4_hashWithPage_39 : decode cX4_hashWithPage 39 = .ok (.istore 6, 2) := by decide +kernel
theorem dX4_hashWithPage_41 : decode cX4_hashWithPage 41 = .ok (.iload 6, 2) := by decide +kernel
theorem dX4_hashWithPage_43 : decode cX4_hashWithPage 43 = .ok (.iconst 4, 1) := by decide +kernel
theorem dX4_hashWithPage_44 : decode cX4_hashWithPage 44 = .ok (.if_icmp .ge 44, 3) := by decide +kernel
theorem dX4_hashWithPage_47 : decode cX4_hashWithPage 47 = .ok (.iconst 0, 1) := by decide +kernel
theorem dX4_hashWithPage_48 : decode cX4_hashWithPage 48 = .ok (.istore 7, 2) := by decide +kernel
theorem dX4_hashWithPage_50 : decode cX4_hashWithPage 50 = .ok (.iload 7, 2) := by decide +kernel
theorem dX4_hashWithPage_52 : decode cX4_hashWithPage 52 = .ok (.bipush 6, 2) := by decide +kernel
theorem dX4_hashWithPage_54 : decode cX4_hashWithPage 54 = .ok (.if_icmp .ge 28, 3) := by decide +kernel
theorem dX4_hashWithPage_57 : decode cX4_hashWithPage 57 = .ok (.ldc2_w 185, 3) := by decide +kernel
theorem dX4_hashWithPage_60 : decode cX4_hashWithPage 60 = .ok (.lload 4, 2) := by decide +kernel
theorem dX4_hashWithPage_62 : decode cX4_hashWithPage 62 = .ok (.lmul, 1) := by decide +kernel
theorem dX4_hashWithPage_63 : decode cX4_hashWithPage 63 = .ok (.aload_n 0, 1) := by decide +kernel
theorem dX4_hashWithPage_64 : decode cX4_hashWithPage 64 = .ok (.iload_n 3, 1) := by decide +kernel
theorem dX4_hashWithPage_65 : decode cX4_hashWithPage 65 = .ok (.iload 6, 2) := by decide +kernel
theorem dX4_hashWithPage_67 : decode cX4_hashWithPage 67 = .ok (.iload 7, 2) := by decide +kernel
theorem dX4_hashWithPage_69 : decode cX4_hashWithPage 69 = .ok (.invokevirtual 156, 3) := by decide +kernel
theorem dX4_hashWithPage_72 : decode cX4_hashWithPage 72 = .ok (.i2l, 1) := by decide +kernel
theorem dX4_hashWithPage_73 : decode cX4_hashWithPage 73 = .ok (.ladd, 1) := by decide +kernel
theorem dX4_hashWithPage_74 : decode cX4_hashWithPage 74 = .ok (.lstore 4, 2) := by decide +kernel
theorem dX4_hashWithPage_76 : decode cX4_hashWithPage 76 = .ok (.iinc 7 1, 3) := by decide +kernel
theorem dX4_hashWithPage_79 : decode cX4_hashWithPage 79 = .ok (.goto (-29), 3) := by decide +kernel
theorem dX4_hashWithPage_82 : decode cX4_hashWithPage 82 = .ok (.iinc 6 1, 3) := by decide +kernel
theorem dX4_hashWithPage_85 : decode cX4_hashWithPage 85 = .ok (.goto (-44), 3) := by decide +kernel
theorem dX4_hashWithPage_88 : decode cX4_hashWithPage 88 = .ok (.lload 4, 2) := by decide +kernel
theorem dX4_hashWithPage_90 : decode cX4_hashWithPage 90 = .ok (.lreturn, 1) := by decide +kernel
theorem dX4_bitsOf_0 : decode cX4_bitsOf 0 = .ok (.dload_n 0, 1) := by decide +kernel
theorem dX4_bitsOf_1 : decode cX4_bitsOf 1 = .ok (.dstore_n 2, 1) := by decide +kernel
theorem dX4_bitsOf_2 : decode cX4_bitsOf 2 = .ok (.sipush 1023, 3) := by decide +kernel
theorem dX4_bitsOf_5 : decode cX4_bitsOf 5 = .ok (.istore 4, 2) := by decide +kernel
theorem dX4_bitsOf_7 : decode cX4_bitsOf 7 = .ok (.dload_n 2, 1) := by decide +kernel
theorem dX4_bitsOf_8 : decode cX4_bitsOf 8 = .ok (.dconst 1, 1) := by decide +kernel
theorem dX4_bitsOf_9 : decode cX4_bitsOf 9 = .ok (.dcmp .g, 1) := by decide +kernel
theorem dX4_bitsOf_10 : decode cX4_bitsOf 10 = .ok (.ifCond .ge 21, 3) := by decide +kernel
theorem dX4_bitsOf_13 : decode cX4_bitsOf 13 = .ok (.iload 4, 2) := by decide +kernel
theorem dX4_bitsOf_15 : decode cX4_bitsOf 15 = .ok (.iconst 1, 1) := by decide +kernel
theorem dX4_bitsOf_16 : decode cX4_bitsOf 16 = .ok (.if_icmp .le 15, 3) := by decide +kernel
theorem dX4_bitsOf_19 : decode cX4_bitsOf 19 = .ok (.dload_n 2, 1) := by decide +kernel
theorem dX4_bitsOf_20 : decode cX4_bitsOf 20 = .ok (.ldc2_w 256, 3) := by decide +kernel
theorem dX4_bitsOf_23 : decode cX4_bitsOf 23 = .ok (.dmul, 1) := by decide +kernel
theorem dX4_bitsOf_24 : decode cX4_bitsOf 24 = .ok (.dstore_n 2, 1) := by decide +kernel
theorem dX4_bitsOf_25 : decode cX4_bitsOf 25 = .ok (.iinc 4 (-1), 3) := by decide +kernel
theorem dX4_bitsOf_28 : decode cX4_bitsOf 28 = .ok (.goto (-21), 3) := by decide +kernel
theorem dX4_bitsOf_31 : decode cX4_bitsOf 31 = .ok (.dload_n 2, 1) := by decide +kernel
theorem dX4_bitsOf_32 : decode cX4_bitsOf 32 = .ok (.dconst 1, 1) := by decide +kernel
theorem dX4_bitsOf_33 : decode cX4_bitsOf 33 = .ok (.dsub, 1) := by decide +kernel
theorem dX4_bitsOf_34 : decode cX4_bitsOf 34 = .ok (.ldc2_w 258, 3) := by decide +kernel
theorem dX4_bitsOf_37 : decode cX4_bitsOf 37 = .ok (.dmul, 1) := by decide +kernel
theorem dX4_bitsOf_38 : decode cX4_bitsOf 38 = .ok (.d2l, 1) := by decide +kernel
theorem dX4_bitsOf_39 : decode cX4_bitsOf 39 = .ok (.lstore 5, 2) := by decide +kernel
theorem dX4_bitsOf_41 : decode cX4_bitsOf 41 = .ok (.iload 4, 2) := by decide +kernel
theorem dX4_bitsOf_43 : decode cX4_bitsOf 43 = .ok (.i2l, 1) := by decide +kernel
theorem dX4_bitsOf_44 : decode cX4_bitsOf 44 = .ok (.bipush 52, 2) := by decide +kernel
theorem dX4_bitsOf_46 : decode cX4_bitsOf 46 = .ok (.lshl, 1) := by decide +kernel
theorem dX4_bitsOf_47 : decode cX4_bitsOf 47 = .ok (.lload 5, 2) := by decide +kernel
theorem dX4_bitsOf_49 : decode cX4_bitsOf 49 = .ok (.ladd, 1) := by decide +kernel
theorem dX4_bitsOf_50 : decode cX4_bitsOf 50 = .ok (.lreturn, 1) := by decide +kernel

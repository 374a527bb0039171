theorem dX5_init_0 : decode cX5_init 0 = .ok (.aload_n 0, 1) := by decide +kernel
theorem dX5_init_1 : decode cX5_init 1 = .ok (.invokespecial 1, 3) := by decide +kernel
theorem dX5_init_4 : decode cX5_init 4 = .ok (.aload_n 0, 1) := by decide +kernel
theorem dX5_init_5 : decode cX5_init 5 = .ok (.bipush 74, 2) := by decide +kernel
theorem dX5_init_7 : decode cX5_init 7 = .ok (.newarray .int, 2) := by decide +kernel
theorem dX5_init_9 : decode cX5_init 9 = .ok (.putfield 7, 3) := by decide +kernel
theorem dX5_init_12 : decode cX5_init 12 = .ok (.aload_n 0, 1) := by decide +kernel
theorem dX5_init_13 : decode cX5_init 13 = .ok (.sipush 444, 3) := by decide +kernel
theorem dX5_init_16 : decode cX5_init 16 = .ok (.newarray .int, 2) := by decide +kernel
theorem dX5_init_18 : decode cX5_init 18 = .ok (.putfield 13, 3) := by decide +kernel
theorem dX5_init_21 : decode cX5_init 21 = .ok (.aload_n 0, 1) := by decide +kernel
theorem dX5_init_22 : decode cX5_init 22 = .ok (.bipush 60, 2) := by decide +kernel
theorem dX5_init_24 : decode cX5_init 24 = .ok (.newarray .int, 2) := by decide +kernel
theorem dX5_init_26 : decode cX5_init 26 = .ok (.putfield 16, 3) := by decide +kernel
theorem dX5_init_29 : decode cX5_init 29 = .ok (.aload_n 0, 1) := by decide +kernel
theorem dX5_init_30 : decode cX5_init 30 = .ok (.bipush 24, 2) := by decide +kernel
theorem dX5_init_32 : decode cX5_init 32 = .ok (.newarray .int, 2) := by decide +kernel
theorem dX5_init_34 : decode cX5_init 34 = .ok (.putfield 19, 3) := by decide +kernel
theorem dX5_init_37 : decode cX5_init 37 = .ok (.aload_n 0, 1) := by decide +kernel
theorem dX5_init_38 : decode cX5_init 38 = .ok (.bipush 24, 2) := by decide +kernel
theorem dX5_init_40 : decode cX5_init 40 = .ok (.newarray .int, 2) := by decide +kernel
theorem dX5_init_42 : decode cX5_init 42 = .ok (.putfield 22, 3) := by decide +kernel
theorem dX5_init_45 : decode cX5_init 45 = .ok (.aload_n 0, 1) := by decide +kernel
theorem dX5_init_46 : decode cX5_init 46 = .ok (.bipush 24, 2) := by decide +kernel
theorem dX5_init_48 : decode cX5_init 48 = .ok (.newarray .int, 2) := by decide +kernel
theorem dX5_init_50 : decode cX5_init 50 = .ok (.putfield 25, 3) := by decide +kernel
theorem dX5_init_53 : decode cX5_init 53 = .ok (.aload_n 0, 1) := by decide +kernel
theorem dX5_init_54 : decode cX5_init 54 = .ok (.sipush 384, 3) := by decide +kernel
theorem dX5_init_57 : decode cX5_init 57 = .ok (.newarray .int, 2) := by decide +kernel
theorem dX5_init_59 : decode cX5_init 59 = .ok (.putfield 28, 3) := by decide +kernel
theorem dX5_init_62 : decode cX5_init 62 = .ok (.aload_n 0, 1) := by decide +kernel
theorem dX5_init_63 : decode cX5_init 63 = .ok (.bipush 16, 2) := by decide +kernel
theorem dX5_init_65 : decode cX5_init 65 = .ok (.newarray .int, 2) := by decide +kernel
theorem dX5_init_67 : decode cX5_init 67 = .ok (.putfield 31, 3) := by decide +kernel
theorem dX5_init_70 : decode cX5_init 70 = .ok (.aload_n 0, 1) := by decide +kernel
theorem dX5_init_71 : decode cX5_init 71 = .ok (.bipush 16, 2) := by decide +kernel
theorem dX5_init_73 : decode cX5_init 73 = .ok (.newarray .int, 2) := by decide +kernel
theorem dX5_init_75 : decode cX5_init 75 = .ok (.putfield 34, 3) := by decide +kernel
theorem dX5_init_78 : decode cX5_init 78 = .ok (.aload_n 0, 1) := by decide +kernel
theorem dX5_init_79 : decode cX5_init 79 = .ok (.bipush 93, 2) := by decide +kernel
theorem dX5_init_81 : decode cX5_init 81 = .ok (.newarray .int, 2) := by decide +kernel
theorem dX5_init_83 : decode cX5_init 83 = .ok (.putfield 37, 3) := by decide +kernel
theorem dX5_init_86 : decode cX5_init 86 = .ok (.aload_n 0, 1) := by decide +kernel
theorem dX5_init_87 : decode cX5_init 87 = .ok (.getfield 7, 3) := by decide +kernel
theorem dX5_init_90 : decode cX5_init 90 = .ok (.iconst 0, 1) := by decide +kernel
theorem dX5_init_91 : decode cX5_init 91 = .ok (.bipush 30, 2) := by decide +kernel
theorem dX5_init_93 : decode cX5_init 93 = .ok (.iastore, 1) := by decide +kernel
theorem dX5_init_94 : decode cX5_init 94 = .ok (.return_, 1) := by decide +kernel
theorem dX5_thrown_0 : decode cX5_thrown 0 = .ok (.aload_n 0, 1) := by decide +kernel
theorem dX5_thrown_1 : decode cX5_thrown 1 = .ok (.getfield 40, 3) := by decide +kernel
theorem dX5_thrown_4 : decode cX5_thrown 4 = .ok (.ireturn, 1) := by decide +kernel
theorem dX5_in_0 : decode cX5_in 0 = .ok (.iload_n 0, 1) := by decide +kernel
theorem dX5_in_1 : decode cX5_in 1 = .ok (.iload_n 1, 1) := by decide +kernel
theorem dX5_in_2 : decode cX5_in 2 = .ok (.if_icmp .lt 12, 3) := by decide +kernel
theorem dX5_in_5 : decode cX5_in 5 = .ok (.iload_n 0, 1) := by decide +kernel
theorem dX5_in_6 : decode cX5_in 6 = .ok (.iload_n 2, 1) := by decide +kernel
theorem dX5_in_7 : decode cX5_in 7 = .ok (.if_icmp .gt 7, 3) := by decide +kernel
theorem dX5_in_10 : decode cX5_in 10 = .ok (.iconst 1, 1) := by decide +kernel
theorem dX5_in_11 : decode cX5_in 11 = .ok (.goto 4, 3) := by decide +kernel
theorem dX5_in_14 : decode cX5_in 14 = .ok (.iconst 0, 1) := by decide +kernel
theorem dX5_in_15 : decode cX5_in 15 = .ok (.ireturn, 1) := by decide +kernel
theorem dX5_of_0 : decode cX5_of 0 = .ok (.aload_n 0, 1) := by decide +kernel
theorem dX5_of_1 : decode cX5_of 1 = .ok (.getfield 7, 3) := by decide +kernel
theorem dX5_of_4 : decode cX5_of 4 = .ok (.iconst 2, 1) := by decide +kernel
theorem dX5_of_5 : decode cX5_of 5 = .ok (.iconst 3, 1) := by decide +kernel
theorem dX5_of_6 : decode cX5_of 6 = .ok (.iload_n 1, 1) := by decide +kernel
theorem dX5_of_7 : decode cX5_of 7 = .ok (.imul, 1) := by decide +kernel
theorem dX5_of_8 : decode cX5_of 8 = .ok (.iadd, 1) := by decide +kernel
theorem dX5_of_9 : decode cX5_of 9 = .ok (.iload_n 2, 1) := by decide +kernel
theorem dX5_of_10 : decode cX5_of 10 = .ok (.iadd, 1) := by decide +kernel
theorem dX5_of_11 : decode cX5_of 11 = .ok (.iaload, 1) := by decide +kernel
theorem dX5_of_12 : decode cX5_of 12 = .ok (.ireturn, 1) := by decide +kernel
theorem dX5_lay_0 : decode cX5_lay 0 = .ok (.aload_n 0, 1) := by decide +kernel
theorem dX5_lay_1 : decode cX5_lay 1 = .ok (.getfield 7, 3) := by decide +kernel
theorem dX5_lay_4 : decode cX5_lay 4 = .ok (.iconst 2, 1) := by decide +kernel
theorem dX5_lay_5 : decode cX5_lay 5 = .ok (.iconst 3, 1) := by decide +kernel
theorem dX5_lay_6 : decode cX5_lay 6 = .ok (.iload_n 1, 1) := by decide +kernel
theorem dX5_lay_7 : decode cX5_lay 7 = .ok (.imul, 1) := by decide +kernel
theorem dX5_lay_8 : decode cX5_lay 8 = .ok (.iadd, 1) := by decide +kernel
theorem dX5_lay_9 : decode cX5_lay 9 = .ok (.iload_n 2, 1) := by decide +kernel
theorem dX5_lay_10 : decode cX5_lay 10 = .ok (.iadd, 1) := by decide +kernel
theorem dX5_lay_11 : decode cX5_lay 11 = .ok (.iload_n 3, 1) := by decide +kernel
theorem dX5_lay_12 : decode cX5_lay 12 = .ok (.iastore, 1) := by decide +kernel
theorem dX5_lay_13 : decode cX5_lay 13 = .ok (.return_, 1) := by decide +kernel
theorem dX5_isPanel_0 : decode cX5_isPanel 0 = .ok (.iload_n 1, 1) := by decide +kernel
theorem dX5_isPanel_1 : decode cX5_isPanel 1 = .ok (.ifCond .lt 17, 3) := by decide +kernel
theorem dX5_isPanel_4 : decode cX5_isPanel 4 = .ok (.iload_n 1, 1) := by decide +kernel
theorem dX5_isPanel_5 : decode cX5_isPanel 5 = .ok (.aload_n 0, 1) := by decide +kernel
theorem dX5_isPanel_6 : decode cX5_isPanel 6 = .ok (.getfield 7, 3) := by decide +kernel
theorem dX5_isPanel_9 : decode cX5_isPanel 9 = .ok (.iconst 1, 1) := by decide +kernel
theorem dX5_isPanel_10 : decode cX5_isPanel 10 = .ok (.iaload, 1) := by decide +kernel
theorem dX5_isPanel_11 : decode cX5_isPanel 11 = .ok (.if_icmp .ge 7, 3) := by decide +kernel
theorem dX5_isPanel_14 : decode cX5_isPanel 14 = .ok (.iconst 1, 1) := by decide +kernel
theorem dX5_isPanel_15 : decode cX5_isPanel 15 = .ok (.goto 4, 3) := by decide +kernel
theorem dX5_isPanel_18 : decode cX5_isPanel 18 = .ok (.iconst 0, 1) := by decide +kernel
theorem dX5_isPanel_19 : decode cX5_isPanel 19 = .ok (.ireturn, 1) := by decide +kernel
theorem dX5_save_0 : decode cX5_save 0 = .ok (.aload_n 0, 1) := by decide +kernel
theorem dX5_save_1 : decode cX5_save 1 = .ok (.getfield 44, 3) := by decide +kernel
theorem dX5_save_4 : decode cX5_save 4 = .ok (.bipush 6, 2) := by decide +kernel
theorem dX5_save_6 : decode cX5_save 6 = .ok (.if_icmp .ne 43, 3) := by decide +kernel
theorem dX5_save_9 : decode cX5_save 9 = .ok (.iconst 0, 1) := by decide +kernel
theorem dX5_save_10 : decode cX5_save 10 = .ok (.istore_n 1, 1) := by decide +kernel
theorem dX5_save_11 : decode cX5_save 11 = .ok (.iload_n 1, 1) := by decide +kernel
theorem dX5_save_12 : decode cX5_save 12 = .ok (.sipush 370, 3) := by decide +kernel
theorem dX5_save_15 : decode cX5_save 15 = .ok (.if_icmp .ge 24, 3) := by decide +kernel
theorem dX5_save_18 : decode cX5_save 18 = .ok (.aload_n 0, 1) := by decide +kernel
theorem dX5_save_19 : decode cX5_save 19 = .ok (.getfield 13, 3) := by decide +kernel
theorem dX5_save_22 : decode cX5_save 22 = .ok (.iload_n 1, 1) := by decide +kernel
theorem dX5_save_23 : decode cX5_save 23 = .ok (.aload_n 0, 1) := by decide +kernel
theorem dX5_save_24 : decode cX5_save 24 = .ok (.getfield 13, 3) := by decide +kernel
theorem dX5_save_27 : decode cX5_save 27 = .ok (.iload_n 1, 1) := by decide +kernel
theorem dX5_save_28 : decode cX5_save 28 = .ok (.bipush 74, 2) := by decide +kernel
theorem dX5_save_30 : decode cX5_save 30 = .ok (.iadd, 1) := by decide +kernel
theorem dX5_save_31 : decode cX5_save 31 = .ok (.iaload, 1) := by decide +kernel
theorem dX5_save_32 : decode cX5_save 32 = .ok (.iastore, 1) := by decide +kernel
theorem dX5_save_33 : decode cX5_save 33 = .ok (.iinc 1 1, 3) := by decide +kernel
theorem dX5_save_36 : decode cX5_save 36 = .ok (.goto (-25), 3) := by decide +kernel
theorem dX5_save_39 : decode cX5_save 39 = .ok (.aload_n 0, 1) := by decide +kernel
theorem dX5_save_40 : decode cX5_save 40 = .ok (.dup, 1) := by decide +kernel
theorem dX5_save_41 : decode cX5_save 41 = .ok (.getfield 44, 3) := by decide +kernel
theorem dX5_save_44 : decode cX5_save 44 = .ok (.iconst 1, 1) := by decide +kernel
theorem dX5_save_45 : decode cX5_save 45 = .ok (.isub, 1) := by decide +kernel
theorem dX5_save_46 : decode cX5_save 46 = .ok (.putfield 44, 3) := by decide +kernel
theorem dX5_save_49 : decode cX5_save 49 = .ok (.iconst 0, 1) := by decide +kernel
theorem dX5_save_50 : decode cX5_save 50 = .ok (.istore_n 1, 1) := by decide +kernel
theorem dX5_save_51 : decode cX5_save 51 = .ok (.iload_n 1, 1) := by decide +kernel
theorem dX5_save_52 : decode cX5_save 52 = .ok (.bipush 74, 2) := by decide +kernel
theorem dX5_save_54 : decode cX5_save 54 = .ok (.if_icmp .ge 29, 3) := by decide +kernel
theorem dX5_save_57 : decode cX5_save 57 = .ok (.aload_n 0, 1) := by decide +kernel
theorem dX5_save_58 : decode cX5_save 58 = .ok (.getfield 13, 3) := by decide +kernel
theorem dX5_save_61 : decode cX5_save 61 = .ok (.aload_n 0, 1) := by decide +kernel
theorem dX5_save_62 : decode cX5_save 62 = .ok (.getfield 44, 3) := by decide +kernel
theorem dX5_save_65 : decode cX5_save 65 = .ok (.bipush 74, 2) := by decide +kernel
theorem dX5_save_67 : decode cX5_save 67 = .ok (.imul, 1) := by decide +kernel
theorem dX5_save_68 : decode cX5_save 68 = .ok (.iload_n 1, 1) := by decide +kernel
theorem dX5_save_69 : decode cX5_save 69 = .ok (.iadd, 1) := by decide +kernel
theorem dX5_save_70 : decode cX5_save 70 = .ok (.aload_n 0, 1) := by decide +kernel
theorem dX5_save_71 : decode cX5_save 71 = .ok (.getfield 7, 3) := by decide +kernel
theorem dX5_save_74 : decode cX5_save 74 = .ok (.iload_n 1, 1) := by decide +kernel
theorem dX5_save_75 : decode cX5_save 75 = .ok (.iaload, 1) := by decide +kernel
theorem dX5_save_76 : decode cX5_save 76 = .ok (.iastore, 1) := by decide +kernel
theorem dX5_save_77 : decode cX5_save 77 = .ok (.iinc 1 1, 3) := by decide +kernel
theorem dX5_save_80 : decode cX5_save 80 = .ok (.goto (-29), 3) := by decide +kernel
theorem dX5_save_83 : decode cX5_save 83 = .ok (.aload_n 0, 1) := by decide +kernel
theorem dX5_save_84 : decode cX5_save 84 = .ok (.dup, 1) := by decide +kernel
theorem dX5_save_85 : decode cX5_save 85 = .ok (.getfield 44, 3) := by decide +kernel
theorem dX5_save_88 : decode cX5_save 88 = .ok (.iconst 1, 1) := by decide +kernel
theorem dX5_save_89 : decode cX5_save 89 = .ok (.iadd, 1) := by decide +kernel
theorem dX5_save_90 : decode cX5_save 90 = .ok (.putfield 44, 3) := by decide +kernel
theorem dX5_save_93 : decode cX5_save 93 = .ok (.return_, 1) := by decide +kernel
theorem dX5_undo_0 : decode cX5_undo 0 = .ok (.aload_n 0, 1) := by decide +kernel
theorem dX5_undo_1 : decode cX5_undo 1 = .ok (.aload_n 0, 1) := by decide +kernel
theorem dX5_undo_2 : decode cX5_undo 2 = .ok (.getfield 44, 3) := by decide +kernel
theorem dX5_undo_5 : decode cX5_undo 5 = .ok (.ifCond .ne 7, 3) := by decide +kernel
theorem dX5_undo_8 : decode cX5_undo 8 = .ok (.iconst 1, 1) := by decide +kernel
theorem dX5_undo_9 : decode cX5_undo 9 = .ok (.goto 4, 3) := by decide +kernel
theorem dX5_undo_12 : decode cX5_undo 12 = .ok (.iconst 0, 1) := by decide +kernel
theorem dX5_undo_13 : decode cX5_undo 13 = .ok (.putfield 40, 3) := by decide +kernel
theorem dX5_undo_16 : decode cX5_undo 16 = .ok (.aload_n 0, 1) := by decide +kernel
theorem dX5_undo_17 : decode cX5_undo 17 = .ok (.getfield 40, 3) := by decide +kernel
theorem dX5_undo_20 : decode cX5_undo 20 = .ok (.ifCond .le 5, 3) := by decide +kernel
theorem dX5_undo_23 : decode cX5_undo 23 = .ok (.iconst 0, 1) := by decide +kernel
theorem dX5_undo_24 : decode cX5_undo 24 = .ok (.ireturn, 1) := by decide +kernel
theorem dX5_undo_25 : decode cX5_undo 25 = .ok (.aload_n 0, 1) := by decide +kernel
theorem dX5_undo_26 : decode cX5_undo 26 = .ok (.dup, 1) := by decide +kernel
theorem dX5_undo_27 : decode cX5_undo 27 = .ok (.getfield 44, 3) := by decide +kernel
theorem dX5_undo_30 : decode cX5_undo 30 = .ok (.iconst 1, 1) := by decide +kernel
theorem dX5_undo_31 : decode cX5_undo 31 = .ok (.isub, 1) := by decide +kernel
theorem dX5_undo_32 : decode cX5_undo 32 = .ok (.putfield 44, 3) := by decide +kernel
theorem dX5_undo_35 : decode cX5_undo 35 = .ok (.iconst 0, 1) := by decide +kernel
theorem dX5_undo_36 : decode cX5_undo 36 = .ok (.istore_n 1, 1) := by decide +kernel
theorem dX5_undo_37 : decode cX5_undo 37 = .ok (.iload_n 1, 1) := by decide +kernel
theorem dX5_undo_38 : decode cX5_undo 38 = .ok (.bipush 74, 2) := by decide +kernel
theorem dX5_undo_40 : decode cX5_undo 40 = .ok (.if_icmp .ge 29, 3) := by decide +kernel
theorem dX5_undo_43 : decode cX5_undo 43 = .ok (.aload_n 0, 1) := by decide +kernel
theorem dX5_undo_44 : decode cX5_undo 44 = .ok (.getfield 7, 3) := by decide +kernel
theorem dX5_undo_47 : decode cX5_undo 47 = .ok (.iload_n 1, 1) := by decide +kernel
theorem dX5_undo_48 : decode cX5_undo 48 = .ok (.aload_n 0, 1) := by decide +kernel
theorem dX5_undo_49 : decode cX5_undo 49 = .ok (.getfield 13, 3) := by decide +kernel
theorem dX5_undo_52 : decode cX5_undo 52 = .ok (.aload_n 0, 1) := by decide +kernel
theorem dX5_undo_53 : decode cX5_undo 53 = .ok (.getfield 44, 3) := by decide +kernel
theorem dX5_undo_56 : decode cX5_undo 56 = .ok (.bipush 74, 2) := by decide +kernel
theorem dX5_undo_58 : decode cX5_undo 58 = .ok (.imul, 1) := by decide +kernel
theorem dX5_undo_59 : decode cX5_undo 59 = .ok (.iload_n 1, 1) := by decide +kernel
theorem dX5_undo_60 : decode cX5_undo 60 = .ok (.iadd, 1) := by decide +kernel
theorem dX5_undo_61 : decode cX5_undo 61 = .ok (.iaload, 1) := by decide +kernel
theorem dX5_undo_62 : decode cX5_undo 62 = .ok (.iastore, 1) := by decide +kernel
theorem dX5_undo_63 : decode cX5_undo 63 = .ok (.iinc 1 1, 3) := by decide +kernel
theorem dX5_undo_66 : decode cX5_undo 66 = .ok (.goto (-29), 3) := by decide +kernel
theorem dX5_undo_69 : decode cX5_undo 69 = .ok (.aload_n 0, 1) := by decide +kernel
theorem dX5_undo_70 : decode cX5_undo 70 = .ok (.getfield 44, 3) := by decide +kernel
theorem dX5_undo_73 : decode cX5_undo 73 = .ok (.ireturn, 1) := by decide +kernel
theorem dX5_nextPage_0 : decode cX5_nextPage 0 = .ok (.aload_n 0, 1) := by decide +kernel
theorem dX5_nextPage_1 : decode cX5_nextPage 1 = .ok (.iload_n 1, 1) := by decide +kernel
theorem dX5_nextPage_2 : decode cX5_nextPage 2 = .ok (.putfield 47, 3) := by decide +kernel
theorem dX5_nextPage_5 : decode cX5_nextPage 5 = .ok (.aload_n 0, 1) := by decide +kernel
theorem dX5_nextPage_6 : decode cX5_nextPage 6 = .ok (.iconst 0, 1) := by decide +kernel
theorem dX5_nextPage_7 : decode cX5_nextPage 7 = .ok (.putfield 50, 3) := by decide +kernel
theorem dX5_nextPage_10 : decode cX5_nextPage 10 = .ok (.aload_n 0, 1) := by decide +kernel
theorem dX5_nextPage_11 : decode cX5_nextPage 11 = .ok (.iconst 0, 1) := by decide +kernel
theorem dX5_nextPage_12 : decode cX5_nextPage 12 = .ok (.putfield 53, 3) := by decide +kernel
theorem dX5_nextPage_15 : decode cX5_nextPage 15 = .ok (.return_, 1) := by decide +kernel
set_option maxRecDepth 20000 in
theorem ggX5_nextRow_X5_nextPage : GoodIn wsX5_nextRow wsX5_nextPage := goodIn_r _ [8, 2, 1, 3, 9, 10, 11, 12, 13, 14, 15, 16, 17, 18, 19, 20, 21, 22, 23, 24, 25, 26, 27, 28] (by decide +kernel) (by decide +kernel)
set_option maxRecDepth 20000 in
theorem gX5_nextRow_X5_nextPage : GoodIn wsX5_nextRow (wsV RX5 56 RX5 yX5_nextPage wsX5_nextPage) := goodIn_app (goodIn_of _ (by decide +kernel)) ggX5_nextRow_X5_nextPage
theorem dX5_nextRow_0 : decode cX5_nextRow 0 = .ok (.aload_n 0, 1) := by decide +kernel
theorem dX5_nextRow_1 : decode cX5_nextRow 1 = .ok (.getfield 50, 3) := by decide +kernel
theorem dX5_nextRow_4 : decode cX5_nextRow 4 = .ok (.iconst 3, 1) := by decide +kernel
theorem dX5_nextRow_5 : decode cX5_nextRow 5 = .ok (.if_icmp .ne 16, 3) := by decide +kernel
theorem dX5_nextRow_8 : decode cX5_nextRow 8 = .ok (.aload_n 0, 1) := by decide +kernel
theorem dX5_nextRow_9 : decode cX5_nextRow 9 = .ok (.aload_n 0, 1) := by decide +kernel
theorem dX5_nextRow_10 : decode cX5_nextRow 10 = .ok (.getfield 47, 3) := by decide +kernel
theorem dX5_nextRow_13 : decode cX5_nextRow 13 = .ok (.iconst 1, 1) := by decide +kernel
theorem dX5_nextRow_14 : decode cX5_nextRow 14 = .ok (.iadd, 1) := by decide +kernel
theorem dX5_nextRow_15 : decode cX5_nextRow 15 = .ok (.invokevirtual 56, 3) := by decide +kernel
theorem dX5_nextRow_18 : decode cX5_nextRow 18 = .ok (.goto 18, 3) := by decide +kernel
theorem dX5_nextRow_21 : decode cX5_nextRow 21 = .ok (.aload_n 0, 1) := by decide +kernel
theorem dX5_nextRow_22 : decode cX5_nextRow 22 = .ok (.dup, 1) := by decide +kernel
theorem dX5_nextRow_23 : decode cX5_nextRow 23 = .ok (.getfield 50, 3) := by decide +kernel
theorem dX5_nextRow_26 : decode cX5_nextRow 26 = .ok (.iconst 1, 1) := by decide +kernel
theorem dX5_nextRow_27 : decode cX5_nextRow 27 = .ok (.iadd, 1) := by decide +kernel
theorem dX5_nextRow_28 : decode cX5_nextRow 28 = .ok (.putfield 50, 3) := by decide +kernel
theorem dX5_nextRow_31 : decode cX5_nextRow 31 = .ok (.aload_n 0, 1) := by decide +kernel
theorem dX5_nextRow_32 : decode cX5_nextRow 32 = .ok (.iconst 0, 1) := by decide +kernel
theorem dX5_nextRow_33 : decode cX5_nextRow 33 = .ok (.putfield 53, 3) := by decide +kernel
theorem dX5_nextRow_36 : decode cX5_nextRow 36 = .ok (.return_, 1) := by decide +kernel
theorem dX5_isEmpty_0 : decode cX5_isEmpty 0 = .ok (.aload_n 0, 1) := by decide +kernel
theorem dX5_isEmpty_1 : decode cX5_isEmpty 1 = .ok (.getfield 47, 3) := by decide +kernel
theorem dX5_isEmpty_4 : decode cX5_isEmpty 4 = .ok (.bipush 16, 2) := by decide +kernel
theorem dX5_isEmpty_6 : decode cX5_isEmpty 6 = .ok (.if_icmp .ge 15, 3) := by decide +kernel
theorem dX5_isEmpty_9 : decode cX5_isEmpty 9 = .ok (.aload_n 0, 1) := by decide +kernel
theorem dX5_isEmpty_10 : decode cX5_isEmpty 10 = .ok (.getfield 34, 3) := by decide +kernel
theorem dX5_isEmpty_13 : decode cX5_isEmpty 13 = .ok (.aload_n 0, 1) := by decide +kernel
theorem dX5_isEmpty_14 : decode cX5_isEmpty 14 = .ok (.getfield 47, 3) := by decide +kernel
theorem dX5_isEmpty_17 : decode cX5_isEmpty 17 = .ok (.iaload, 1) := by decide +kernel
theorem dX5_isEmpty_18 : decode cX5_isEmpty 18 = .ok (.ifCond .ne 7, 3) := by decide +kernel
theorem dX5_isEmpty_21 : decode cX5_isEmpty 21 = .ok (.iconst 1, 1) := by decide +kernel
theorem dX5_isEmpty_22 : decode cX5_isEmpty 22 = .ok (.goto 4, 3) := by decide +kernel
theorem dX5_isEmpty_25 : decode cX5_isEmpty 25 = .ok (.iconst 0, 1) := by decide +kernel
theorem dX5_isEmpty_26 : decode cX5_isEmpty 26 = .ok (.ireturn, 1) := by decide +kernel
theorem dX5_mark_0 : decode cX5_mark 0 = .ok (.iconst 0, 1) := by decide +kernel
theorem dX5_mark_1 : decode cX5_mark 1 = .ok (.istore 5, 2) := by decide +kernel
theorem dX5_mark_3 : decode cX5_mark 3 = .ok (.iload 5, 2) := by decide +kernel
theorem dX5_mark_5 : decode cX5_mark 5 = .ok (.iload 4, 2) := by decide +kernel
theorem dX5_mark_7 : decode cX5_mark 7 = .ok (.if_icmp .ge 24, 3) := by decide +kernel
theorem dX5_mark_10 : decode cX5_mark 10 = .ok (.aload_n 0, 1) := by decide +kernel
theorem dX5_mark_11 : decode cX5_mark 11 = .ok (.getfield 28, 3) := by decide +kernel
theorem dX5_mark_14 : decode cX5_mark 14 = .ok (.bipush 24, 2) := by decide +kernel
theorem dX5_mark_16 : decode cX5_mark 16 = .ok (.iload_n 2, 1) := by decide +kernel
theorem dX5_mark_17 : decode cX5_mark 17 = .ok (.imul, 1) := by decide +kernel
theorem dX5_mark_18 : decode cX5_mark 18 = .ok (.iload_n 3, 1) := by decide +kernel
theorem dX5_mark_19 : decode cX5_mark 19 = .ok (.iadd, 1) := by decide +kernel
theorem dX5_mark_20 : decode cX5_mark 20 = .ok (.iload 5, 2) := by decide +kernel
theorem dX5_mark_22 : decode cX5_mark 22 = .ok (.iadd, 1) := by decide +kernel
theorem dX5_mark_23 : decode cX5_mark 23 = .ok (.iload_n 1, 1) := by decide +kernel
theorem dX5_mark_24 : decode cX5_mark 24 = .ok (.iastore, 1) := by decide +kernel
theorem dX5_mark_25 : decode cX5_mark 25 = .ok (.iinc 5 1, 3) := by decide +kernel
theorem dX5_mark_28 : decode cX5_mark 28 = .ok (.goto (-25), 3) := by decide +kernel
theorem dX5_mark_31 : decode cX5_mark 31 = .ok (.aload_n 0, 1) := by decide +kernel
theorem dX5_mark_32 : decode cX5_mark 32 = .ok (.getfield 34, 3) := by decide +kernel
theorem dX5_mark_35 : decode cX5_mark 35 = .ok (.iload_n 2, 1) := by decide +kernel
theorem dX5_mark_36 : decode cX5_mark 36 = .ok (.dup2, 1) := by decide +kernel
theorem dX5_mark_37 : decode cX5_mark 37 = .ok (.iaload, 1) := by decide +kernel
theorem dX5_mark_38 : decode cX5_mark 38 = .ok (.iconst 1, 1) := by decide +kernel
theorem dX5_mark_39 : decode cX5_mark 39 = .ok (.iadd, 1) := by decide +kernel
theorem dX5_mark_40 : decode cX5_mark 40 = .ok (.iastore, 1) := by decide +kernel
theorem dX5_mark_41 : decode cX5_mark 41 = .ok (.return_, 1) := by decide +kernel
set_option maxRecDepth 20000 in
theorem ggX5_stand_X5_of : GoodIn wsX5_stand wsX5_of := goodIn_r _ [9, 10, 11, 12, 13, 14, 15, 16, 17, 18, 19, 20, 21, 22, 23, 24, 25, 26, 27, 28, 29, 30] (by decide +kernel) (by decide +kernel)
set_option maxRecDepth 20000 in
theorem gX5_stand_X5_of : GoodIn wsX5_stand (wsV RX5 60 RX5 yX5_of wsX5_of) := goodIn_app (goodIn_of _ (by decide +kernel)) ggX5_stand_X5_of
theorem dX5_stand_0 : decode cX5_stand 0 = .ok (.aload_n 0, 1) := by decide +kernel
theorem dX5_stand_1 : decode cX5_stand 1 = .ok (.getfield 19, 3) := by decide +kernel
theorem dX5_stand_4 : decode cX5_stand 4 = .ok (.iload_n 1, 1) := by decide +kernel
theorem dX5_stand_5 : decode cX5_stand 5 = .ok (.iload_n 2, 1) := by decide +kernel
theorem dX5_stand_6 : decode cX5_stand 6 = .ok (.iastore, 1) := by decide +kernel
theorem dX5_stand_7 : decode cX5_stand 7 = .ok (.aload_n 0, 1) := by decide +kernel
theorem dX5_stand_8 : decode cX5_stand 8 = .ok (.getfield 22, 3) := by decide +kernel
theorem dX5_stand_11 : decode cX5_stand 11 = .ok (.iload_n 1, 1) := by decide +kernel
theorem dX5_stand_12 : decode cX5_stand 12 = .ok (.iload_n 3, 1) := by decide +kernel
theorem dX5_stand_13 : decode cX5_stand 13 = .ok (.iastore, 1) := by decide +kernel
theorem dX5_stand_14 : decode cX5_stand 14 = .ok (.aload_n 0, 1) := by decide +kernel
theorem dX5_stand_15 : decode cX5_stand 15 = .ok (.getfield 25, 3) := by decide +kernel
theorem dX5_stand_18 : decode cX5_stand 18 = .ok (.iload_n 1, 1) := by decide +kernel
theorem dX5_stand_19 : decode cX5_stand 19 = .ok (.iload 4, 2) := by decide +kernel
theorem dX5_stand_21 : decode cX5_stand 21 = .ok (.iastore, 1) := by decide +kernel
theorem dX5_stand_22 : decode cX5_stand 22 = .ok (.aload_n 0, 1) := by decide +kernel
theorem dX5_stand_23 : decode cX5_stand 23 = .ok (.getfield 31, 3) := by decide +kernel
theorem dX5_stand_26 : decode cX5_stand 26 = .ok (.iload_n 2, 1) := by decide +kernel
theorem dX5_stand_27 : decode cX5_stand 27 = .ok (.dup2, 1) := by decide +kernel
theorem dX5_stand_28 : decode cX5_stand 28 = .ok (.iaload, 1) := by decide +kernel
theorem dX5_stand_29 : decode cX5_stand 29 = .ok (.aload_n 0, 1) := by decide +kernel
theorem dX5_stand_30 : decode cX5_stand 30 = .ok (.iload_n 1, 1) := by decide +kernel
theorem dX5_stand_31 : decode cX5_stand 31 = .ok (.iconst 2, 1) := by decide +kernel
theorem dX5_stand_32 : decode cX5_stand 32 = .ok (.invokevirtual 60, 3) := by decide +kernel
theorem dX5_stand_35 : decode cX5_stand 35 = .ok (.iadd, 1) := by decide +kernel
theorem dX5_stand_36 : decode cX5_stand 36 = .ok (.iastore, 1) := by decide +kernel
theorem dX5_stand_37 : decode cX5_stand 37 = .ok (.return_, 1) := by decide +kernel
set_option maxRecDepth 20000 in
theorem ggX5_pourWhole_X5_of : GoodIn wsX5_pourWhole wsX5_of := goodIn_r _ [6, 7, 32, 33, 34, 35, 36, 37, 38, 39, 40, 41, 42, 43, 44, 45, 46, 47, 48, 49, 50, 51] (by decide +kernel) (by decide +kernel)
set_option maxRecDepth 20000 in
theorem gX5_pourWhole_X5_of : GoodIn wsX5_pourWhole (wsV RX5 60 RX5 yX5_of wsX5_of) := goodIn_app (goodIn_of _ (by decide +kernel)) ggX5_pourWhole_X5_of
set_option maxRecDepth 20000 in
theorem ggX5_pourWhole_X5_isEmpty : GoodIn wsX5_pourWhole wsX5_isEmpty := goodIn_r _ [11, 1, 12, 32, 33, 34, 35, 36, 37, 38, 39, 40, 41, 42, 43, 44, 45, 46, 47, 48, 49, 50, 51] (by decide +kernel) (by decide +kernel)
set_option maxRecDepth 20000 in
theorem gX5_pourWhole_X5_isEmpty : GoodIn wsX5_pourWhole (wsV RX5 64 RX5 yX5_isEmpty wsX5_isEmpty) := goodIn_app (goodIn_of _ (by decide +kernel)) ggX5_pourWhole_X5_isEmpty
set_option maxRecDepth 20000 in
theorem ggX5_pourWhole_X5_stand : GoodIn wsX5_pourWhole wsX5_stand := goodIn_r _ [16, 17, 18, 19, 20, 2, 3, 4, 5, 6, 7, 32, 33, 34, 35, 36, 37, 38, 39, 40, 41, 42, 43, 44, 45, 46, 47, 48, 49, 50, 51] (by decide +kernel) (by decide +kernel)
set_option maxRecDepth 20000 in
theorem gX5_pourWhole_X5_stand : GoodIn wsX5_pourWhole (wsV RX5 68 RX5 yX5_stand wsX5_stand) := goodIn_app (goodIn_of _ (by decide +kernel)) ggX5_pourWhole_X5_stand
set_option maxRecDepth 20000 in
theorem ggX5_pourWhole_X5_mark : GoodIn wsX5_pourWhole wsX5_mark := goodIn_r _ [24, 25, 12, 32, 33, 34, 35, 36, 37, 38, 39, 40, 41, 42, 43, 44, 45, 46, 47, 48, 49, 50, 51] (by decide +kernel) (by decide +kernel)
set_option maxRecDepth 20000 in
theorem gX5_pourWhole_X5_mark : GoodIn wsX5_pourWhole (wsV RX5 72 RX5 yX5_mark wsX5_mark) := goodIn_app (goodIn_of _ (by decide +kernel)) ggX5_pourWhole_X5_mark
set_option maxRecDepth 20000 in
theorem ggX5_pourWhole_X5_nextPage : GoodIn wsX5_pourWhole wsX5_nextPage := goodIn_r _ [29, 1, 30, 31, 32, 33, 34, 35, 36, 37, 38, 39, 40, 41, 42, 43, 44, 45, 46, 47, 48, 49, 50, 51] (by decide +kernel) (by decide +kernel)
set_option maxRecDepth 20000 in
theorem gX5_pourWhole_X5_nextPage : GoodIn wsX5_pourWhole (wsV RX5 56 RX5 yX5_nextPage wsX5_nextPage) := goodIn_app (goodIn_of _ (by decide +kernel)) ggX5_pourWhole_X5_nextPage
theorem dX5_pourWhole_0 : decode cX5_pourWhole 0 = .ok (.aload_n 0, 1) := by decide +kernel
theorem dX5_pourWhole_1 : decode cX5_pourWhole 1 = .ok (.iload_n 1, 1) := by decide +kernel
theorem dX5_pourWhole_2 : decode cX5_pourWhole 2 = .ok (.iconst 0, 1) := by decide +kernel
theorem dX5_pourWhole_3 : decode cX5_pourWhole 3 = .ok (.invokevirtual 60, 3) := by decide +kernel
theorem dX5_pourWhole_6 : decode cX5_pourWhole 6 = .ok (.iconst 2, 1) := by decide +kernel
theorem dX5_pourWhole_7 : decode cX5_pourWhole 7 = .ok (.if_icmp .ne 7, 3) := by decide +kernel
theorem dX5_pourWhole_10 : decode cX5_pourWhole 10 = .ok (.iconst 1, 1) := by decide +kernel
theorem dX5_pourWhole_11 : decode cX5_pourWhole 11 = .ok (.goto 4, 3) := by decide +kernel
theorem dX5_pourWhole_14 : decode cX5_pourWhole 14 = .ok (.iconst 2, 1) := by decide +kernel
theorem dX5_pourWhole_15 : decode cX5_pourWhole 15 = .ok (.istore_n 2, 1) := by decide +kernel
theorem dX5_pourWhole_16 : decode cX5_pourWhole 16 = .ok (.aload_n 0, 1) := by decide +kernel
theorem dX5_pourWhole_17 : decode cX5_pourWhole 17 = .ok (.invokevirtual 64, 3) := by decide +kernel
theorem dX5_pourWhole_20 : decode cX5_pourWhole 20 = .ok (.ifCond .eq 10, 3) := by decide +kernel
theorem dX5_pourWhole_23 : decode cX5_pourWhole 23 = .ok (.aload_n 0, 1) := by decide +kernel
theorem dX5_pourWhole_24 : decode cX5_pourWhole 24 = .ok (.getfield 47, 3) := by decide +kernel
theorem dX5_pourWhole_27 : decode cX5_pourWhole 27 = .ok (.goto 9, 3) := by decide +kernel
theorem dX5_pourWhole_30 : decode cX5_pourWhole 30 = .ok (.aload_n 0, 1) := by decide +kernel
theorem dX5_pourWhole_31 : decode cX5_pourWhole 31 = .ok (.getfield 47, 3) := by decide +kernel
theorem dX5_pourWhole_34 : decode cX5_pourWhole 34 = .ok (.iconst 1, 1) := by decide +kernel
theorem dX5_pourWhole_35 : decode cX5_pourWhole 35 = .ok (.iadd, 1) := by decide +kernel
theorem dX5_pourWhole_36 : decode cX5_pourWhole 36 = .ok (.istore_n 3, 1) := by decide +kernel
theorem dX5_pourWhole_37 : decode cX5_pourWhole 37 = .ok (.iload_n 3, 1) := by decide +kernel
theorem dX5_pourWhole_38 : decode cX5_pourWhole 38 = .ok (.iload_n 2, 1) := by decide +kernel
theorem dX5_pourWhole_39 : decode cX5_pourWhole 39 = .ok (.iconst 2, 1) := by decide +kernel
theorem dX5_pourWhole_40 : decode cX5_pourWhole 40 = .ok (.if_icmp .ne 9, 3) := by decide +kernel
theorem dX5_pourWhole_43 : decode cX5_pourWhole 43 = .ok (.iload_n 3, 1) := by decide +kernel
theorem dX5_pourWhole_44 : decode cX5_pourWhole 44 = .ok (.iconst 2, 1) := by decide +kernel
theorem dX5_pourWhole_45 : decode cX5_pourWhole 45 = .ok (.irem, 1) := by decide +kernel
theorem dX5_pourWhole_46 : decode cX5_pourWhole 46 = .ok (.goto 4, 3) := by decide +kernel
theorem dX5_pourWhole_49 : decode cX5_pourWhole 49 = .ok (.iconst 0, 1) := by decide +kernel
theorem dX5_pourWhole_50 : decode cX5_pourWhole 50 = .ok (.iadd, 1) := by decide +kernel
theorem dX5_pourWhole_51 : decode cX5_pourWhole 51 = .ok (.istore_n 3, 1) := by decide +kernel
theorem dX5_pourWhole_52 : decode cX5_pourWhole 52 = .ok (.iload_n 3, 1) := by decide +kernel
theorem dX5_pourWhole_53 : decode cX5_pourWhole 53 = .ok (.iload_n 2, 1) := by decide +kernel
theorem dX5_pourWhole_54 : decode cX5_pourWhole 54 = .ok (.iadd, 1) := by decide +kernel
theorem dX5_pourWhole_55 : decode cX5_pourWhole 55 = .ok (.bipush 16, 2) := by decide +kernel
theorem dX5_pourWhole_57 : decode cX5_pourWhole 57 = .ok (.if_icmp .le 5, 3) := by decide +kernel
theorem dX5_pourWhole_60 : decode cX5_pourWhole 60 = .ok (.iconst 0, 1) := by decide +kernel
theorem dX5_pourWhole_61 : decode cX5_pourWhole 61 = .ok (.ireturn, 1) := by decide +kernel
theorem dX5_pourWhole_62 : decode cX5_pourWhole 62 = .ok (.aload_n 0, 1) := by decide +kernel
theorem dX5_pourWhole_63 : decode cX5_pourWhole 63 = .ok (.iload_n 1, 1) := by decide +kernel
theorem dX5_pourWhole_64 : decode cX5_pourWhole 64 = .ok (.iload_n 3, 1) := by decide +kernel
theorem dX5_pourWhole_65 : decode cX5_pourWhole 65 = .ok (.iconst (-1), 1) := by decide +kernel
theorem dX5_pourWhole_66 : decode cX5_pourWhole 66 = .ok (.iconst (-1), 1) := by decide +kernel
theorem dX5_pourWhole_67 : decode cX5_pourWhole 67 = .ok (.invokevirtual 68, 3) := by decide +kernel
theorem dX5_pourWhole_70 : decode cX5_pourWhole 70 = .ok (.iconst 0, 1) := by decide +kernel
theorem dX5_pourWhole_71 : decode cX5_pourWhole 71 = .ok (.istore 4, 2) := by decide +kernel
theorem dX5_pourWhole_73 : decode cX5_pourWhole 73 = .ok (.iload 4, 2) := by decide +kernel
theorem dX5_pourWhole_75 : decode cX5_pourWhole 75 = .ok (.iload_n 2, 1) := by decide +kernel
theorem dX5_pourWhole_76 : decode cX5_pourWhole 76 = .ok (.if_icmp .ge 21, 3) := by decide +kernel
theorem dX5_pourWhole_79 : decode cX5_pourWhole 79 = .ok (.aload_n 0, 1) := by decide +kernel
theorem dX5_pourWhole_80 : decode cX5_pourWhole 80 = .ok (.iload_n 1, 1) := by decide +kernel
theorem dX5_pourWhole_81 : decode cX5_pourWhole 81 = .ok (.iload_n 3, 1) := by decide +kernel
theorem dX5_pourWhole_82 : decode cX5_pourWhole 82 = .ok (.iload 4, 2) := by decide +kernel
theorem dX5_pourWhole_84 : decode cX5_pourWhole 84 = .ok (.iadd, 1) := by decide +kernel
theorem dX5_pourWhole_85 : decode cX5_pourWhole 85 = .ok (.iconst 0, 1) := by decide +kernel
theorem dX5_pourWhole_86 : decode cX5_pourWhole 86 = .ok (.bipush 24, 2) := by decide +kernel
theorem dX5_pourWhole_88 : decode cX5_pourWhole 88 = .ok (.invokevirtual 72, 3) := by decide +kernel
theorem dX5_pourWhole_91 : decode cX5_pourWhole 91 = .ok (.iinc 4 1, 3) := by decide +kernel
theorem dX5_pourWhole_94 : decode cX5_pourWhole 94 = .ok (.goto (-21), 3) := by decide +kernel
theorem dX5_pourWhole_97 : decode cX5_pourWhole 97 = .ok (.aload_n 0, 1) := by decide +kernel
theorem dX5_pourWhole_98 : decode cX5_pourWhole 98 = .ok (.iload_n 3, 1) := by decide +kernel
theorem dX5_pourWhole_99 : decode cX5_pourWhole 99 = .ok (.iload_n 2, 1) := by decide +kernel
theorem dX5_pourWhole_100 : decode cX5_pourWhole 100 = .ok (.iadd, 1) := by decide +kernel
theorem dX5_pourWhole_101 : decode cX5_pourWhole 101 = .ok (.invokevirtual 56, 3) := by decide +kernel
theorem dX5_pourWhole_104 : decode cX5_pourWhole 104 = .ok (.iconst 1, 1) := by decide +kernel
theorem dX5_pourWhole_105 : decode cX5_pourWhole 105 = .ok (.ireturn, 1) := by decide +kernel
set_option maxRecDepth 20000 in
theorem ggX5_pourInRow_X5_of : GoodIn wsX5_pourInRow wsX5_of := goodIn_r _ [10, 3, 36, 37, 38, 39, 40, 41, 42, 43, 44, 45, 46, 47, 48, 49, 50, 51, 52, 53, 54, 55] (by decide +kernel) (by decide +kernel)
set_option maxRecDepth 20000 in
theorem gX5_pourInRow_X5_of : GoodIn wsX5_pourInRow (wsV RX5 60 RX5 yX5_of wsX5_of) := goodIn_app (goodIn_of _ (by decide +kernel)) ggX5_pourInRow_X5_of
set_option maxRecDepth 20000 in
theorem ggX5_pourInRow_X5_isEmpty : GoodIn wsX5_pourInRow wsX5_isEmpty := goodIn_r _ [14, 2, 15, 36, 37, 38, 39, 40, 41, 42, 43, 44, 45, 46, 47, 48, 49, 50, 51, 52, 53, 54, 55] (by decide +kernel) (by decide +kernel)
set_option maxRecDepth 20000 in
theorem gX5_pourInRow_X5_isEmpty : GoodIn wsX5_pourInRow (wsV RX5 64 RX5 yX5_isEmpty wsX5_isEmpty) := goodIn_app (goodIn_of _ (by decide +kernel)) ggX5_pourInRow_X5_isEmpty
set_option maxRecDepth 20000 in
theorem ggX5_pourInRow_X5_nextPage : GoodIn wsX5_pourInRow wsX5_nextPage := goodIn_r _ [19, 2, 5, 4, 36, 37, 38, 39, 40, 41, 42, 43, 44, 45, 46, 47, 48, 49, 50, 51, 52, 53, 54, 55] (by decide +kernel) (by decide +kernel)
set_option maxRecDepth 20000 in
theorem gX5_pourInRow_X5_nextPage : GoodIn wsX5_pourInRow (wsV RX5 56 RX5 yX5_nextPage wsX5_nextPage) := goodIn_app (goodIn_of _ (by decide +kernel)) ggX5_pourInRow_X5_nextPage
set_option maxRecDepth 20000 in
theorem ggX5_pourInRow_X5_nextRow : GoodIn wsX5_pourInRow wsX5_nextRow := goodIn_r _ [23, 5, 2, 4, 16, 17, 18, 9, 19, 36, 37, 38, 39, 40, 41, 42, 43, 44, 45, 46, 47, 48, 49, 50, 51, 52, 53, 54, 55] (by decide +kernel) (by decide +kernel)
set_option maxRecDepth 20000 in
theorem gX5_pourInRow_X5_nextRow : GoodIn wsX5_pourInRow (wsV RX5 75 RX5 yX5_nextRow wsX5_nextRow) := goodIn_app (goodIn_of _ (by decide +kernel)) ggX5_pourInRow_X5_nextRow
set_option maxRecDepth 20000 in
theorem ggX5_pourInRow_X5_stand : GoodIn wsX5_pourInRow wsX5_stand := goodIn_r _ [27, 28, 29, 30, 1, 6, 7, 8, 9, 10, 3, 36, 37, 38, 39, 40, 41, 42, 43, 44, 45, 46, 47, 48, 49, 50, 51, 52, 53, 54, 55] (by decide +kernel) (by decide +kernel)
set_option maxRecDepth 20000 in
theorem gX5_pourInRow_X5_stand : GoodIn wsX5_pourInRow (wsV RX5 68 RX5 yX5_stand wsX5_stand) := goodIn_app (goodIn_of _ (by decide +kernel)) ggX5_pourInRow_X5_stand
set_option maxRecDepth 20000 in
theorem ggX5_pourInRow_X5_mark : GoodIn wsX5_pourInRow wsX5_mark := goodIn_r _ [34, 35, 15, 36, 37, 38, 39, 40, 41, 42, 43, 44, 45, 46, 47, 48, 49, 50, 51, 52, 53, 54, 55] (by decide +kernel) (by decide +kernel)
set_option maxRecDepth 20000 in
theorem gX5_pourInRow_X5_mark : GoodIn wsX5_pourInRow (wsV RX5 72 RX5 yX5_mark wsX5_mark) := goodIn_app (goodIn_of _ (by decide +kernel)) ggX5_pourInRow_X5_mark
theorem dX5_pourInRow_0 : decode cX5_pourInRow 0 = .ok (.aload_n 0, 1) := by decide +kernel
theorem dX5_pourInRow_1 : decode cX5_pourInRow 1 = .ok (.iload_n 1, 1) := by decide +kernel
theorem dX5_pourInRow_2 : decode cX5_pourInRow 2 = .ok (.iconst 0, 1) := by decide +kernel
theorem dX5_pourInRow_3 : decode cX5_pourInRow 3 = .ok (.invokevirtual 60, 3) := by decide +kernel
theorem dX5_pourInRow_6 : decode cX5_pourInRow 6 = .ok (.iconst 1, 1) := by decide +kernel
theorem dX5_pourInRow_7 : decode cX5_pourInRow 7 = .ok (.if_icmp .ne 7, 3) := by decide +kernel
theorem dX5_pourInRow_10 : decode cX5_pourInRow 10 = .ok (.iconst 1, 1) := by decide +kernel
theorem dX5_pourInRow_11 : decode cX5_pourInRow 11 = .ok (.goto 4, 3) := by decide +kernel
theorem dX5_pourInRow_14 : decode cX5_pourInRow 14 = .ok (.iconst 0, 1) := by decide +kernel
theorem dX5_pourInRow_15 : decode cX5_pourInRow 15 = .ok (.istore_n 2, 1) := by decide +kernel
theorem dX5_pourInRow_16 : decode cX5_pourInRow 16 = .ok (.aload_n 0, 1) := by decide +kernel
theorem dX5_pourInRow_17 : decode cX5_pourInRow 17 = .ok (.iload_n 1, 1) := by decide +kernel
theorem dX5_pourInRow_18 : decode cX5_pourInRow 18 = .ok (.iconst 1, 1) := by decide +kernel
theorem dX5_pourInRow_19 : decode cX5_pourInRow 19 = .ok (.invokevirtual 60, 3) := by decide +kernel
theorem dX5_pourInRow_22 : decode cX5_pourInRow 22 = .ok (.istore_n 3, 1) := by decide +kernel
theorem dX5_pourInRow_23 : decode cX5_pourInRow 23 = .ok (.aload_n 0, 1) := by decide +kernel
theorem dX5_pourInRow_24 : decode cX5_pourInRow 24 = .ok (.invokevirtual 64, 3) := by decide +kernel
theorem dX5_pourInRow_27 : decode cX5_pourInRow 27 = .ok (.ifCond .ne 38, 3) := by decide +kernel
theorem dX5_pourInRow_30 : decode cX5_pourInRow 30 = .ok (.aload_n 0, 1) := by decide +kernel
theorem dX5_pourInRow_31 : decode cX5_pourInRow 31 = .ok (.getfield 31, 3) := by decide +kernel
theorem dX5_pourInRow_34 : decode cX5_pourInRow 34 = .ok (.aload_n 0, 1) := by decide +kernel
theorem dX5_pourInRow_35 : decode cX5_pourInRow 35 = .ok (.getfield 47, 3) := by decide +kernel
theorem dX5_pourInRow_38 : decode cX5_pourInRow 38 = .ok (.iaload, 1) := by decide +kernel
theorem dX5_pourInRow_39 : decode cX5_pourInRow 39 = .ok (.aload_n 0, 1) := by decide +kernel
theorem dX5_pourInRow_40 : decode cX5_pourInRow 40 = .ok (.iload_n 1, 1) := by decide +kernel
theorem dX5_pourInRow_41 : decode cX5_pourInRow 41 = .ok (.iconst 2, 1) := by decide +kernel
theorem dX5_pourInRow_42 : decode cX5_pourInRow 42 = .ok (.invokevirtual 60, 3) := by decide +kernel
theorem dX5_pourInRow_45 : decode cX5_pourInRow 45 = .ok (.iadd, 1) := by decide +kernel
theorem dX5_pourInRow_46 : decode cX5_pourInRow 46 = .ok (.aload_n 0, 1) := by decide +kernel
theorem dX5_pourInRow_47 : decode cX5_pourInRow 47 = .ok (.getfield 7, 3) := by decide +kernel
theorem dX5_pourInRow_50 : decode cX5_pourInRow 50 = .ok (.iconst 0, 1) := by decide +kernel
theorem dX5_pourInRow_51 : decode cX5_pourInRow 51 = .ok (.iaload, 1) := by decide +kernel
theorem dX5_pourInRow_52 : decode cX5_pourInRow 52 = .ok (.if_icmp .le 13, 3) := by decide +kernel
theorem dX5_pourInRow_55 : decode cX5_pourInRow 55 = .ok (.aload_n 0, 1) := by decide +kernel
theorem dX5_pourInRow_56 : decode cX5_pourInRow 56 = .ok (.aload_n 0, 1) := by decide +kernel
theorem dX5_pourInRow_57 : decode cX5_pourInRow 57 = .ok (.getfield 47, 3) := by decide +kernel
theorem dX5_pourInRow_60 : decode cX5_pourInRow 60 = .ok (.iconst 1, 1) := by decide +kernel
theorem dX5_pourInRow_61 : decode cX5_pourInRow 61 = .ok (.iadd, 1) := by decide +kernel
theorem dX5_pourInRow_62 : decode cX5_pourInRow 62 = .ok (.invokevirtual 56, 3) := by decide +kernel
theorem dX5_pourInRow_65 : decode cX5_pourInRow 65 = .ok (.bipush 6, 2) := by decide +kernel
theorem dX5_pourInRow_67 : decode cX5_pourInRow 67 = .ok (.aload_n 0, 1) := by decide +kernel
theorem dX5_pourInRow_68 : decode cX5_pourInRow 68 = .ok (.getfield 53, 3) := by decide +kernel
theorem dX5_pourInRow_71 : decode cX5_pourInRow 71 = .ok (.isub, 1) := by decide +kernel
theorem dX5_pourInRow_72 : decode cX5_pourInRow 72 = .ok (.iload_n 3, 1) := by decide +kernel
theorem dX5_pourInRow_73 : decode cX5_pourInRow 73 = .ok (.if_icmp .ge 7, 3) := by decide +kernel
theorem dX5_pourInRow_76 : decode cX5_pourInRow 76 = .ok (.aload_n 0, 1) := by decide +kernel
theorem dX5_pourInRow_77 : decode cX5_pourInRow 77 = .ok (.invokevirtual 75, 3) := by decide +kernel
theorem dX5_pourInRow_80 : decode cX5_pourInRow 80 = .ok (.iload_n 2, 1) := by decide +kernel
theorem dX5_pourInRow_81 : decode cX5_pourInRow 81 = .ok (.ifCond .eq 23, 3) := by decide +kernel
theorem dX5_pourInRow_84 : decode cX5_pourInRow 84 = .ok (.aload_n 0, 1) := by decide +kernel
theorem dX5_pourInRow_85 : decode cX5_pourInRow 85 = .ok (.getfield 47, 3) := by decide +kernel
theorem dX5_pourInRow_88 : decode cX5_pourInRow 88 = .ok (.iconst 2, 1) := by decide +kernel
theorem dX5_pourInRow_89 : decode cX5_pourInRow 89 = .ok (.irem, 1) := by decide +kernel
theorem dX5_pourInRow_90 : decode cX5_pourInRow 90 = .ok (.ifCond .ne 14, 3) := by decide +kernel
theorem dX5_pourInRow_93 : decode cX5_pourInRow 93 = .ok (.aload_n 0, 1) := by decide +kernel
theorem dX5_pourInRow_94 : decode cX5_pourInRow 94 = .ok (.getfield 53, 3) := by decide +kernel
theorem dX5_pourInRow_97 : decode cX5_pourInRow 97 = .ok (.ifCond .eq 7, 3) := by decide +kernel
theorem dX5_pourInRow_100 : decode cX5_pourInRow 100 = .ok (.aload_n 0, 1) := by decide +kernel
theorem dX5_pourInRow_101 : decode cX5_pourInRow 101 = .ok (.invokevirtual 75, 3) := by decide +kernel
theorem dX5_pourInRow_104 : decode cX5_pourInRow 104 = .ok (.aload_n 0, 1) := by decide +kernel
theorem dX5_pourInRow_105 : decode cX5_pourInRow 105 = .ok (.getfield 47, 3) := by decide +kernel
theorem dX5_pourInRow_108 : decode cX5_pourInRow 108 = .ok (.bipush 16, 2) := by decide +kernel
theorem dX5_pourInRow_110 : decode cX5_pourInRow 110 = .ok (.if_icmp .lt 5, 3) := by decide +kernel
theorem dX5_pourInRow_113 : decode cX5_pourInRow 113 = .ok (.iconst 0, 1) := by decide +kernel
theorem dX5_pourInRow_114 : decode cX5_pourInRow 114 = .ok (.ireturn, 1) := by decide +kernel
theorem dX5_pourInRow_115 : decode cX5_pourInRow 115 = .ok (.aload_n 0, 1) := by decide +kernel
theorem dX5_pourInRow_116 : decode cX5_pourInRow 116 = .ok (.iload_n 2, 1) := by decide +kernel
theorem dX5_pourInRow_117 : decode cX5_pourInRow 117 = .ok (.ifCond .eq 20, 3) := by decide +kernel
theorem dX5_pourInRow_120 : decode cX5_pourInRow 120 = .ok (.aload_n 0, 1) := by decide +kernel
theorem dX5_pourInRow_121 : decode cX5_pourInRow 121 = .ok (.getfield 47, 3) := by decide +kernel
theorem dX5_pourInRow_124 : decode cX5_pourInRow 124 = .ok (.iconst 2, 1) := by decide +kernel
theorem dX5_pourInRow_125 : decode cX5_pourInRow 125 = .ok (.irem, 1) := by decide +kernel
theorem dX5_pourInRow_126 : decode cX5_pourInRow 126 = .ok (.iconst 1, 1) := by decide +kernel
theorem dX5_pourInRow_127 : decode cX5_pourInRow 127 = .ok (.if_icmp .ne 10, 3) := by decide +kernel
theorem dX5_pourInRow_130 : decode cX5_pourInRow 130 = .ok (.bipush 6, 2) := by decide +kernel
theorem dX5_pourInRow_132 : decode cX5_pourInRow 132 = .ok (.iload_n 3, 1) := by decide +kernel
theorem dX5_pourInRow_133 : decode cX5_pourInRow 133 = .ok (.isub, 1) := by decide +kernel
theorem dX5_pourInRow_134 : decode cX5_pourInRow 134 = .ok (.goto 7, 3) := by decide +kernel
theorem dX5_pourInRow_137 : decode cX5_pourInRow 137 = .ok (.aload_n 0, 1) := by decide +kernel
theorem dX5_pourInRow_138 : decode cX5_pourInRow 138 = .ok (.getfield 53, 3) := by decide +kernel
theorem dX5_pourInRow_141 : decode cX5_pourInRow 141 = .ok (.putfield 53, 3) := by decide +kernel
theorem dX5_pourInRow_144 : decode cX5_pourInRow 144 = .ok (.aload_n 0, 1) := by decide +kernel
theorem dX5_pourInRow_145 : decode cX5_pourInRow 145 = .ok (.iload_n 1, 1) := by decide +kernel
theorem dX5_pourInRow_146 : decode cX5_pourInRow 146 = .ok (.aload_n 0, 1) := by decide +kernel
theorem dX5_pourInRow_147 : decode cX5_pourInRow 147 = .ok (.getfield 47, 3) := by decide +kernel
theorem dX5_pourInRow_150 : decode cX5_pourInRow 150 = .ok (.aload_n 0, 1) := by decide +kernel
theorem dX5_pourInRow_151 : decode cX5_pourInRow 151 = .ok (.getfield 50, 3) := by decide +kernel
theorem dX5_pourInRow_154 : decode cX5_pourInRow 154 = .ok (.aload_n 0, 1) := by decide +kernel
theorem dX5_pourInRow_155 : decode cX5_pourInRow 155 = .ok (.getfield 53, 3) := by decide +kernel
theorem dX5_pourInRow_158 : decode cX5_pourInRow 158 = .ok (.invokevirtual 68, 3) := by decide +kernel
theorem dX5_pourInRow_161 : decode cX5_pourInRow 161 = .ok (.aload_n 0, 1) := by decide +kernel
theorem dX5_pourInRow_162 : decode cX5_pourInRow 162 = .ok (.iload_n 1, 1) := by decide +kernel
theorem dX5_pourInRow_163 : decode cX5_pourInRow 163 = .ok (.aload_n 0, 1) := by decide +kernel
theorem dX5_pourInRow_164 : decode cX5_pourInRow 164 = .ok (.getfield 47, 3) := by decide +kernel
theorem dX5_pourInRow_167 : decode cX5_pourInRow 167 = .ok (.bipush 6, 2) := by decide +kernel
theorem dX5_pourInRow_169 : decode cX5_pourInRow 169 = .ok (.aload_n 0, 1) := by decide +kernel
theorem dX5_pourInRow_170 : decode cX5_pourInRow 170 = .ok (.getfield 50, 3) := by decide +kernel
theorem dX5_pourInRow_173 : decode cX5_pourInRow 173 = .ok (.imul, 1) := by decide +kernel
theorem dX5_pourInRow_174 : decode cX5_pourInRow 174 = .ok (.aload_n 0, 1) := by decide +kernel
theorem dX5_pourInRow_175 : decode cX5_pourInRow 175 = .ok (.getfield 53, 3) := by decide +kernel
theorem dX5_pourInRow_178 : decode cX5_pourInRow 178 = .ok (.iadd, 1) := by decide +kernel
theorem dX5_pourInRow_179 : decode cX5_pourInRow 179 = .ok (.iload_n 3, 1) := by decide +kernel
theorem dX5_pourInRow_180 : decode cX5_pourInRow 180 = .ok (.invokevirtual 72, 3) := by decide +kernel
theorem dX5_pourInRow_183 : decode cX5_pourInRow 183 = .ok (.aload_n 0, 1) := by decide +kernel
theorem dX5_pourInRow_184 : decode cX5_pourInRow 184 = .ok (.dup, 1) := by decide +kernel
theorem dX5_pourInRow_185 : decode cX5_pourInRow 185 = .ok (.getfield 53, 3) := by decide +kernel
theorem dX5_pourInRow_188 : decode cX5_pourInRow 188 = .ok (.iload_n 3, 1) := by decide +kernel
theorem dX5_pourInRow_189 : decode cX5_pourInRow 189 = .ok (.iadd, 1) := by decide +kernel
theorem dX5_pourInRow_190 : decode cX5_pourInRow 190 = .ok (.putfield 53, 3) := by decide +kernel
theorem dX5_pourInRow_193 : decode cX5_pourInRow 193 = .ok (.iconst 1, 1) := by decide +kernel
theorem dX5_pourInRow_194 : decode cX5_pourInRow 194 = .ok (.ireturn, 1) := by decide +kernel
set_option maxRecDepth 20000 in
theorem ggX5_pour_X5_nextPage : GoodIn wsX5_pour wsX5_nextPage := goodIn_r _ [12, 13, 14, 15, 44, 45, 46, 47, 48, 49, 50, 51, 52, 53, 54, 55, 56, 57, 58, 59, 60, 61, 62, 63] (by decide +kernel) (by decide +kernel)
set_option maxRecDepth 20000 in
theorem gX5_pour_X5_nextPage : GoodIn wsX5_pour (wsV RX5 56 RX5 yX5_nextPage wsX5_nextPage) := goodIn_app (goodIn_of _ (by decide +kernel)) ggX5_pour_X5_nextPage
set_option maxRecDepth 20000 in
theorem ggX5_pour_X5_of : GoodIn wsX5_pour wsX5_of := goodIn_r _ [19, 4, 44, 45, 46, 47, 48, 49, 50, 51, 52, 53, 54, 55, 56, 57, 58, 59, 60, 61, 62, 63] (by decide +kernel) (by decide +kernel)
set_option maxRecDepth 20000 in
theorem gX5_pour_X5_of : GoodIn wsX5_pour (wsV RX5 60 RX5 yX5_of wsX5_of) := goodIn_app (goodIn_of _ (by decide +kernel)) ggX5_pour_X5_of
set_option maxRecDepth 20000 in
theorem ggX5_pour_X5_pourInRow : GoodIn wsX5_pour wsX5_pourInRow := goodIn_r _ [23, 2, 13, 4, 15, 14, 16, 17, 18, 11, 19, 24, 25, 26, 27, 3, 8, 9, 10, 12, 28, 29, 30, 31, 32, 33, 34, 35, 5, 6, 7, 36, 37, 38, 39, 1, 44, 45, 46, 47, 48, 49, 50, 51, 52, 53, 54, 55, 56, 57, 58, 59, 60, 61, 62, 63] (by decide +kernel) (by decide +kernel)
set_option maxRecDepth 20000 in
theorem gX5_pour_X5_pourInRow : GoodIn wsX5_pour (wsV RX5 78 RX5 yX5_pourInRow wsX5_pourInRow) := goodIn_app (goodIn_of _ (by decide +kernel)) ggX5_pour_X5_pourInRow
set_option maxRecDepth 20000 in
theorem ggX5_pour_X5_pourWhole : GoodIn wsX5_pour wsX5_pourWhole := goodIn_r _ [43, 13, 16, 17, 18, 11, 19, 4, 24, 25, 26, 27, 3, 32, 33, 34, 35, 5, 6, 7, 2, 36, 37, 38, 39, 1, 8, 9, 10, 12, 14, 15, 44, 45, 46, 47, 48, 49, 50, 51, 52, 53, 54, 55, 56, 57, 58, 59, 60, 61, 62, 63] (by decide +kernel) (by decide +kernel)
set_option maxRecDepth 20000 in
theorem gX5_pour_X5_pourWhole : GoodIn wsX5_pour (wsV RX5 82 RX5 yX5_pourWhole wsX5_pourWhole) := goodIn_app (goodIn_of _ (by decide +kernel)) ggX5_pour_X5_pourWhole
theorem dX5_pour_0 : decode cX5_pour 0 = .ok (.iconst 0, 1) := by decide +kernel
theorem dX5_pour_1 : decode cX5_pour 1 = .ok (.istore_n 1, 1) := by decide +kernel
theorem dX5_pour_2 : decode cX5_pour 2 = .ok (.iload_n 1, 1) := by decide +kernel
theorem dX5_pour_3 : decode cX5_pour 3 = .ok (.sipush 384, 3) := by decide +kernel
theorem dX5_pour_6 : decode cX5_pour 6 = .ok (.if_icmp .ge 16, 3) := by decide +kernel
theorem dX5_pour_9 : decode cX5_pour 9 = .ok (.aload_n 0, 1) := by decide +kernel
theorem dX5_pour_10 : decode cX5_pour 10 = .ok (.getfield 28, 3) := by decide +kernel
theorem dX5_pour_13 : decode cX5_pour 13 = .ok (.iload_n 1, 1) := by decide +kernel
theorem dX5_pour_14 : decode cX5_pour 14 = .ok (.iconst (-1), 1) := by decide +kernel
theorem dX5_pour_15 : decode cX5_pour 15 = .ok (.iastore, 1) := by decide +kernel
theorem dX5_pour_16 : decode cX5_pour 16 = .ok (.iinc 1 1, 3) := by decide +kernel
theorem dX5_pour_19 : decode cX5_pour 19 = .ok (.goto (-17), 3) := by decide +kernel
theorem dX5_pour_22 : decode cX5_pour 22 = .ok (.iconst 0, 1) := by decide +kernel
theorem dX5_pour_23 : decode cX5_pour 23 = .ok (.istore_n 1, 1) := by decide +kernel
theorem dX5_pour_24 : decode cX5_pour 24 = .ok (.iload_n 1, 1) := by decide +kernel
theorem dX5_pour_25 : decode cX5_pour 25 = .ok (.bipush 16, 2) := by decide +kernel
theorem dX5_pour_27 : decode cX5_pour 27 = .ok (.if_icmp .ge 23, 3) := by decide +kernel
theorem dX5_pour_30 : decode cX5_pour 30 = .ok (.aload_n 0, 1) := by decide +kernel
theorem dX5_pour_31 : decode cX5_pour 31 = .ok (.getfield 31, 3) := by decide +kernel
theorem dX5_pour_34 : decode cX5_pour 34 = .ok (.iload_n 1, 1) := by decide +kernel
theorem dX5_pour_35 : decode cX5_pour 35 = .ok (.iconst 0, 1) := by decide +kernel
theorem dX5_pour_36 : decode cX5_pour 36 = .ok (.iastore, 1) := by decide +kernel
theorem dX5_pour_37 : decode cX5_pour 37 = .ok (.aload_n 0, 1) := by decide +kernel
theorem dX5_pour_38 : decode cX5_pour 38 = .ok (.getfield 34, 3) := by decide +kernel
theorem dX5_pour_41 : decode cX5_pour 41 = .ok (.iload_n 1, 1) := by decide +kernel
theorem dX5_pour_42 : decode cX5_pour 42 = .ok (.iconst 0, 1) := by decide +kernel
theorem dX5_pour_43 : decode cX5_pour 43 = .ok (.iastore, 1) := by decide +kernel
theorem dX5_pour_44 : decode cX5_pour 44 = .ok (.iinc 1 1, 3) := by decide +kernel
theorem dX5_pour_47 : decode cX5_pour 47 = .ok (.goto (-23), 3) := by decide +kernel
theorem dX5_pour_50 : decode cX5_pour 50 = .ok (.aload_n 0, 1) := by decide +kernel
theorem dX5_pour_51 : decode cX5_pour 51 = .ok (.iconst 0, 1) := by decide +kernel
theorem dX5_pour_52 : decode cX5_pour 52 = .ok (.invokevirtual 56, 3) := by decide +kernel
theorem dX5_pour_55 : decode cX5_pour 55 = .ok (.iconst 1, 1) := by decide +kernel
theorem dX5_pour_56 : decode cX5_pour 56 = .ok (.istore_n 1, 1) := by decide +kernel
theorem dX5_pour_57 : decode cX5_pour 57 = .ok (.iconst 0, 1) := by decide +kernel
theorem dX5_pour_58 : decode cX5_pour 58 = .ok (.istore_n 2, 1) := by decide +kernel
theorem dX5_pour_59 : decode cX5_pour 59 = .ok (.iload_n 2, 1) := by decide +kernel
theorem dX5_pour_60 : decode cX5_pour 60 = .ok (.aload_n 0, 1) := by decide +kernel
theorem dX5_pour_61 : decode cX5_pour 61 = .ok (.getfield 7, 3) := by decide +kernel
theorem dX5_pour_64 : decode cX5_pour 64 = .ok (.iconst 1, 1) := by decide +kernel
theorem dX5_pour_65 : decode cX5_pour 65 = .ok (.iaload, 1) := by decide +kernel
theorem dX5_pour_66 : decode cX5_pour 66 = .ok (.if_icmp .ge 73, 3) := by decide +kernel
theorem dX5_pour_69 : decode cX5_pour 69 = .ok (.iload_n 1, 1) := by decide +kernel
theorem dX5_pour_70 : decode cX5_pour 70 = .ok (.ifCond .eq 36, 3) := by decide +kernel
theorem dX5_pour_73 : decode cX5_pour 73 = .ok (.aload_n 0, 1) := by decide +kernel
theorem dX5_pour_74 : decode cX5_pour 74 = .ok (.iload_n 2, 1) := by decide +kernel
theorem dX5_pour_75 : decode cX5_pour 75 = .ok (.iconst 0, 1) := by decide +kernel
theorem dX5_pour_76 : decode cX5_pour 76 = .ok (.invokevirtual 60, 3) := by decide +kernel
theorem dX5_pour_79 : decode cX5_pour 79 = .ok (.iconst 2, 1) := by decide +kernel
theorem dX5_pour_80 : decode cX5_pour 80 = .ok (.if_icmp .ge 14, 3) := by decide +kernel
theorem dX5_pour_83 : decode cX5_pour 83 = .ok (.aload_n 0, 1) := by decide +kernel
theorem dX5_pour_84 : decode cX5_pour 84 = .ok (.iload_n 2, 1) := by decide +kernel
theorem dX5_pour_85 : decode cX5_pour 85 = .ok (.invokevirtual 78, 3) := by decide +kernel
theorem dX5_pour_88 : decode cX5_pour 88 = .ok (.ifCond .eq 18, 3) := by decide +kernel
theorem dX5_pour_91 : decode cX5_pour 91 = .ok (.goto 11, 3) := by decide +kernel
theorem dX5_pour_94 : decode cX5_pour 94 = .ok (.aload_n 0, 1) := by decide +kernel
theorem dX5_pour_95 : decode cX5_pour 95 = .ok (.iload_n 2, 1) := by decide +kernel
theorem dX5_pour_96 : decode cX5_pour 96 = .ok (.invokevirtual 82, 3) := by decide +kernel
theorem dX5_pour_99 : decode cX5_pour 99 = .ok (.ifCond .eq 7, 3) := by decide +kernel
theorem dX5_pour_102 : decode cX5_pour 102 = .ok (.iconst 1, 1) := by decide +kernel
theorem dX5_pour_103 : decode cX5_pour 103 = .ok (.goto 4, 3) := by decide +kernel
theorem dX5_pour_106 : decode cX5_pour 106 = .ok (.iconst 0, 1) := by decide +kernel
theorem dX5_pour_107 : decode cX5_pour 107 = .ok (.istore_n 1, 1) := by decide +kernel
theorem dX5_pour_108 : decode cX5_pour 108 = .ok (.iload_n 1, 1) := by decide +kernel
theorem dX5_pour_109 : decode cX5_pour 109 = .ok (.ifCond .ne 24, 3) := by decide +kernel
theorem dX5_pour_112 : decode cX5_pour 112 = .ok (.aload_n 0, 1) := by decide +kernel
theorem dX5_pour_113 : decode cX5_pour 113 = .ok (.getfield 19, 3) := by decide +kernel
theorem dX5_pour_116 : decode cX5_pour 116 = .ok (.iload_n 2, 1) := by decide +kernel
theorem dX5_pour_117 : decode cX5_pour 117 = .ok (.iconst (-1), 1) := by decide +kernel
theorem dX5_pour_118 : decode cX5_pour 118 = .ok (.iastore, 1) := by decide +kernel
theorem dX5_pour_119 : decode cX5_pour 119 = .ok (.aload_n 0, 1) := by decide +kernel
theorem dX5_pour_120 : decode cX5_pour 120 = .ok (.getfield 22, 3) := by decide +kernel
theorem dX5_pour_123 : decode cX5_pour 123 = .ok (.iload_n 2, 1) := by decide +kernel
theorem dX5_pour_124 : decode cX5_pour 124 = .ok (.iconst (-1), 1) := by decide +kernel
theorem dX5_pour_125 : decode cX5_pour 125 = .ok (.iastore, 1) := by decide +kernel
theorem dX5_pour_126 : decode cX5_pour 126 = .ok (.aload_n 0, 1) := by decide +kernel
theorem dX5_pour_127 : decode cX5_pour 127 = .ok (.getfield 25, 3) := by decide +kernel
theorem dX5_pour_130 : decode cX5_pour 130 = .ok (.iload_n 2, 1) := by decide +kernel
theorem dX5_pour_131 : decode cX5_pour 131 = .ok (.iconst (-1), 1) := by decide +kernel
theorem dX5_pour_132 : decode cX5_pour 132 = .ok (.iastore, 1) := by decide +kernel
theorem dX5_pour_133 : decode cX5_pour 133 = .ok (.iinc 2 1, 3) := by decide +kernel
theorem dX5_pour_136 : decode cX5_pour 136 = .ok (.goto (-77), 3) := by decide +kernel
theorem dX5_pour_139 : decode cX5_pour 139 = .ok (.return_, 1) := by decide +kernel
theorem dX5_used_0 : decode cX5_used 0 = .ok (.iconst 0, 1) := by decide +kernel
theorem dX5_used_1 : decode cX5_used 1 = .ok (.istore_n 1, 1) := by decide +kernel
theorem dX5_used_2 : decode cX5_used 2 = .ok (.iconst 0, 1) := by decide +kernel
theorem dX5_used_3 : decode cX5_used 3 = .ok (.istore_n 2, 1) := by decide +kernel
theorem dX5_used_4 : decode cX5_used 4 = .ok (.iload_n 2, 1) := by decide +kernel
theorem dX5_used_5 : decode cX5_used 5 = .ok (.bipush 16, 2) := by decide +kernel
theorem dX5_used_7 : decode cX5_used 7 = .ok (.if_icmp .ge 26, 3) := by decide +kernel
theorem dX5_used_10 : decode cX5_used 10 = .ok (.aload_n 0, 1) := by decide +kernel
theorem dX5_used_11 : decode cX5_used 11 = .ok (.getfield 34, 3) := by decide +kernel
theorem dX5_used_14 : decode cX5_used 14 = .ok (.iload_n 2, 1) := by decide +kernel
theorem dX5_used_15 : decode cX5_used 15 = .ok (.iaload, 1) := by decide +kernel
theorem dX5_used_16 : decode cX5_used 16 = .ok (.ifCond .le 9, 3) := by decide +kernel
theorem dX5_used_19 : decode cX5_used 19 = .ok (.iload_n 2, 1) := by decide +kernel
theorem dX5_used_20 : decode cX5_used 20 = .ok (.iconst 1, 1) := by decide +kernel
theorem dX5_used_21 : decode cX5_used 21 = .ok (.iadd, 1) := by decide +kernel
theorem dX5_used_22 : decode cX5_used 22 = .ok (.goto 4, 3) := by decide +kernel
theorem dX5_used_25 : decode cX5_used 25 = .ok (.iload_n 1, 1) := by decide +kernel
theorem dX5_used_26 : decode cX5_used 26 = .ok (.istore_n 1, 1) := by decide +kernel
theorem dX5_used_27 : decode cX5_used 27 = .ok (.iinc 2 1, 3) := by decide +kernel
theorem dX5_used_30 : decode cX5_used 30 = .ok (.goto (-26), 3) := by decide +kernel
theorem dX5_used_33 : decode cX5_used 33 = .ok (.iload_n 1, 1) := by decide +kernel
theorem dX5_used_34 : decode cX5_used 34 = .ok (.ireturn, 1) := by decide +kernel
theorem dX5_leftOut_0 : decode cX5_leftOut 0 = .ok (.iconst 0, 1) := by decide +kernel
theorem dX5_leftOut_1 : decode cX5_leftOut 1 = .ok (.istore_n 1, 1) := by decide +kernel
theorem dX5_leftOut_2 : decode cX5_leftOut 2 = .ok (.iconst 0, 1) := by decide +kernel
theorem dX5_leftOut_3 : decode cX5_leftOut 3 = .ok (.istore_n 2, 1) := by decide +kernel
theorem dX5_leftOut_4 : decode cX5_leftOut 4 = .ok (.iload_n 2, 1) := by decide +kernel
theorem dX5_leftOut_5 : decode cX5_leftOut 5 = .ok (.aload_n 0, 1) := by decide +kernel
theorem dX5_leftOut_6 : decode cX5_leftOut 6 = .ok (.getfield 7, 3) := by decide +kernel
theorem dX5_leftOut_9 : decode cX5_leftOut 9 = .ok (.iconst 1, 1) := by decide +kernel
theorem dX5_leftOut_10 : decode cX5_leftOut 10 = .ok (.iaload, 1) := by decide +kernel
theorem dX5_leftOut_11 : decode cX5_leftOut 11 = .ok (.if_icmp .ge 27, 3) := by decide +kernel
theorem dX5_leftOut_14 : decode cX5_leftOut 14 = .ok (.iload_n 1, 1) := by decide +kernel
theorem dX5_leftOut_15 : decode cX5_leftOut 15 = .ok (.aload_n 0, 1) := by decide +kernel
theorem dX5_leftOut_16 : decode cX5_leftOut 16 = .ok (.getfield 19, 3) := by decide +kernel
theorem dX5_leftOut_19 : decode cX5_leftOut 19 = .ok (.iload_n 2, 1) := by decide +kernel
theorem dX5_leftOut_20 : decode cX5_leftOut 20 = .ok (.iaload, 1) := by decide +kernel
theorem dX5_leftOut_21 : decode cX5_leftOut 21 = .ok (.iconst (-1), 1) := by decide +kernel
theorem dX5_leftOut_22 : decode cX5_leftOut 22 = .ok (.if_icmp .ne 7, 3) := by decide +kernel
theorem dX5_leftOut_25 : decode cX5_leftOut 25 = .ok (.iconst 1, 1) := by decide +kernel
theorem dX5_leftOut_26 : decode cX5_leftOut 26 = .ok (.goto 4, 3) := by decide +kernel
theorem dX5_leftOut_29 : decode cX5_leftOut 29 = .ok (.iconst 0, 1) := by decide +kernel
theorem dX5_leftOut_30 : decode cX5_leftOut 30 = .ok (.iadd, 1) := by decide +kernel
theorem dX5_leftOut_31 : decode cX5_leftOut 31 = .ok (.istore_n 1, 1) := by decide +kernel
theorem dX5_leftOut_32 : decode cX5_leftOut 32 = .ok (.iinc 2 1, 3) := by decide +kernel
theorem dX5_leftOut_35 : decode cX5_leftOut 35 = .ok (.goto (-31), 3) := by decide +kernel
theorem dX5_leftOut_38 : decode cX5_leftOut 38 = .ok (.iload_n 1, 1) := by decide +kernel
theorem dX5_leftOut_39 : decode cX5_leftOut 39 = .ok (.ireturn, 1) := by decide +kernel
theorem dX5_emptyOn_0 : decode cX5_emptyOn 0 = .ok (.iconst 0, 1) := by decide +kernel
theorem dX5_emptyOn_1 : decode cX5_emptyOn 1 = .ok (.istore_n 2, 1) := by decide +kernel
theorem dX5_emptyOn_2 : decode cX5_emptyOn 2 = .ok (.iconst 0, 1) := by decide +kernel
theorem dX5_emptyOn_3 : decode cX5_emptyOn 3 = .ok (.istore_n 3, 1) := by decide +kernel
theorem dX5_emptyOn_4 : decode cX5_emptyOn 4 = .ok (.iload_n 3, 1) := by decide +kernel
theorem dX5_emptyOn_5 : decode cX5_emptyOn 5 = .ok (.bipush 24, 2) := by decide +kernel
theorem dX5_emptyOn_7 : decode cX5_emptyOn 7 = .ok (.if_icmp .ge 32, 3) := by decide +kernel
theorem dX5_emptyOn_10 : decode cX5_emptyOn 10 = .ok (.iload_n 2, 1) := by decide +kernel
theorem dX5_emptyOn_11 : decode cX5_emptyOn 11 = .ok (.aload_n 0, 1) := by decide +kernel
theorem dX5_emptyOn_12 : decode cX5_emptyOn 12 = .ok (.getfield 28, 3) := by decide +kernel
theorem dX5_emptyOn_15 : decode cX5_emptyOn 15 = .ok (.bipush 24, 2) := by decide +kernel
theorem dX5_emptyOn_17 : decode cX5_emptyOn 17 = .ok (.iload_n 1, 1) := by decide +kernel
theorem dX5_emptyOn_18 : decode cX5_emptyOn 18 = .ok (.imul, 1) := by decide +kernel
theorem dX5_emptyOn_19 : decode cX5_emptyOn 19 = .ok (.iload_n 3, 1) := by decide +kernel
theorem dX5_emptyOn_20 : decode cX5_emptyOn 20 = .ok (.iadd, 1) := by decide +kernel
theorem dX5_emptyOn_21 : decode cX5_emptyOn 21 = .ok (.iaload, 1) := by decide +kernel
theorem dX5_emptyOn_22 : decode cX5_emptyOn 22 = .ok (.iconst (-1), 1) := by decide +kernel
theorem dX5_emptyOn_23 : decode cX5_emptyOn 23 = .ok (.if_icmp .ne 7, 3) := by decide +kernel
theorem dX5_emptyOn_26 : decode cX5_emptyOn 26 = .ok (.iconst 1, 1) := by decide +kernel
theorem dX5_emptyOn_27 : decode cX5_emptyOn 27 = .ok (.goto 4, 3) := by decide +kernel
theorem dX5_emptyOn_30 : decode cX5_emptyOn 30 = .ok (.iconst 0, 1) := by decide +kernel
theorem dX5_emptyOn_31 : decode cX5_emptyOn 31 = .ok (.iadd, 1) := by decide +kernel
theorem dX5_emptyOn_32 : decode cX5_emptyOn 32 = .ok (.istore_n 2, 1) := by decide +kernel
theorem dX5_emptyOn_33 : decode cX5_emptyOn 33 = .ok (.iinc 3 1, 3) := by decide +kernel
theorem dX5_emptyOn_36 : decode cX5_emptyOn 36 = .ok (.goto (-32), 3) := by decide +kernel
theorem dX5_emptyOn_39 : decode cX5_emptyOn 39 = .ok (.iload_n 2, 1) := by decide +kernel
theorem dX5_emptyOn_40 : decode cX5_emptyOn 40 = .ok (.ireturn, 1) := by decide +kernel
set_option maxRecDepth 20000 in
theorem ggX5_emptyUnits_X5_emptyOn : GoodIn wsX5_emptyUnits wsX5_emptyOn := goodIn_r _ [6, 7, 8, 9, 10, 11, 12, 13, 14, 15, 16, 17, 18, 19, 20, 21, 22, 23, 24, 25, 26, 27] (by decide +kernel) (by decide +kernel)
set_option maxRecDepth 20000 in
theorem gX5_emptyUnits_X5_emptyOn : GoodIn wsX5_emptyUnits (wsV RX5 85 RX5 yX5_emptyOn wsX5_emptyOn) := goodIn_app (goodIn_of _ (by decide +kernel)) ggX5_emptyUnits_X5_emptyOn
theorem dX5_emptyUnits_0 : decode cX5_emptyUnits 0 = .ok (.iconst 0, 1) := by decide +kernel
theorem dX5_emptyUnits_1 : decode cX5_emptyUnits 1 = .ok (.istore_n 1, 1) := by decide +kernel
theorem dX5_emptyUnits_2 : decode cX5_emptyUnits 2 = .ok (.iconst 0, 1) := by decide +kernel
theorem dX5_emptyUnits_3 : decode cX5_emptyUnits 3 = .ok (.istore_n 2, 1) := by decide +kernel
theorem dX5_emptyUnits_4 : decode cX5_emptyUnits 4 = .ok (.iload_n 2, 1) := by decide +kernel
theorem dX5_emptyUnits_5 : decode cX5_emptyUnits 5 = .ok (.bipush 16, 2) := by decide +kernel
theorem dX5_emptyUnits_7 : decode cX5_emptyUnits 7 = .ok (.if_icmp .ge 30, 3) := by decide +kernel
theorem dX5_emptyUnits_10 : decode cX5_emptyUnits 10 = .ok (.iload_n 1, 1) := by decide +kernel
theorem dX5_emptyUnits_11 : decode cX5_emptyUnits 11 = .ok (.aload_n 0, 1) := by decide +kernel
theorem dX5_emptyUnits_12 : decode cX5_emptyUnits 12 = .ok (.getfield 34, 3) := by decide +kernel
theorem dX5_emptyUnits_15 : decode cX5_emptyUnits 15 = .ok (.iload_n 2, 1) := by decide +kernel
theorem dX5_emptyUnits_16 : decode cX5_emptyUnits 16 = .ok (.iaload, 1) := by decide +kernel
theorem dX5_emptyUnits_17 : decode cX5_emptyUnits 17 = .ok (.ifCond .le 11, 3) := by decide +kernel
theorem dX5_emptyUnits_20 : decode cX5_emptyUnits 20 = .ok (.aload_n 0, 1) := by decide +kernel
theorem dX5_emptyUnits_21 : decode cX5_emptyUnits 21 = .ok (.iload_n 2, 1) := by decide +kernel
theorem dX5_emptyUnits_22 : decode cX5_emptyUnits 22 = .ok (.invokevirtual 85, 3) := by decide +kernel
theorem dX5_emptyUnits_25 : decode cX5_emptyUnits 25 = .ok (.goto 4, 3) := by decide +kernel
theorem dX5_emptyUnits_28 : decode cX5_emptyUnits 28 = .ok (.iconst 0, 1) := by decide +kernel
theorem dX5_emptyUnits_29 : decode cX5_emptyUnits 29 = .ok (.iadd, 1) := by decide +kernel
theorem dX5_emptyUnits_30 : decode cX5_emptyUnits 30 = .ok (.istore_n 1, 1) := by decide +kernel
theorem dX5_emptyUnits_31 : decode cX5_emptyUnits 31 = .ok (.iinc 2 1, 3) := by decide +kernel
theorem dX5_emptyUnits_34 : decode cX5_emptyUnits 34 = .ok (.goto (-30), 3) := by decide +kernel
theorem dX5_emptyUnits_37 : decode cX5_emptyUnits 37 = .ok (.iload_n 1, 1) := by decide +kernel
theorem dX5_emptyUnits_38 : decode cX5_emptyUnits 38 = .ok (.ireturn, 1) := by decide +kernel
theorem dX5_pagesSet_0 : decode cX5_pagesSet 0 = .ok (.iconst 0, 1) := by decide +kernel
theorem dX5_pagesSet_1 : decode cX5_pagesSet 1 = .ok (.istore_n 1, 1) := by decide +kernel
theorem dX5_pagesSet_2 : decode cX5_pagesSet 2 = .ok (.iconst 0, 1) := by decide +kernel
theorem dX5_pagesSet_3 : decode cX5_pagesSet 3 = .ok (.istore_n 2, 1) := by decide +kernel
theorem dX5_pagesSet_4 : decode cX5_pagesSet 4 = .ok (.iload_n 2, 1) := by decide +kernel
theorem dX5_pagesSet_5 : decode cX5_pagesSet 5 = .ok (.bipush 16, 2) := by decide +kernel
theorem dX5_pagesSet_7 : decode cX5_pagesSet 7 = .ok (.if_icmp .ge 26, 3) := by decide +kernel
theorem dX5_pagesSet_10 : decode cX5_pagesSet 10 = .ok (.iload_n 1, 1) := by decide +kernel
theorem dX5_pagesSet_11 : decode cX5_pagesSet 11 = .ok (.aload_n 0, 1) := by decide +kernel
theorem dX5_pagesSet_12 : decode cX5_pagesSet 12 = .ok (.getfield 34, 3) := by decide +kernel
theorem dX5_pagesSet_15 : decode cX5_pagesSet 15 = .ok (.iload_n 2, 1) := by decide +kernel
theorem dX5_pagesSet_16 : decode cX5_pagesSet 16 = .ok (.iaload, 1) := by decide +kernel
theorem dX5_pagesSet_17 : decode cX5_pagesSet 17 = .ok (.ifCond .le 7, 3) := by decide +kernel
theorem dX5_pagesSet_20 : decode cX5_pagesSet 20 = .ok (.iconst 1, 1) := by decide +kernel
theorem dX5_pagesSet_21 : decode cX5_pagesSet 21 = .ok (.goto 4, 3) := by decide +kernel
theorem dX5_pagesSet_24 : decode cX5_pagesSet 24 = .ok (.iconst 0, 1) := by decide +kernel
theorem dX5_pagesSet_25 : decode cX5_pagesSet 25 = .ok (.iadd, 1) := by decide +kernel
theorem dX5_pagesSet_26 : decode cX5_pagesSet 26 = .ok (.istore_n 1, 1) := by decide +kernel
theorem dX5_pagesSet_27 : decode cX5_pagesSet 27 = .ok (.iinc 2 1, 3) := by decide +kernel
theorem dX5_pagesSet_30 : decode cX5_pagesSet 30 = .ok (.goto (-26), 3) := by decide +kernel
theorem dX5_pagesSet_33 : decode cX5_pagesSet 33 = .ok (.iload_n 1, 1) := by decide +kernel
theorem dX5_pagesSet_34 : decode cX5_pagesSet 34 = .ok (.ireturn, 1) := by decide +kernel
set_option maxRecDepth 20000 in
theorem ggX5_isForm_X5_in : GoodIn wsX5_isForm wsX5_in := goodIn_r _ [4] (by decide +kernel) (by decide +kernel)
set_option maxRecDepth 20000 in
theorem gX5_isForm_X5_in : GoodIn wsX5_isForm (va_wsS RX5 89 yX5_in wsX5_in) := goodIn_app (goodIn_of _ (by decide +kernel)) ggX5_isForm_X5_in
theorem dX5_isForm_0 : decode cX5_isForm 0 = .ok (.iload_n 0, 1) := by decide +kernel
theorem dX5_isForm_1 : decode cX5_isForm 1 = .ok (.iconst 1, 1) := by decide +kernel
theorem dX5_isForm_2 : decode cX5_isForm 2 = .ok (.bipush 6, 2) := by decide +kernel
theorem dX5_isForm_4 : decode cX5_isForm 4 = .ok (.invokestatic 89, 3) := by decide +kernel
theorem dX5_isForm_7 : decode cX5_isForm 7 = .ok (.ifCond .eq 17, 3) := by decide +kernel
theorem dX5_isForm_10 : decode cX5_isForm 10 = .ok (.iload_n 1, 1) := by decide +kernel
theorem dX5_isForm_11 : decode cX5_isForm 11 = .ok (.iconst 1, 1) := by decide +kernel
theorem dX5_isForm_12 : decode cX5_isForm 12 = .ok (.bipush 9, 2) := by decide +kernel
theorem dX5_isForm_14 : decode cX5_isForm 14 = .ok (.invokestatic 89, 3) := by decide +kernel
theorem dX5_isForm_17 : decode cX5_isForm 17 = .ok (.ifCond .eq 7, 3) := by decide +kernel
theorem dX5_isForm_20 : decode cX5_isForm 20 = .ok (.iconst 1, 1) := by decide +kernel
theorem dX5_isForm_21 : decode cX5_isForm 21 = .ok (.goto 4, 3) := by decide +kernel
theorem dX5_isForm_24 : decode cX5_isForm 24 = .ok (.iconst 0, 1) := by decide +kernel
theorem dX5_isForm_25 : decode cX5_isForm 25 = .ok (.ireturn, 1) := by decide +kernel
set_option maxRecDepth 20000 in
theorem ggX5_insert_X5_of : GoodIn wsX5_insert wsX5_of := goodIn_r _ [6, 1, 11, 12, 13, 14, 15, 16, 17, 18, 19, 20, 21, 22, 23, 24, 25, 26, 27, 28, 29, 30] (by decide +kernel) (by decide +kernel)
set_option maxRecDepth 20000 in
theorem gX5_insert_X5_of : GoodIn wsX5_insert (wsV RX5 60 RX5 yX5_of wsX5_of) := goodIn_app (goodIn_of _ (by decide +kernel)) ggX5_insert_X5_of
set_option maxRecDepth 20000 in
theorem ggX5_insert_X5_lay : GoodIn wsX5_insert wsX5_lay := goodIn_r _ [10, 1, 11, 12, 13, 14, 15, 16, 17, 18, 19, 20, 21, 22, 23, 24, 25, 26, 27, 28, 29, 30] (by decide +kernel) (by decide +kernel)
set_option maxRecDepth 20000 in
theorem gX5_insert_X5_lay : GoodIn wsX5_insert (wsV RX5 93 RX5 yX5_lay wsX5_lay) := goodIn_app (goodIn_of _ (by decide +kernel)) ggX5_insert_X5_lay
theorem dX5_insert_0 : decode cX5_insert 0 = .ok (.aload_n 0, 1) := by decide +kernel
theorem dX5_insert_1 : decode cX5_insert 1 = .ok (.getfield 7, 3) := by decide +kernel
theorem dX5_insert_4 : decode cX5_insert 4 = .ok (.iconst 1, 1) := by decide +kernel
theorem dX5_insert_5 : decode cX5_insert 5 = .ok (.iaload, 1) := by decide +kernel
theorem dX5_insert_6 : decode cX5_insert 6 = .ok (.istore 5, 2) := by decide +kernel
theorem dX5_insert_8 : decode cX5_insert 8 = .ok (.iload 5, 2) := by decide +kernel
theorem dX5_insert_10 : decode cX5_insert 10 = .ok (.iload_n 1, 1) := by decide +kernel
theorem dX5_insert_11 : decode cX5_insert 11 = .ok (.if_icmp .le 57, 3) := by decide +kernel
theorem dX5_insert_14 : decode cX5_insert 14 = .ok (.aload_n 0, 1) := by decide +kernel
theorem dX5_insert_15 : decode cX5_insert 15 = .ok (.iload 5, 2) := by decide +kernel
theorem dX5_insert_17 : decode cX5_insert 17 = .ok (.iconst 0, 1) := by decide +kernel
theorem dX5_insert_18 : decode cX5_insert 18 = .ok (.aload_n 0, 1) := by decide +kernel
theorem dX5_insert_19 : decode cX5_insert 19 = .ok (.iload 5, 2) := by decide +kernel
theorem dX5_insert_21 : decode cX5_insert 21 = .ok (.iconst 1, 1) := by decide +kernel
theorem dX5_insert_22 : decode cX5_insert 22 = .ok (.isub, 1) := by decide +kernel
theorem dX5_insert_23 : decode cX5_insert 23 = .ok (.iconst 0, 1) := by decide +kernel
theorem dX5_insert_24 : decode cX5_insert 24 = .ok (.invokevirtual 60, 3) := by decide +kernel
theorem dX5_insert_27 : decode cX5_insert 27 = .ok (.invokevirtual 93, 3) := by decide +kernel
theorem dX5_insert_30 : decode cX5_insert 30 = .ok (.aload_n 0, 1) := by decide +kernel
theorem dX5_insert_31 : decode cX5_insert 31 = .ok (.iload 5, 2) := by decide +kernel
theorem dX5_insert_33 : decode cX5_insert 33 = .ok (.iconst 1, 1) := by decide +kernel
theorem dX5_insert_34 : decode cX5_insert 34 = .ok (.aload_n 0, 1) := by decide +kernel
theorem dX5_insert_35 : decode cX5_insert 35 = .ok (.iload 5, 2) := by decide +kernel
theorem dX5_insert_37 : decode cX5_insert 37 = .ok (.iconst 1, 1) := by decide +kernel
theorem dX5_insert_38 : decode cX5_insert 38 = .ok (.isub, 1) := by decide +kernel
theorem dX5_insert_39 : decode cX5_insert 39 = .ok (.iconst 1, 1) := by decide +kernel
theorem dX5_insert_40 : decode cX5_insert 40 = .ok (.invokevirtual 60, 3) := by decide +kernel
theorem dX5_insert_43 : decode cX5_insert 43 = .ok (.invokevirtual 93, 3) := by decide +kernel
theorem dX5_insert_46 : decode cX5_insert 46 = .ok (.aload_n 0, 1) := by decide +kernel
theorem dX5_insert_47 : decode cX5_insert 47 = .ok (.iload 5, 2) := by decide +kernel
theorem dX5_insert_49 : decode cX5_insert 49 = .ok (.iconst 2, 1) := by decide +kernel
theorem dX5_insert_50 : decode cX5_insert 50 = .ok (.aload_n 0, 1) := by decide +kernel
theorem dX5_insert_51 : decode cX5_insert 51 = .ok (.iload 5, 2) := by decide +kernel
theorem dX5_insert_53 : decode cX5_insert 53 = .ok (.iconst 1, 1) := by decide +kernel
theorem dX5_insert_54 : decode cX5_insert 54 = .ok (.isub, 1) := by decide +kernel
theorem dX5_insert_55 : decode cX5_insert 55 = .ok (.iconst 2, 1) := by decide +kernel
theorem dX5_insert_56 : decode cX5_insert 56 = .ok (.invokevirtual 60, 3) := by decide +kernel
theorem dX5_insert_59 : decode cX5_insert 59 = .ok (.invokevirtual 93, 3) := by decide +kernel
theorem dX5_insert_62 : decode cX5_insert 62 = .ok (.iinc 5 (-1), 3) := by decide +kernel
theorem dX5_insert_65 : decode cX5_insert 65 = .ok (.goto (-57), 3) := by decide +kernel
theorem dX5_insert_68 : decode cX5_insert 68 = .ok (.aload_n 0, 1) := by decide +kernel
theorem dX5_insert_69 : decode cX5_insert 69 = .ok (.iload_n 1, 1) := by decide +kernel
theorem dX5_insert_70 : decode cX5_insert 70 = .ok (.iconst 0, 1) := by decide +kernel
theorem dX5_insert_71 : decode cX5_insert 71 = .ok (.iload_n 2, 1) := by decide +kernel
theorem dX5_insert_72 : decode cX5_insert 72 = .ok (.invokevirtual 93, 3) := by decide +kernel
theorem dX5_insert_75 : decode cX5_insert 75 = .ok (.aload_n 0, 1) := by decide +kernel
theorem dX5_insert_76 : decode cX5_insert 76 = .ok (.iload_n 1, 1) := by decide +kernel
theorem dX5_insert_77 : decode cX5_insert 77 = .ok (.iconst 1, 1) := by decide +kernel
theorem dX5_insert_78 : decode cX5_insert 78 = .ok (.iload_n 3, 1) := by decide +kernel
theorem dX5_insert_79 : decode cX5_insert 79 = .ok (.invokevirtual 93, 3) := by decide +kernel
theorem dX5_insert_82 : decode cX5_insert 82 = .ok (.aload_n 0, 1) := by decide +kernel
theorem dX5_insert_83 : decode cX5_insert 83 = .ok (.iload_n 1, 1) := by decide +kernel
theorem dX5_insert_84 : decode cX5_insert 84 = .ok (.iconst 2, 1) := by decide +kernel
theorem dX5_insert_85 : decode cX5_insert 85 = .ok (.iload 4, 2) := by decide +kernel
theorem dX5_insert_87 : decode cX5_insert 87 = .ok (.invokevirtual 93, 3) := by decide +kernel
theorem dX5_insert_90 : decode cX5_insert 90 = .ok (.aload_n 0, 1) := by decide +kernel
theorem dX5_insert_91 : decode cX5_insert 91 = .ok (.getfield 7, 3) := by decide +kernel
theorem dX5_insert_94 : decode cX5_insert 94 = .ok (.iconst 1, 1) := by decide +kernel
theorem dX5_insert_95 : decode cX5_insert 95 = .ok (.dup2, 1) := by decide +kernel
theorem dX5_insert_96 : decode cX5_insert 96 = .ok (.iaload, 1) := by decide +kernel
theorem dX5_insert_97 : decode cX5_insert 97 = .ok (.iconst 1, 1) := by decide +kernel
theorem dX5_insert_98 : decode cX5_insert 98 = .ok (.iadd, 1) := by decide +kernel
theorem dX5_insert_99 : decode cX5_insert 99 = .ok (.iastore, 1) := by decide +kernel
theorem dX5_insert_100 : decode cX5_insert 100 = .ok (.return_, 1) := by decide +kernel
set_option maxRecDepth 20000 in
theorem ggX5_put_X5_in : GoodIn wsX5_put wsX5_in := goodIn_r _ [6] (by decide +kernel) (by decide +kernel)
set_option maxRecDepth 20000 in
theorem gX5_put_X5_in : GoodIn wsX5_put (va_wsS RX5 89 yX5_in wsX5_in) := goodIn_app (goodIn_of _ (by decide +kernel)) ggX5_put_X5_in
set_option maxRecDepth 20000 in
theorem ggX5_put_X5_isForm : GoodIn wsX5_put wsX5_isForm := goodIn_r _ [9, 3, 4, 5, 6] (by decide +kernel) (by decide +kernel)
set_option maxRecDepth 20000 in
theorem gX5_put_X5_isForm : GoodIn wsX5_put (va_wsS RX5 97 yX5_isForm wsX5_isForm) := goodIn_app (goodIn_of _ (by decide +kernel)) ggX5_put_X5_isForm
set_option maxRecDepth 20000 in
theorem ggX5_put_X5_save : GoodIn wsX5_put wsX5_save := goodIn_r _ [13, 14, 15, 1, 28, 29, 30, 31, 32, 33, 34, 35, 36, 37, 38, 39, 40, 41, 42, 43, 44, 45, 46, 47] (by decide +kernel) (by decide +kernel)
set_option maxRecDepth 20000 in
theorem gX5_put_X5_save : GoodIn wsX5_put (wsV RX5 101 RX5 yX5_save wsX5_save) := goodIn_app (goodIn_of _ (by decide +kernel)) ggX5_put_X5_save
set_option maxRecDepth 20000 in
theorem ggX5_put_X5_insert : GoodIn wsX5_put wsX5_insert := goodIn_r _ [19, 1, 20, 21, 22, 5, 23, 24, 25, 26, 27, 28, 29, 30, 31, 32, 33, 34, 35, 36, 37, 38, 39, 40, 41, 42, 43, 44, 45, 46, 47] (by decide +kernel) (by decide +kernel)
set_option maxRecDepth 20000 in
theorem gX5_put_X5_insert : GoodIn wsX5_put (wsV RX5 104 RX5 yX5_insert wsX5_insert) := goodIn_app (goodIn_of _ (by decide +kernel)) ggX5_put_X5_insert
theorem dX5_put_0 : decode cX5_put 0 = .ok (.aload_n 0, 1) := by decide +kernel
theorem dX5_put_1 : decode cX5_put 1 = .ok (.iload_n 1, 1) := by decide +kernel
theorem dX5_put_2 : decode cX5_put 2 = .ok (.iconst 0, 1) := by decide +kernel
theorem dX5_put_3 : decode cX5_put 3 = .ok (.aload_n 0, 1) := by decide +kernel
theorem dX5_put_4 : decode cX5_put 4 = .ok (.getfield 7, 3) := by decide +kernel
theorem dX5_put_7 : decode cX5_put 7 = .ok (.iconst 1, 1) := by decide +kernel
theorem dX5_put_8 : decode cX5_put 8 = .ok (.iaload, 1) := by decide +kernel
theorem dX5_put_9 : decode cX5_put 9 = .ok (.invokestatic 89, 3) := by decide +kernel
theorem dX5_put_12 : decode cX5_put 12 = .ok (.ifCond .ne 7, 3) := by decide +kernel
theorem dX5_put_15 : decode cX5_put 15 = .ok (.iconst 1, 1) := by decide +kernel
theorem dX5_put_16 : decode cX5_put 16 = .ok (.goto 41, 3) := by decide +kernel
theorem dX5_put_19 : decode cX5_put 19 = .ok (.iload_n 2, 1) := by decide +kernel
theorem dX5_put_20 : decode cX5_put 20 = .ok (.iconst 0, 1) := by decide +kernel
theorem dX5_put_21 : decode cX5_put 21 = .ok (.iconst 3, 1) := by decide +kernel
theorem dX5_put_22 : decode cX5_put 22 = .ok (.invokestatic 89, 3) := by decide +kernel
theorem dX5_put_25 : decode cX5_put 25 = .ok (.ifCond .eq 12, 3) := by decide +kernel
theorem dX5_put_28 : decode cX5_put 28 = .ok (.iload_n 3, 1) := by decide +kernel
theorem dX5_put_29 : decode cX5_put 29 = .ok (.iload 4, 2) := by decide +kernel
theorem dX5_put_31 : decode cX5_put 31 = .ok (.invokestatic 97, 3) := by decide +kernel
theorem dX5_put_34 : decode cX5_put 34 = .ok (.ifCond .ne 7, 3) := by decide +kernel
theorem dX5_put_37 : decode cX5_put 37 = .ok (.iconst 2, 1) := by decide +kernel
theorem dX5_put_38 : decode cX5_put 38 = .ok (.goto 19, 3) := by decide +kernel
theorem dX5_put_41 : decode cX5_put 41 = .ok (.aload_n 0, 1) := by decide +kernel
theorem dX5_put_42 : decode cX5_put 42 = .ok (.getfield 7, 3) := by decide +kernel
theorem dX5_put_45 : decode cX5_put 45 = .ok (.iconst 1, 1) := by decide +kernel
theorem dX5_put_46 : decode cX5_put 46 = .ok (.iaload, 1) := by decide +kernel
theorem dX5_put_47 : decode cX5_put 47 = .ok (.bipush 24, 2) := by decide +kernel
theorem dX5_put_49 : decode cX5_put 49 = .ok (.if_icmp .ne 7, 3) := by decide +kernel
theorem dX5_put_52 : decode cX5_put 52 = .ok (.iconst 3, 1) := by decide +kernel
theorem dX5_put_53 : decode cX5_put 53 = .ok (.goto 4, 3) := by decide +kernel
theorem dX5_put_56 : decode cX5_put 56 = .ok (.iconst 0, 1) := by decide +kernel
theorem dX5_put_57 : decode cX5_put 57 = .ok (.putfield 40, 3) := by decide +kernel
theorem dX5_put_60 : decode cX5_put 60 = .ok (.aload_n 0, 1) := by decide +kernel
theorem dX5_put_61 : decode cX5_put 61 = .ok (.getfield 40, 3) := by decide +kernel
theorem dX5_put_64 : decode cX5_put 64 = .ok (.ifCond .le 5, 3) := by decide +kernel
theorem dX5_put_67 : decode cX5_put 67 = .ok (.iconst 0, 1) := by decide +kernel
theorem dX5_put_68 : decode cX5_put 68 = .ok (.ireturn, 1) := by decide +kernel
theorem dX5_put_69 : decode cX5_put 69 = .ok (.aload_n 0, 1) := by decide +kernel
theorem dX5_put_70 : decode cX5_put 70 = .ok (.invokevirtual 101, 3) := by decide +kernel
theorem dX5_put_73 : decode cX5_put 73 = .ok (.aload_n 0, 1) := by decide +kernel
theorem dX5_put_74 : decode cX5_put 74 = .ok (.iload_n 1, 1) := by decide +kernel
theorem dX5_put_75 : decode cX5_put 75 = .ok (.iload_n 2, 1) := by decide +kernel
theorem dX5_put_76 : decode cX5_put 76 = .ok (.iload_n 3, 1) := by decide +kernel
theorem dX5_put_77 : decode cX5_put 77 = .ok (.iload 4, 2) := by decide +kernel
theorem dX5_put_79 : decode cX5_put 79 = .ok (.invokevirtual 104, 3) := by decide +kernel
theorem dX5_put_82 : decode cX5_put 82 = .ok (.aload_n 0, 1) := by decide +kernel
theorem dX5_put_83 : decode cX5_put 83 = .ok (.getfield 7, 3) := by decide +kernel
theorem dX5_put_86 : decode cX5_put 86 = .ok (.iconst 1, 1) := by decide +kernel
theorem dX5_put_87 : decode cX5_put 87 = .ok (.iaload, 1) := by decide +kernel
theorem dX5_put_88 : decode cX5_put 88 = .ok (.ireturn, 1) := by decide +kernel
set_option maxRecDepth 20000 in
theorem ggX5_take_X5_isPanel : GoodIn wsX5_take wsX5_isPanel := goodIn_r _ [7, 2, 14, 15, 16, 17, 18, 19, 20, 21, 22, 23, 24, 25, 26, 27, 28, 29, 30, 31, 32, 33] (by decide +kernel) (by decide +kernel)
set_option maxRecDepth 20000 in
theorem gX5_take_X5_isPanel : GoodIn wsX5_take (wsV RX5 107 RX5 yX5_isPanel wsX5_isPanel) := goodIn_app (goodIn_of _ (by decide +kernel)) ggX5_take_X5_isPanel
set_option maxRecDepth 20000 in
theorem ggX5_take_X5_save : GoodIn wsX5_take wsX5_save := goodIn_r _ [11, 12, 13, 2, 14, 15, 16, 17, 18, 19, 20, 21, 22, 23, 24, 25, 26, 27, 28, 29, 30, 31, 32, 33] (by decide +kernel) (by decide +kernel)
set_option maxRecDepth 20000 in
theorem gX5_take_X5_save : GoodIn wsX5_take (wsV RX5 101 RX5 yX5_save wsX5_save) := goodIn_app (goodIn_of _ (by decide +kernel)) ggX5_take_X5_save
theorem dX5_take_0 : decode cX5_take 0 = .ok (.aload_n 0, 1) := by decide +kernel
theorem dX5_take_1 : decode cX5_take 1 = .ok (.aload_n 0, 1) := by decide +kernel
theorem dX5_take_2 : decode cX5_take 2 = .ok (.iload_n 1, 1) := by decide +kernel
theorem dX5_take_3 : decode cX5_take 3 = .ok (.invokevirtual 107, 3) := by decide +kernel
theorem dX5_take_6 : decode cX5_take 6 = .ok (.ifCond .eq 7, 3) := by decide +kernel
theorem dX5_take_9 : decode cX5_take 9 = .ok (.iconst 0, 1) := by decide +kernel
theorem dX5_take_10 : decode cX5_take 10 = .ok (.goto 4, 3) := by decide +kernel
theorem dX5_take_13 : decode cX5_take 13 = .ok (.iconst 1, 1) := by decide +kernel
theorem dX5_take_14 : decode cX5_take 14 = .ok (.putfield 40, 3) := by decide +kernel
theorem dX5_take_17 : decode cX5_take 17 = .ok (.aload_n 0, 1) := by decide +kernel
theorem dX5_take_18 : decode cX5_take 18 = .ok (.getfield 40, 3) := by decide +kernel
theorem dX5_take_21 : decode cX5_take 21 = .ok (.ifCond .le 5, 3) := by decide +kernel
theorem dX5_take_24 : decode cX5_take 24 = .ok (.iconst 0, 1) := by decide +kernel
theorem dX5_take_25 : decode cX5_take 25 = .ok (.ireturn, 1) := by decide +kernel
theorem dX5_take_26 : decode cX5_take 26 = .ok (.aload_n 0, 1) := by decide +kernel
theorem dX5_take_27 : decode cX5_take 27 = .ok (.invokevirtual 101, 3) := by decide +kernel
theorem dX5_take_30 : decode cX5_take 30 = .ok (.aload_n 0, 1) := by decide +kernel
theorem dX5_take_31 : decode cX5_take 31 = .ok (.getfield 7, 3) := by decide +kernel
theorem dX5_take_34 : decode cX5_take 34 = .ok (.iconst 1, 1) := by decide +kernel
theorem dX5_take_35 : decode cX5_take 35 = .ok (.dup2, 1) := by decide +kernel
theorem dX5_take_36 : decode cX5_take 36 = .ok (.iaload, 1) := by decide +kernel
theorem dX5_take_37 : decode cX5_take 37 = .ok (.iconst 1, 1) := by decide +kernel
theorem dX5_take_38 : decode cX5_take 38 = .ok (.isub, 1) := by decide +kernel
theorem dX5_take_39 : decode cX5_take 39 = .ok (.iastore, 1) := by decide +kernel
theorem dX5_take_40 : decode cX5_take 40 = .ok (.iconst 2, 1) := by decide +kernel
theorem dX5_take_41 : decode cX5_take 41 = .ok (.iconst 3, 1) := by decide +kernel
theorem dX5_take_42 : decode cX5_take 42 = .ok (.iload_n 1, 1) := by decide +kernel
theorem dX5_take_43 : decode cX5_take 43 = .ok (.imul, 1) := by decide +kernel
theorem dX5_take_44 : decode cX5_take 44 = .ok (.iadd, 1) := by decide +kernel
theorem dX5_take_45 : decode cX5_take 45 = .ok (.istore_n 2, 1) := by decide +kernel
theorem dX5_take_46 : decode cX5_take 46 = .ok (.iload_n 2, 1) := by decide +kernel
theorem dX5_take_47 : decode cX5_take 47 = .ok (.iconst 2, 1) := by decide +kernel
theorem dX5_take_48 : decode cX5_take 48 = .ok (.iconst 3, 1) := by decide +kernel
theorem dX5_take_49 : decode cX5_take 49 = .ok (.aload_n 0, 1) := by decide +kernel
theorem dX5_take_50 : decode cX5_take 50 = .ok (.getfield 7, 3) := by decide +kernel
theorem dX5_take_53 : decode cX5_take 53 = .ok (.iconst 1, 1) := by decide +kernel
theorem dX5_take_54 : decode cX5_take 54 = .ok (.iaload, 1) := by decide +kernel
theorem dX5_take_55 : decode cX5_take 55 = .ok (.imul, 1) := by decide +kernel
theorem dX5_take_56 : decode cX5_take 56 = .ok (.iadd, 1) := by decide +kernel
theorem dX5_take_57 : decode cX5_take 57 = .ok (.if_icmp .ge 23, 3) := by decide +kernel
theorem dX5_take_60 : decode cX5_take 60 = .ok (.aload_n 0, 1) := by decide +kernel
theorem dX5_take_61 : decode cX5_take 61 = .ok (.getfield 7, 3) := by decide +kernel
theorem dX5_take_64 : decode cX5_take 64 = .ok (.iload_n 2, 1) := by decide +kernel
theorem dX5_take_65 : decode cX5_take 65 = .ok (.aload_n 0, 1) := by decide +kernel
theorem dX5_take_66 : decode cX5_take 66 = .ok (.getfield 7, 3) := by decide +kernel
theorem dX5_take_69 : decode cX5_take 69 = .ok (.iload_n 2, 1) := by decide +kernel
theorem dX5_take_70 : decode cX5_take 70 = .ok (.iconst 3, 1) := by decide +kernel
theorem dX5_take_71 : decode cX5_take 71 = .ok (.iadd, 1) := by decide +kernel
theorem dX5_take_72 : decode cX5_take 72 = .ok (.iaload, 1) := by decide +kernel
theorem dX5_take_73 : decode cX5_take 73 = .ok (.iastore, 1) := by decide +kernel
theorem dX5_take_74 : decode cX5_take 74 = .ok (.iinc 2 1, 3) := by decide +kernel
theorem dX5_take_77 : decode cX5_take 77 = .ok (.goto (-31), 3) := by decide +kernel
theorem dX5_take_80 : decode cX5_take 80 = .ok (.aload_n 0, 1) := by decide +kernel
theorem dX5_take_81 : decode cX5_take 81 = .ok (.getfield 7, 3) := by decide +kernel
theorem dX5_take_84 : decode cX5_take 84 = .ok (.iconst 1, 1) := by decide +kernel
theorem dX5_take_85 : decode cX5_take 85 = .ok (.iaload, 1) := by decide +kernel
theorem dX5_take_86 : decode cX5_take 86 = .ok (.ireturn, 1) := by decide +kernel
set_option maxRecDepth 20000 in
theorem ggX5_change_X5_isPanel : GoodIn wsX5_change wsX5_isPanel := goodIn_r _ [6, 7, 73, 74, 75, 76, 77, 78, 79, 80, 81, 82, 83, 84, 85, 86, 87, 88, 89, 90, 91, 92] (by decide +kernel) (by decide +kernel)
set_option maxRecDepth 20000 in
theorem gX5_change_X5_isPanel : GoodIn wsX5_change (wsV RX5 107 RX5 yX5_isPanel wsX5_isPanel) := goodIn_app (goodIn_of _ (by decide +kernel)) ggX5_change_X5_isPanel
set_option maxRecDepth 20000 in
theorem ggX5_change_X5_isForm : GoodIn wsX5_change wsX5_isForm := goodIn_r _ [10, 11, 12, 5, 13] (by decide +kernel) (by decide +kernel)
set_option maxRecDepth 20000 in
theorem gX5_change_X5_isForm : GoodIn wsX5_change (va_wsS RX5 97 yX5_isForm wsX5_isForm) := goodIn_app (goodIn_of _ (by decide +kernel)) ggX5_change_X5_isForm
set_option maxRecDepth 20000 in
theorem ggX5_change_X5_save : GoodIn wsX5_change wsX5_save := goodIn_r _ [17, 18, 19, 7, 73, 74, 75, 76, 77, 78, 79, 80, 81, 82, 83, 84, 85, 86, 87, 88, 89, 90, 91, 92] (by decide +kernel) (by decide +kernel)
set_option maxRecDepth 20000 in
theorem gX5_change_X5_save : GoodIn wsX5_change (wsV RX5 101 RX5 yX5_save wsX5_save) := goodIn_app (goodIn_of _ (by decide +kernel)) ggX5_change_X5_save
set_option maxRecDepth 20000 in
theorem ggX5_change_X5_lay : GoodIn wsX5_change wsX5_lay := goodIn_r _ [23, 7, 73, 74, 75, 76, 77, 78, 79, 80, 81, 82, 83, 84, 85, 86, 87, 88, 89, 90, 91, 92] (by decide +kernel) (by decide +kernel)
set_option maxRecDepth 20000 in
theorem gX5_change_X5_lay : GoodIn wsX5_change (wsV RX5 93 RX5 yX5_lay wsX5_lay) := goodIn_app (goodIn_of _ (by decide +kernel)) ggX5_change_X5_lay
set_option maxRecDepth 20000 in
theorem ggX5_change_X5_pour : GoodIn wsX5_change wsX5_pour := goodIn_r _ [27, 28, 29, 30, 7, 31, 32, 33, 34, 35, 36, 5, 37, 38, 39, 40, 41, 42, 43, 44, 45, 46, 47, 48, 49, 50, 51, 52, 53, 54, 55, 56, 57, 58, 59, 60, 61, 62, 63, 64, 65, 66, 67, 68, 73, 74, 75, 76, 77, 78, 79, 80, 81, 82, 83, 84, 85, 86, 87, 88, 89, 90, 91, 92] (by decide +kernel) (by decide +kernel)
set_option maxRecDepth 20000 in
theorem gX5_change_X5_pour : GoodIn wsX5_change (wsV RX5 110 RX5 yX5_pour wsX5_pour) := goodIn_app (goodIn_of _ (by decide +kernel)) ggX5_change_X5_pour
set_option maxRecDepth 20000 in
theorem ggX5_change_X5_used : GoodIn wsX5_change wsX5_used := goodIn_r _ [72, 30, 73, 74, 75, 76, 77, 78, 79, 80, 81, 82, 83, 84, 85, 86, 87, 88, 89, 90, 91, 92] (by decide +kernel) (by decide +kernel)
set_option maxRecDepth 20000 in
theorem gX5_change_X5_used : GoodIn wsX5_change (wsV RX5 113 RX5 yX5_used wsX5_used) := goodIn_app (goodIn_of _ (by decide +kernel)) ggX5_change_X5_used
theorem dX5_change_0 : decode cX5_change 0 = .ok (.aload_n 0, 1) := by decide +kernel
theorem dX5_change_1 : decode cX5_change 1 = .ok (.aload_n 0, 1) := by decide +kernel
theorem dX5_change_2 : decode cX5_change 2 = .ok (.iload_n 1, 1) := by decide +kernel
theorem dX5_change_3 : decode cX5_change 3 = .ok (.invokevirtual 107, 3) := by decide +kernel
theorem dX5_change_6 : decode cX5_change 6 = .ok (.ifCond .ne 7, 3) := by decide +kernel
theorem dX5_change_9 : decode cX5_change 9 = .ok (.iconst 1, 1) := by decide +kernel
theorem dX5_change_10 : decode cX5_change 10 = .ok (.goto 16, 3) := by decide +kernel
theorem dX5_change_13 : decode cX5_change 13 = .ok (.iload_n 2, 1) := by decide +kernel
theorem dX5_change_14 : decode cX5_change 14 = .ok (.iload_n 3, 1) := by decide +kernel
theorem dX5_change_15 : decode cX5_change 15 = .ok (.invokestatic 97, 3) := by decide +kernel
theorem dX5_change_18 : decode cX5_change 18 = .ok (.ifCond .eq 7, 3) := by decide +kernel
theorem dX5_change_21 : decode cX5_change 21 = .ok (.iconst 0, 1) := by decide +kernel
theorem dX5_change_22 : decode cX5_change 22 = .ok (.goto 4, 3) := by decide +kernel
theorem dX5_change_25 : decode cX5_change 25 = .ok (.iconst 2, 1) := by decide +kernel
theorem dX5_change_26 : decode cX5_change 26 = .ok (.putfield 40, 3) := by decide +kernel
theorem dX5_change_29 : decode cX5_change 29 = .ok (.aload_n 0, 1) := by decide +kernel
theorem dX5_change_30 : decode cX5_change 30 = .ok (.getfield 40, 3) := by decide +kernel
theorem dX5_change_33 : decode cX5_change 33 = .ok (.ifCond .le 5, 3) := by decide +kernel
theorem dX5_change_36 : decode cX5_change 36 = .ok (.iconst 0, 1) := by decide +kernel
theorem dX5_change_37 : decode cX5_change 37 = .ok (.ireturn, 1) := by decide +kernel
theorem dX5_change_38 : decode cX5_change 38 = .ok (.aload_n 0, 1) := by decide +kernel
theorem dX5_change_39 : decode cX5_change 39 = .ok (.invokevirtual 101, 3) := by decide +kernel
theorem dX5_change_42 : decode cX5_change 42 = .ok (.aload_n 0, 1) := by decide +kernel
theorem dX5_change_43 : decode cX5_change 43 = .ok (.iload_n 1, 1) := by decide +kernel
theorem dX5_change_44 : decode cX5_change 44 = .ok (.iconst 1, 1) := by decide +kernel
theorem dX5_change_45 : decode cX5_change 45 = .ok (.iload_n 2, 1) := by decide +kernel
theorem dX5_change_46 : decode cX5_change 46 = .ok (.invokevirtual 93, 3) := by decide +kernel
theorem dX5_change_49 : decode cX5_change 49 = .ok (.aload_n 0, 1) := by decide +kernel
theorem dX5_change_50 : decode cX5_change 50 = .ok (.iload_n 1, 1) := by decide +kernel
theorem dX5_change_51 : decode cX5_change 51 = .ok (.iconst 2, 1) := by decide +kernel
theorem dX5_change_52 : decode cX5_change 52 = .ok (.iload_n 3, 1) := by decide +kernel
theorem dX5_change_53 : decode cX5_change 53 = .ok (.invokevirtual 93, 3) := by decide +kernel
theorem dX5_change_56 : decode cX5_change 56 = .ok (.aload_n 0, 1) := by decide +kernel
theorem dX5_change_57 : decode cX5_change 57 = .ok (.invokevirtual 110, 3) := by decide +kernel
theorem dX5_change_60 : decode cX5_change 60 = .ok (.aload_n 0, 1) := by decide +kernel
theorem dX5_change_61 : decode cX5_change 61 = .ok (.invokevirtual 113, 3) := by decide +kernel
theorem dX5_change_64 : decode cX5_change 64 = .ok (.ireturn, 1) := by decide +kernel
set_option maxRecDepth 20000 in
theorem ggX5_set_X5_in : GoodIn wsX5_set wsX5_in := goodIn_r _ [6] (by decide +kernel) (by decide +kernel)
set_option maxRecDepth 20000 in
theorem gX5_set_X5_in : GoodIn wsX5_set (va_wsS RX5 89 yX5_in wsX5_in) := goodIn_app (goodIn_of _ (by decide +kernel)) ggX5_set_X5_in
set_option maxRecDepth 20000 in
theorem ggX5_set_X5_save : GoodIn wsX5_set wsX5_save := goodIn_r _ [10, 11, 12, 2, 13, 14, 15, 16, 17, 18, 19, 20, 21, 22, 23, 24, 25, 26, 27, 28, 29, 30, 31, 32] (by decide +kernel) (by decide +kernel)
set_option maxRecDepth 20000 in
theorem gX5_set_X5_save : GoodIn wsX5_set (wsV RX5 101 RX5 yX5_save wsX5_save) := goodIn_app (goodIn_of _ (by decide +kernel)) ggX5_set_X5_save
theorem dX5_set_0 : decode cX5_set 0 = .ok (.aload_n 0, 1) := by decide +kernel
theorem dX5_set_1 : decode cX5_set 1 = .ok (.iload_n 1, 1) := by decide +kernel
theorem dX5_set_2 : decode cX5_set 2 = .ok (.bipush 9, 2) := by decide +kernel
theorem dX5_set_4 : decode cX5_set 4 = .ok (.bipush 60, 2) := by decide +kernel
theorem dX5_set_6 : decode cX5_set 6 = .ok (.invokestatic 89, 3) := by decide +kernel
theorem dX5_set_9 : decode cX5_set 9 = .ok (.ifCond .eq 7, 3) := by decide +kernel
theorem dX5_set_12 : decode cX5_set 12 = .ok (.iconst 0, 1) := by decide +kernel
theorem dX5_set_13 : decode cX5_set 13 = .ok (.goto 4, 3) := by decide +kernel
theorem dX5_set_16 : decode cX5_set 16 = .ok (.iconst 1, 1) := by decide +kernel
theorem dX5_set_17 : decode cX5_set 17 = .ok (.putfield 40, 3) := by decide +kernel
theorem dX5_set_20 : decode cX5_set 20 = .ok (.aload_n 0, 1) := by decide +kernel
theorem dX5_set_21 : decode cX5_set 21 = .ok (.getfield 40, 3) := by decide +kernel
theorem dX5_set_24 : decode cX5_set 24 = .ok (.ifCond .le 5, 3) := by decide +kernel
theorem dX5_set_27 : decode cX5_set 27 = .ok (.iconst 0, 1) := by decide +kernel
theorem dX5_set_28 : decode cX5_set 28 = .ok (.ireturn, 1) := by decide +kernel
theorem dX5_set_29 : decode cX5_set 29 = .ok (.aload_n 0, 1) := by decide +kernel
theorem dX5_set_30 : decode cX5_set 30 = .ok (.invokevirtual 101, 3) := by decide +kernel
theorem dX5_set_33 : decode cX5_set 33 = .ok (.aload_n 0, 1) := by decide +kernel
theorem dX5_set_34 : decode cX5_set 34 = .ok (.getfield 7, 3) := by decide +kernel
theorem dX5_set_37 : decode cX5_set 37 = .ok (.iconst 0, 1) := by decide +kernel
theorem dX5_set_38 : decode cX5_set 38 = .ok (.iaload, 1) := by decide +kernel
theorem dX5_set_39 : decode cX5_set 39 = .ok (.istore_n 2, 1) := by decide +kernel
theorem dX5_set_40 : decode cX5_set 40 = .ok (.aload_n 0, 1) := by decide +kernel
theorem dX5_set_41 : decode cX5_set 41 = .ok (.getfield 7, 3) := by decide +kernel
theorem dX5_set_44 : decode cX5_set 44 = .ok (.iconst 0, 1) := by decide +kernel
theorem dX5_set_45 : decode cX5_set 45 = .ok (.iload_n 1, 1) := by decide +kernel
theorem dX5_set_46 : decode cX5_set 46 = .ok (.iastore, 1) := by decide +kernel
theorem dX5_set_47 : decode cX5_set 47 = .ok (.iload_n 2, 1) := by decide +kernel
theorem dX5_set_48 : decode cX5_set 48 = .ok (.ireturn, 1) := by decide +kernel
set_option maxRecDepth 20000 in
theorem ggX5_append_X5_in : GoodIn wsX5_append wsX5_in := goodIn_r _ [7] (by decide +kernel) (by decide +kernel)
set_option maxRecDepth 20000 in
theorem gX5_append_X5_in : GoodIn wsX5_append (va_wsS RX5 89 yX5_in wsX5_in) := goodIn_app (goodIn_of _ (by decide +kernel)) ggX5_append_X5_in
theorem dX5_append_0 : decode cX5_append 0 = .ok (.aload_n 0, 1) := by decide +kernel
theorem dX5_append_1 : decode cX5_append 1 = .ok (.iload_n 1, 1) := by decide +kernel
theorem dX5_append_2 : decode cX5_append 2 = .ok (.bipush 33, 2) := by decide +kernel
theorem dX5_append_4 : decode cX5_append 4 = .ok (.bipush 126, 2) := by decide +kernel
theorem dX5_append_6 : decode cX5_append 6 = .ok (.invokestatic 89, 3) := by decide +kernel
theorem dX5_append_9 : decode cX5_append 9 = .ok (.ifCond .ne 7, 3) := by decide +kernel
theorem dX5_append_12 : decode cX5_append 12 = .ok (.iconst 1, 1) := by decide +kernel
theorem dX5_append_13 : decode cX5_append 13 = .ok (.goto 17, 3) := by decide +kernel
theorem dX5_append_16 : decode cX5_append 16 = .ok (.aload_n 0, 1) := by decide +kernel
theorem dX5_append_17 : decode cX5_append 17 = .ok (.getfield 117, 3) := by decide +kernel
theorem dX5_append_20 : decode cX5_append 20 = .ok (.bipush 60, 2) := by decide +kernel
theorem dX5_append_22 : decode cX5_append 22 = .ok (.if_icmp .ne 7, 3) := by decide +kernel
theorem dX5_append_25 : decode cX5_append 25 = .ok (.iconst 2, 1) := by decide +kernel
theorem dX5_append_26 : decode cX5_append 26 = .ok (.goto 4, 3) := by decide +kernel
theorem dX5_append_29 : decode cX5_append 29 = .ok (.iconst 0, 1) := by decide +kernel
theorem dX5_append_30 : decode cX5_append 30 = .ok (.putfield 40, 3) := by decide +kernel
theorem dX5_append_33 : decode cX5_append 33 = .ok (.aload_n 0, 1) := by decide +kernel
theorem dX5_append_34 : decode cX5_append 34 = .ok (.getfield 40, 3) := by decide +kernel
theorem dX5_append_37 : decode cX5_append 37 = .ok (.ifCond .le 5, 3) := by decide +kernel
theorem dX5_append_40 : decode cX5_append 40 = .ok (.iconst 0, 1) := by decide +kernel
theorem dX5_append_41 : decode cX5_append 41 = .ok (.ireturn, 1) := by decide +kernel
theorem dX5_append_42 : decode cX5_append 42 = .ok (.aload_n 0, 1) := by decide +kernel
theorem dX5_append_43 : decode cX5_append 43 = .ok (.getfield 16, 3) := by decide +kernel
theorem dX5_append_46 : decode cX5_append 46 = .ok (.aload_n 0, 1) := by decide +kernel
theorem dX5_append_47 : decode cX5_append 47 = .ok (.getfield 117, 3) := by decide +kernel
theorem dX5_append_50 : decode cX5_append 50 = .ok (.iload_n 1, 1) := by decide +kernel
theorem dX5_append_51 : decode cX5_append 51 = .ok (.iastore, 1) := by decide +kernel
theorem dX5_append_52 : decode cX5_append 52 = .ok (.aload_n 0, 1) := by decide +kernel
theorem dX5_append_53 : decode cX5_append 53 = .ok (.dup, 1) := by decide +kernel
theorem dX5_append_54 : decode cX5_append 54 = .ok (.getfield 117, 3) := by decide +kernel
theorem dX5_append_57 : decode cX5_append 57 = .ok (.iconst 1, 1) := by decide +kernel
theorem dX5_append_58 : decode cX5_append 58 = .ok (.iadd, 1) := by decide +kernel
theorem dX5_append_59 : decode cX5_append 59 = .ok (.putfield 117, 3) := by decide +kernel
theorem dX5_append_62 : decode cX5_append 62 = .ok (.aload_n 0, 1) := by decide +kernel
theorem dX5_append_63 : decode cX5_append 63 = .ok (.getfield 117, 3) := by decide +kernel
theorem dX5_append_66 : decode cX5_append 66 = .ok (.ireturn, 1) := by decide +kernel
theorem dX5_clearBuffer_0 : decode cX5_clearBuffer 0 = .ok (.aload_n 0, 1) := by decide +kernel
theorem dX5_clearBuffer_1 : decode cX5_clearBuffer 1 = .ok (.iconst 0, 1) := by decide +kernel
theorem dX5_clearBuffer_2 : decode cX5_clearBuffer 2 = .ok (.putfield 40, 3) := by decide +kernel
theorem dX5_clearBuffer_5 : decode cX5_clearBuffer 5 = .ok (.aload_n 0, 1) := by decide +kernel
theorem dX5_clearBuffer_6 : decode cX5_clearBuffer 6 = .ok (.getfield 117, 3) := by decide +kernel
theorem dX5_clearBuffer_9 : decode cX5_clearBuffer 9 = .ok (.istore_n 1, 1) := by decide +kernel
theorem dX5_clearBuffer_10 : decode cX5_clearBuffer 10 = .ok (.aload_n 0, 1) := by decide +kernel
theorem dX5_clearBuffer_11 : decode cX5_clearBuffer 11 = .ok (.iconst 0, 1) := by decide +kernel
theorem dX5_clearBuffer_12 : decode cX5_clearBuffer 12 = .ok (.putfield 117, 3) := by decide +kernel
theorem dX5_clearBuffer_15 : decode cX5_clearBuffer 15 = .ok (.iload_n 1, 1) := by decide +kernel
theorem dX5_clearBuffer_16 : decode cX5_clearBuffer 16 = .ok (.ireturn, 1) := by decide +kernel
theorem dX5_letter_0 : decode cX5_letter 0 = .ok (.aload_n 0, 1) := by decide +kernel
theorem dX5_letter_1 : decode cX5_letter 1 = .ok (.getfield 120, 3) := by decide +kernel
theorem dX5_letter_4 : decode cX5_letter 4 = .ok (.aload_n 0, 1) := by decide +kernel
theorem dX5_letter_5 : decode cX5_letter 5 = .ok (.getfield 117, 3) := by decide +kernel
theorem dX5_letter_8 : decode cX5_letter 8 = .ok (.if_icmp .ge 15, 3) := by decide +kernel
theorem dX5_letter_11 : decode cX5_letter 11 = .ok (.aload_n 0, 1) := by decide +kernel
theorem dX5_letter_12 : decode cX5_letter 12 = .ok (.getfield 16, 3) := by decide +kernel
theorem dX5_letter_15 : decode cX5_letter 15 = .ok (.aload_n 0, 1) := by decide +kernel
theorem dX5_letter_16 : decode cX5_letter 16 = .ok (.getfield 120, 3) := by decide +kernel
theorem dX5_letter_19 : decode cX5_letter 19 = .ok (.iaload, 1) := by decide +kernel
theorem dX5_letter_20 : decode cX5_letter 20 = .ok (.goto 4, 3) := by decide +kernel
theorem dX5_letter_23 : decode cX5_letter 23 = .ok (.iconst (-1), 1) := by decide +kernel
theorem dX5_letter_24 : decode cX5_letter 24 = .ok (.ireturn, 1) := by decide +kernel
theorem dX5_wants_0 : decode cX5_wants 0 = .ok (.aload_n 0, 1) := by decide +kernel
theorem dX5_wants_1 : decode cX5_wants 1 = .ok (.getfield 123, 3) := by decide +kernel
theorem dX5_wants_4 : decode cX5_wants 4 = .ok (.iconst (-1), 1) := by decide +kernel
theorem dX5_wants_5 : decode cX5_wants 5 = .ok (.if_icmp .ne 29, 3) := by decide +kernel
theorem dX5_wants_8 : decode cX5_wants 8 = .ok (.aload_n 0, 1) := by decide +kernel
theorem dX5_wants_9 : decode cX5_wants 9 = .ok (.iload_n 1, 1) := by decide +kernel
theorem dX5_wants_10 : decode cX5_wants 10 = .ok (.ifCond .eq 7, 3) := by decide +kernel
theorem dX5_wants_13 : decode cX5_wants 13 = .ok (.iconst (-1), 1) := by decide +kernel
theorem dX5_wants_14 : decode cX5_wants 14 = .ok (.goto 7, 3) := by decide +kernel
theorem dX5_wants_17 : decode cX5_wants 17 = .ok (.aload_n 0, 1) := by decide +kernel
theorem dX5_wants_18 : decode cX5_wants 18 = .ok (.getfield 120, 3) := by decide +kernel
theorem dX5_wants_21 : decode cX5_wants 21 = .ok (.putfield 123, 3) := by decide +kernel
theorem dX5_wants_24 : decode cX5_wants 24 = .ok (.aload_n 0, 1) := by decide +kernel
theorem dX5_wants_25 : decode cX5_wants 25 = .ok (.dup, 1) := by decide +kernel
theorem dX5_wants_26 : decode cX5_wants 26 = .ok (.getfield 120, 3) := by decide +kernel
theorem dX5_wants_29 : decode cX5_wants 29 = .ok (.iconst 1, 1) := by decide +kernel
theorem dX5_wants_30 : decode cX5_wants 30 = .ok (.iadd, 1) := by decide +kernel
theorem dX5_wants_31 : decode cX5_wants 31 = .ok (.putfield 120, 3) := by decide +kernel
theorem dX5_wants_34 : decode cX5_wants 34 = .ok (.return_, 1) := by decide +kernel
set_option maxRecDepth 20000 in
theorem ggX5_digit_X5_letter : GoodIn wsX5_digit wsX5_letter := goodIn_r _ [5, 6, 7, 8, 17, 18, 19, 20, 21, 22, 23, 24, 25, 26, 27, 28, 29, 30, 31, 32, 33, 34, 35, 36] (by decide +kernel) (by decide +kernel)
set_option maxRecDepth 20000 in
theorem gX5_digit_X5_letter : GoodIn wsX5_digit (wsV RX5 126 RX5 yX5_letter wsX5_letter) := goodIn_app (goodIn_of _ (by decide +kernel)) ggX5_digit_X5_letter
set_option maxRecDepth 20000 in
theorem ggX5_digit_X5_in : GoodIn wsX5_digit wsX5_in := goodIn_r _ [11] (by decide +kernel) (by decide +kernel)
set_option maxRecDepth 20000 in
theorem gX5_digit_X5_in : GoodIn wsX5_digit (va_wsS RX5 89 yX5_in wsX5_in) := goodIn_app (goodIn_of _ (by decide +kernel)) ggX5_digit_X5_in
set_option maxRecDepth 20000 in
theorem ggX5_digit_X5_wants : GoodIn wsX5_digit wsX5_wants := goodIn_r _ [15, 16, 6, 17, 18, 19, 20, 21, 22, 23, 24, 25, 26, 27, 28, 29, 30, 31, 32, 33, 34, 35, 36] (by decide +kernel) (by decide +kernel)
set_option maxRecDepth 20000 in
theorem gX5_digit_X5_wants : GoodIn wsX5_digit (wsV RX5 129 RX5 yX5_wants wsX5_wants) := goodIn_app (goodIn_of _ (by decide +kernel)) ggX5_digit_X5_wants
theorem dX5_digit_0 : decode cX5_digit 0 = .ok (.aload_n 0, 1) := by decide +kernel
theorem dX5_digit_1 : decode cX5_digit 1 = .ok (.invokevirtual 126, 3) := by decide +kernel
theorem dX5_digit_4 : decode cX5_digit 4 = .ok (.bipush 48, 2) := by decide +kernel
theorem dX5_digit_6 : decode cX5_digit 6 = .ok (.isub, 1) := by decide +kernel
theorem dX5_digit_7 : decode cX5_digit 7 = .ok (.istore_n 2, 1) := by decide +kernel
theorem dX5_digit_8 : decode cX5_digit 8 = .ok (.aload_n 0, 1) := by decide +kernel
theorem dX5_digit_9 : decode cX5_digit 9 = .ok (.iload_n 2, 1) := by decide +kernel
theorem dX5_digit_10 : decode cX5_digit 10 = .ok (.iconst 1, 1) := by decide +kernel
theorem dX5_digit_11 : decode cX5_digit 11 = .ok (.iload_n 1, 1) := by decide +kernel
theorem dX5_digit_12 : decode cX5_digit 12 = .ok (.invokestatic 89, 3) := by decide +kernel
theorem dX5_digit_15 : decode cX5_digit 15 = .ok (.invokevirtual 129, 3) := by decide +kernel
theorem dX5_digit_18 : decode cX5_digit 18 = .ok (.iload_n 2, 1) := by decide +kernel
theorem dX5_digit_19 : decode cX5_digit 19 = .ok (.ireturn, 1) := by decide +kernel
set_option maxRecDepth 20000 in
theorem ggX5_readPart_X5_letter : GoodIn wsX5_readPart wsX5_letter := goodIn_r _ [7, 8, 9, 10, 23, 24, 25, 26, 27, 28, 29, 30, 31, 32, 33, 34, 35, 36, 37, 38, 39, 40, 41, 42] (by decide +kernel) (by decide +kernel)
set_option maxRecDepth 20000 in
theorem gX5_readPart_X5_letter : GoodIn wsX5_readPart (wsV RX5 126 RX5 yX5_letter wsX5_letter) := goodIn_app (goodIn_of _ (by decide +kernel)) ggX5_readPart_X5_letter
set_option maxRecDepth 20000 in
theorem ggX5_readPart_X5_wants : GoodIn wsX5_readPart wsX5_wants := goodIn_r _ [14, 15, 8, 23, 24, 25, 26, 27, 28, 29, 30, 31, 32, 33, 34, 35, 36, 37, 38, 39, 40, 41, 42] (by decide +kernel) (by decide +kernel)
set_option maxRecDepth 20000 in
theorem gX5_readPart_X5_wants : GoodIn wsX5_readPart (wsV RX5 129 RX5 yX5_wants wsX5_wants) := goodIn_app (goodIn_of _ (by decide +kernel)) ggX5_readPart_X5_wants
set_option maxRecDepth 20000 in
theorem ggX5_readPart_X5_digit : GoodIn wsX5_readPart wsX5_digit := goodIn_r _ [19, 3, 4, 5, 6, 7, 8, 9, 10, 20, 21, 22, 11, 12, 13, 14, 15, 23, 24, 25, 26, 27, 28, 29, 30, 31, 32, 33, 34, 35, 36, 37, 38, 39, 40, 41, 42] (by decide +kernel) (by decide +kernel)
set_option maxRecDepth 20000 in
theorem gX5_readPart_X5_digit : GoodIn wsX5_readPart (wsV RX5 136 RX5 yX5_digit wsX5_digit) := goodIn_app (goodIn_of _ (by decide +kernel)) ggX5_readPart_X5_digit
theorem dX5_readPart_0 : decode cX5_readPart 0 = .ok (.iconst 3, 1) := by decide +kernel
theorem dX5_readPart_1 : decode cX5_readPart 1 = .ok (.aload_n 0, 1) := by decide +kernel
theorem dX5_readPart_2 : decode cX5_readPart 2 = .ok (.getfield 133, 3) := by decide +kernel
theorem dX5_readPart_5 : decode cX5_readPart 5 = .ok (.imul, 1) := by decide +kernel
theorem dX5_readPart_6 : decode cX5_readPart 6 = .ok (.istore_n 1, 1) := by decide +kernel
theorem dX5_readPart_7 : decode cX5_readPart 7 = .ok (.aload_n 0, 1) := by decide +kernel
theorem dX5_readPart_8 : decode cX5_readPart 8 = .ok (.invokevirtual 126, 3) := by decide +kernel
theorem dX5_readPart_11 : decode cX5_readPart 11 = .ok (.istore_n 2, 1) := by decide +kernel
theorem dX5_readPart_12 : decode cX5_readPart 12 = .ok (.aload_n 0, 1) := by decide +kernel
theorem dX5_readPart_13 : decode cX5_readPart 13 = .ok (.iload_n 2, 1) := by decide +kernel
theorem dX5_readPart_14 : decode cX5_readPart 14 = .ok (.bipush 112, 2) := by decide +kernel
theorem dX5_readPart_16 : decode cX5_readPart 16 = .ok (.if_icmp .eq 21, 3) := by decide +kernel
theorem dX5_readPart_19 : decode cX5_readPart 19 = .ok (.iload_n 2, 1) := by decide +kernel
theorem dX5_readPart_20 : decode cX5_readPart 20 = .ok (.bipush 98, 2) := by decide +kernel
theorem dX5_readPart_22 : decode cX5_readPart 22 = .ok (.if_icmp .eq 15, 3) := by decide +kernel
theorem dX5_readPart_25 : decode cX5_readPart 25 = .ok (.iload_n 2, 1) := by decide +kernel
theorem dX5_readPart_26 : decode cX5_readPart 26 = .ok (.bipush 115, 2) := by decide +kernel
theorem dX5_readPart_28 : decode cX5_readPart 28 = .ok (.if_icmp .eq 9, 3) := by decide +kernel
theorem dX5_readPart_31 : decode cX5_readPart 31 = .ok (.iload_n 2, 1) := by decide +kernel
theorem dX5_readPart_32 : decode cX5_readPart 32 = .ok (.bipush 100, 2) := by decide +kernel
theorem dX5_readPart_34 : decode cX5_readPart 34 = .ok (.if_icmp .ne 7, 3) := by decide +kernel
theorem dX5_readPart_37 : decode cX5_readPart 37 = .ok (.iconst 1, 1) := by decide +kernel
theorem dX5_readPart_38 : decode cX5_readPart 38 = .ok (.goto 4, 3) := by decide +kernel
theorem dX5_readPart_41 : decode cX5_readPart 41 = .ok (.iconst 0, 1) := by decide +kernel
theorem dX5_readPart_42 : decode cX5_readPart 42 = .ok (.invokevirtual 129, 3) := by decide +kernel
theorem dX5_readPart_45 : decode cX5_readPart 45 = .ok (.aload_n 0, 1) := by decide +kernel
theorem dX5_readPart_46 : decode cX5_readPart 46 = .ok (.getfield 37, 3) := by decide +kernel
theorem dX5_readPart_49 : decode cX5_readPart 49 = .ok (.iload_n 1, 1) := by decide +kernel
theorem dX5_readPart_50 : decode cX5_readPart 50 = .ok (.iload_n 2, 1) := by decide +kernel
theorem dX5_readPart_51 : decode cX5_readPart 51 = .ok (.bipush 112, 2) := by decide +kernel
theorem dX5_readPart_53 : decode cX5_readPart 53 = .ok (.if_icmp .ne 7, 3) := by decide +kernel
theorem dX5_readPart_56 : decode cX5_readPart 56 = .ok (.iconst 0, 1) := by decide +kernel
theorem dX5_readPart_57 : decode cX5_readPart 57 = .ok (.goto 24, 3) := by decide +kernel
theorem dX5_readPart_60 : decode cX5_readPart 60 = .ok (.iload_n 2, 1) := by decide +kernel
theorem dX5_readPart_61 : decode cX5_readPart 61 = .ok (.bipush 98, 2) := by decide +kernel
theorem dX5_readPart_63 : decode cX5_readPart 63 = .ok (.if_icmp .ne 7, 3) := by decide +kernel
theorem dX5_readPart_66 : decode cX5_readPart 66 = .ok (.iconst 1, 1) := by decide +kernel
theorem dX5_readPart_67 : decode cX5_readPart 67 = .ok (.goto 14, 3) := by decide +kernel
theorem dX5_readPart_70 : decode cX5_readPart 70 = .ok (.iload_n 2, 1) := by decide +kernel
theorem dX5_readPart_71 : decode cX5_readPart 71 = .ok (.bipush 115, 2) := by decide +kernel
theorem dX5_readPart_73 : decode cX5_readPart 73 = .ok (.if_icmp .ne 7, 3) := by decide +kernel
theorem dX5_readPart_76 : decode cX5_readPart 76 = .ok (.iconst 2, 1) := by decide +kernel
theorem dX5_readPart_77 : decode cX5_readPart 77 = .ok (.goto 4, 3) := by decide +kernel
theorem dX5_readPart_80 : decode cX5_readPart 80 = .ok (.iconst 3, 1) := by decide +kernel
theorem dX5_readPart_81 : decode cX5_readPart 81 = .ok (.iastore, 1) := by decide +kernel
theorem dX5_readPart_82 : decode cX5_readPart 82 = .ok (.aload_n 0, 1) := by decide +kernel
theorem dX5_readPart_83 : decode cX5_readPart 83 = .ok (.getfield 37, 3) := by decide +kernel
theorem dX5_readPart_86 : decode cX5_readPart 86 = .ok (.iload_n 1, 1) := by decide +kernel
theorem dX5_readPart_87 : decode cX5_readPart 87 = .ok (.iconst 1, 1) := by decide +kernel
theorem dX5_readPart_88 : decode cX5_readPart 88 = .ok (.iadd, 1) := by decide +kernel
theorem dX5_readPart_89 : decode cX5_readPart 89 = .ok (.aload_n 0, 1) := by decide +kernel
theorem dX5_readPart_90 : decode cX5_readPart 90 = .ok (.getfield 37, 3) := by decide +kernel
theorem dX5_readPart_93 : decode cX5_readPart 93 = .ok (.iload_n 1, 1) := by decide +kernel
theorem dX5_readPart_94 : decode cX5_readPart 94 = .ok (.iaload, 1) := by decide +kernel
theorem dX5_readPart_95 : decode cX5_readPart 95 = .ok (.iconst 2, 1) := by decide +kernel
theorem dX5_readPart_96 : decode cX5_readPart 96 = .ok (.if_icmp .ge 12, 3) := by decide +kernel
theorem dX5_readPart_99 : decode cX5_readPart 99 = .ok (.aload_n 0, 1) := by decide +kernel
theorem dX5_readPart_100 : decode cX5_readPart 100 = .ok (.bipush 6, 2) := by decide +kernel
theorem dX5_readPart_102 : decode cX5_readPart 102 = .ok (.invokevirtual 136, 3) := by decide +kernel
theorem dX5_readPart_105 : decode cX5_readPart 105 = .ok (.goto 5, 3) := by decide +kernel
theorem dX5_readPart_108 : decode cX5_readPart 108 = .ok (.bipush 6, 2) := by decide +kernel
theorem dX5_readPart_110 : decode cX5_readPart 110 = .ok (.iastore, 1) := by decide +kernel
theorem dX5_readPart_111 : decode cX5_readPart 111 = .ok (.aload_n 0, 1) := by decide +kernel
theorem dX5_readPart_112 : decode cX5_readPart 112 = .ok (.getfield 37, 3) := by decide +kernel
theorem dX5_readPart_115 : decode cX5_readPart 115 = .ok (.iload_n 1, 1) := by decide +kernel
theorem dX5_readPart_116 : decode cX5_readPart 116 = .ok (.iconst 2, 1) := by decide +kernel
theorem dX5_readPart_117 : decode cX5_readPart 117 = .ok (.iadd, 1) := by decide +kernel
theorem dX5_readPart_118 : decode cX5_readPart 118 = .ok (.aload_n 0, 1) := by decide +kernel
theorem dX5_readPart_119 : decode cX5_readPart 119 = .ok (.bipush 9, 2) := by decide +kernel
theorem dX5_readPart_121 : decode cX5_readPart 121 = .ok (.invokevirtual 136, 3) := by decide +kernel
theorem dX5_readPart_124 : decode cX5_readPart 124 = .ok (.iastore, 1) := by decide +kernel
theorem dX5_readPart_125 : decode cX5_readPart 125 = .ok (.aload_n 0, 1) := by decide +kernel
theorem dX5_readPart_126 : decode cX5_readPart 126 = .ok (.dup, 1) := by decide +kernel
theorem dX5_readPart_127 : decode cX5_readPart 127 = .ok (.getfield 133, 3) := by decide +kernel
theorem dX5_readPart_130 : decode cX5_readPart 130 = .ok (.iconst 1, 1) := by decide +kernel
theorem dX5_readPart_131 : decode cX5_readPart 131 = .ok (.iadd, 1) := by decide +kernel
theorem dX5_readPart_132 : decode cX5_readPart 132 = .ok (.putfield 133, 3) := by decide +kernel
theorem dX5_readPart_135 : decode cX5_readPart 135 = .ok (.return_, 1) := by decide +kernel
set_option maxRecDepth 20000 in
theorem ggX5_readBuffer_X5_readPart : GoodIn wsX5_readBuffer wsX5_readPart := goodIn_r _ [9, 1, 10, 11, 12, 13, 8, 14, 2, 4, 15, 16, 17, 18, 19, 3, 20, 21, 22, 23, 24, 25, 26, 27, 28, 29, 30, 31, 32, 33, 34, 35, 36, 37, 38, 39, 40, 41, 42, 43, 44, 45, 46] (by decide +kernel) (by decide +kernel)
set_option maxRecDepth 20000 in
theorem gX5_readBuffer_X5_readPart : GoodIn wsX5_readBuffer (wsV RX5 139 RX5 yX5_readPart wsX5_readPart) := goodIn_app (goodIn_of _ (by decide +kernel)) ggX5_readBuffer_X5_readPart
theorem dX5_readBuffer_0 : decode cX5_readBuffer 0 = .ok (.aload_n 0, 1) := by decide +kernel
theorem dX5_readBuffer_1 : decode cX5_readBuffer 1 = .ok (.iconst 0, 1) := by decide +kernel
theorem dX5_readBuffer_2 : decode cX5_readBuffer 2 = .ok (.putfield 133, 3) := by decide +kernel
theorem dX5_readBuffer_5 : decode cX5_readBuffer 5 = .ok (.aload_n 0, 1) := by decide +kernel
theorem dX5_readBuffer_6 : decode cX5_readBuffer 6 = .ok (.iconst 0, 1) := by decide +kernel
theorem dX5_readBuffer_7 : decode cX5_readBuffer 7 = .ok (.putfield 120, 3) := by decide +kernel
theorem dX5_readBuffer_10 : decode cX5_readBuffer 10 = .ok (.aload_n 0, 1) := by decide +kernel
theorem dX5_readBuffer_11 : decode cX5_readBuffer 11 = .ok (.iconst (-1), 1) := by decide +kernel
theorem dX5_readBuffer_12 : decode cX5_readBuffer 12 = .ok (.putfield 123, 3) := by decide +kernel
theorem dX5_readBuffer_15 : decode cX5_readBuffer 15 = .ok (.iconst 1, 1) := by decide +kernel
theorem dX5_readBuffer_16 : decode cX5_readBuffer 16 = .ok (.istore_n 1, 1) := by decide +kernel
theorem dX5_readBuffer_17 : decode cX5_readBuffer 17 = .ok (.iload_n 1, 1) := by decide +kernel
theorem dX5_readBuffer_18 : decode cX5_readBuffer 18 = .ok (.ifCond .eq 35, 3) := by decide +kernel
theorem dX5_readBuffer_21 : decode cX5_readBuffer 21 = .ok (.aload_n 0, 1) := by decide +kernel
theorem dX5_readBuffer_22 : decode cX5_readBuffer 22 = .ok (.invokevirtual 139, 3) := by decide +kernel
theorem dX5_readBuffer_25 : decode cX5_readBuffer 25 = .ok (.aload_n 0, 1) := by decide +kernel
theorem dX5_readBuffer_26 : decode cX5_readBuffer 26 = .ok (.getfield 123, 3) := by decide +kernel
theorem dX5_readBuffer_29 : decode cX5_readBuffer 29 = .ok (.iconst (-1), 1) := by decide +kernel
theorem dX5_readBuffer_30 : decode cX5_readBuffer 30 = .ok (.if_icmp .ne 18, 3) := by decide +kernel
theorem dX5_readBuffer_33 : decode cX5_readBuffer 33 = .ok (.aload_n 0, 1) := by decide +kernel
theorem dX5_readBuffer_34 : decode cX5_readBuffer 34 = .ok (.getfield 120, 3) := by decide +kernel
theorem dX5_readBuffer_37 : decode cX5_readBuffer 37 = .ok (.aload_n 0, 1) := by decide +kernel
theorem dX5_readBuffer_38 : decode cX5_readBuffer 38 = .ok (.getfield 117, 3) := by decide +kernel
theorem dX5_readBuffer_41 : decode cX5_readBuffer 41 = .ok (.if_icmp .ge 7, 3) := by decide +kernel
theorem dX5_readBuffer_44 : decode cX5_readBuffer 44 = .ok (.iconst 1, 1) := by decide +kernel
theorem dX5_readBuffer_45 : decode cX5_readBuffer 45 = .ok (.goto 4, 3) := by decide +kernel
theorem dX5_readBuffer_48 : decode cX5_readBuffer 48 = .ok (.iconst 0, 1) := by decide +kernel
theorem dX5_readBuffer_49 : decode cX5_readBuffer 49 = .ok (.istore_n 1, 1) := by decide +kernel
theorem dX5_readBuffer_50 : decode cX5_readBuffer 50 = .ok (.goto (-33), 3) := by decide +kernel
theorem dX5_readBuffer_53 : decode cX5_readBuffer 53 = .ok (.aload_n 0, 1) := by decide +kernel
theorem dX5_readBuffer_54 : decode cX5_readBuffer 54 = .ok (.getfield 123, 3) := by decide +kernel
theorem dX5_readBuffer_57 : decode cX5_readBuffer 57 = .ok (.ireturn, 1) := by decide +kernel
set_option maxRecDepth 20000 in
theorem ggX5_firstError_X5_readBuffer : GoodIn wsX5_firstError wsX5_readBuffer := goodIn_r _ [7, 8, 9, 10, 2, 11, 12, 13, 6, 14, 15, 16, 17, 18, 19, 20, 21, 22, 23, 24, 25, 26, 27, 28, 29, 30, 31, 32, 33, 34, 35, 36, 37, 38, 39, 40, 41, 42, 43, 44, 45, 46, 47, 48, 49, 50, 51] (by decide +kernel) (by decide +kernel)
set_option maxRecDepth 20000 in
theorem gX5_firstError_X5_readBuffer : GoodIn wsX5_firstError (wsV RX5 142 RX5 yX5_readBuffer wsX5_readBuffer) := goodIn_app (goodIn_of _ (by decide +kernel)) ggX5_firstError_X5_readBuffer
theorem dX5_firstError_0 : decode cX5_firstError 0 = .ok (.aload_n 0, 1) := by decide +kernel
theorem dX5_firstError_1 : decode cX5_firstError 1 = .ok (.iconst 0, 1) := by decide +kernel
theorem dX5_firstError_2 : decode cX5_firstError 2 = .ok (.putfield 40, 3) := by decide +kernel
theorem dX5_firstError_5 : decode cX5_firstError 5 = .ok (.aload_n 0, 1) := by decide +kernel
theorem dX5_firstError_6 : decode cX5_firstError 6 = .ok (.invokevirtual 142, 3) := by decide +kernel
theorem dX5_firstError_9 : decode cX5_firstError 9 = .ok (.istore_n 1, 1) := by decide +kernel
theorem dX5_firstError_10 : decode cX5_firstError 10 = .ok (.iload_n 1, 1) := by decide +kernel
theorem dX5_firstError_11 : decode cX5_firstError 11 = .ok (.iconst (-1), 1) := by decide +kernel
theorem dX5_firstError_12 : decode cX5_firstError 12 = .ok (.if_icmp .ne 10, 3) := by decide +kernel
theorem dX5_firstError_15 : decode cX5_firstError 15 = .ok (.aload_n 0, 1) := by decide +kernel
theorem dX5_firstError_16 : decode cX5_firstError 16 = .ok (.getfield 117, 3) := by decide +kernel
theorem dX5_firstError_19 : decode cX5_firstError 19 = .ok (.goto 4, 3) := by decide +kernel
theorem dX5_firstError_22 : decode cX5_firstError 22 = .ok (.iload_n 1, 1) := by decide +kernel
theorem dX5_firstError_23 : decode cX5_firstError 23 = .ok (.ireturn, 1) := by decide +kernel
set_option maxRecDepth 20000 in
theorem ggX5_story_X5_readBuffer : GoodIn wsX5_story wsX5_readBuffer := goodIn_r _ [10, 2, 11, 12, 5, 13, 14, 15, 9, 16, 4, 17, 18, 19, 20, 21, 22, 23, 24, 25, 26, 27, 28, 29, 30, 31, 32, 51, 52, 53, 54, 55, 56, 57, 58, 59, 60, 61, 62, 63, 64, 65, 66, 67, 68, 69, 70] (by decide +kernel) (by decide +kernel)
set_option maxRecDepth 20000 in
theorem gX5_story_X5_readBuffer : GoodIn wsX5_story (wsV RX5 142 RX5 yX5_readBuffer wsX5_readBuffer) := goodIn_app (goodIn_of _ (by decide +kernel)) ggX5_story_X5_readBuffer
set_option maxRecDepth 20000 in
theorem ggX5_story_X5_save : GoodIn wsX5_story wsX5_save := goodIn_r _ [36, 37, 38, 3, 51, 52, 53, 54, 55, 56, 57, 58, 59, 60, 61, 62, 63, 64, 65, 66, 67, 68, 69, 70] (by decide +kernel) (by decide +kernel)
set_option maxRecDepth 20000 in
theorem gX5_story_X5_save : GoodIn wsX5_story (wsV RX5 101 RX5 yX5_save wsX5_save) := goodIn_app (goodIn_of _ (by decide +kernel)) ggX5_story_X5_save
set_option maxRecDepth 20000 in
theorem ggX5_story_X5_insert : GoodIn wsX5_story wsX5_insert := goodIn_r _ [42, 3, 43, 44, 45, 9, 46, 47, 48, 49, 50, 51, 52, 53, 54, 55, 56, 57, 58, 59, 60, 61, 62, 63, 64, 65, 66, 67, 68, 69, 70] (by decide +kernel) (by decide +kernel)
set_option maxRecDepth 20000 in
theorem gX5_story_X5_insert : GoodIn wsX5_story (wsV RX5 104 RX5 yX5_insert wsX5_insert) := goodIn_app (goodIn_of _ (by decide +kernel)) ggX5_story_X5_insert
theorem dX5_story_0 : decode cX5_story 0 = .ok (.aload_n 0, 1) := by decide +kernel
theorem dX5_story_1 : decode cX5_story 1 = .ok (.aload_n 0, 1) := by decide +kernel
theorem dX5_story_2 : decode cX5_story 2 = .ok (.invokevirtual 142, 3) := by decide +kernel
theorem dX5_story_5 : decode cX5_story 5 = .ok (.iconst (-1), 1) := by decide +kernel
theorem dX5_story_6 : decode cX5_story 6 = .ok (.if_icmp .ne 7, 3) := by decide +kernel
theorem dX5_story_9 : decode cX5_story 9 = .ok (.iconst 0, 1) := by decide +kernel
theorem dX5_story_10 : decode cX5_story 10 = .ok (.goto 4, 3) := by decide +kernel
theorem dX5_story_13 : decode cX5_story 13 = .ok (.iconst 1, 1) := by decide +kernel
theorem dX5_story_14 : decode cX5_story 14 = .ok (.putfield 40, 3) := by decide +kernel
theorem dX5_story_17 : decode cX5_story 17 = .ok (.aload_n 0, 1) := by decide +kernel
theorem dX5_story_18 : decode cX5_story 18 = .ok (.getfield 40, 3) := by decide +kernel
theorem dX5_story_21 : decode cX5_story 21 = .ok (.ifCond .le 5, 3) := by decide +kernel
theorem dX5_story_24 : decode cX5_story 24 = .ok (.iconst 0, 1) := by decide +kernel
theorem dX5_story_25 : decode cX5_story 25 = .ok (.ireturn, 1) := by decide +kernel
theorem dX5_story_26 : decode cX5_story 26 = .ok (.aload_n 0, 1) := by decide +kernel
theorem dX5_story_27 : decode cX5_story 27 = .ok (.invokevirtual 101, 3) := by decide +kernel
theorem dX5_story_30 : decode cX5_story 30 = .ok (.iconst 0, 1) := by decide +kernel
theorem dX5_story_31 : decode cX5_story 31 = .ok (.istore_n 1, 1) := by decide +kernel
theorem dX5_story_32 : decode cX5_story 32 = .ok (.iload_n 1, 1) := by decide +kernel
theorem dX5_story_33 : decode cX5_story 33 = .ok (.aload_n 0, 1) := by decide +kernel
theorem dX5_story_34 : decode cX5_story 34 = .ok (.getfield 133, 3) := by decide +kernel
theorem dX5_story_37 : decode cX5_story 37 = .ok (.if_icmp .ge 58, 3) := by decide +kernel
theorem dX5_story_40 : decode cX5_story 40 = .ok (.aload_n 0, 1) := by decide +kernel
theorem dX5_story_41 : decode cX5_story 41 = .ok (.getfield 7, 3) := by decide +kernel
theorem dX5_story_44 : decode cX5_story 44 = .ok (.iconst 1, 1) := by decide +kernel
theorem dX5_story_45 : decode cX5_story 45 = .ok (.iaload, 1) := by decide +kernel
theorem dX5_story_46 : decode cX5_story 46 = .ok (.bipush 24, 2) := by decide +kernel
theorem dX5_story_48 : decode cX5_story 48 = .ok (.if_icmp .ge 47, 3) := by decide +kernel
theorem dX5_story_51 : decode cX5_story 51 = .ok (.aload_n 0, 1) := by decide +kernel
theorem dX5_story_52 : decode cX5_story 52 = .ok (.aload_n 0, 1) := by decide +kernel
theorem dX5_story_53 : decode cX5_story 53 = .ok (.getfield 7, 3) := by decide +kernel
theorem dX5_story_56 : decode cX5_story 56 = .ok (.iconst 1, 1) := by decide +kernel
theorem dX5_story_57 : decode cX5_story 57 = .ok (.iaload, 1) := by decide +kernel
theorem dX5_story_58 : decode cX5_story 58 = .ok (.aload_n 0, 1) := by decide +kernel
theorem dX5_story_59 : decode cX5_story 59 = .ok (.getfield 37, 3) := by decide +kernel
theorem dX5_story_62 : decode cX5_story 62 = .ok (.iconst 3, 1) := by decide +kernel
theorem dX5_story_63 : decode cX5_story 63 = .ok (.iload_n 1, 1) := by decide +kernel
theorem dX5_story_64 : decode cX5_story 64 = .ok (.imul, 1) := by decide +kernel
theorem dX5_story_65 : decode cX5_story 65 = .ok (.iaload, 1) := by decide +kernel
theorem dX5_story_66 : decode cX5_story 66 = .ok (.aload_n 0, 1) := by decide +kernel
theorem dX5_story_67 : decode cX5_story 67 = .ok (.getfield 37, 3) := by decide +kernel
theorem dX5_story_70 : decode cX5_story 70 = .ok (.iconst 3, 1) := by decide +kernel
theorem dX5_story_71 : decode cX5_story 71 = .ok (.iload_n 1, 1) := by decide +kernel
theorem dX5_story_72 : decode cX5_story 72 = .ok (.imul, 1) := by decide +kernel
theorem dX5_story_73 : decode cX5_story 73 = .ok (.iconst 1, 1) := by decide +kernel
theorem dX5_story_74 : decode cX5_story 74 = .ok (.iadd, 1) := by decide +kernel
theorem dX5_story_75 : decode cX5_story 75 = .ok (.iaload, 1) := by decide +kernel
theorem dX5_story_76 : decode cX5_story 76 = .ok (.aload_n 0, 1) := by decide +kernel
theorem dX5_story_77 : decode cX5_story 77 = .ok (.getfield 37, 3) := by decide +kernel
theorem dX5_story_80 : decode cX5_story 80 = .ok (.iconst 3, 1) := by decide +kernel
theorem dX5_story_81 : decode cX5_story 81 = .ok (.iload_n 1, 1) := by decide +kernel
theorem dX5_story_82 : decode cX5_story 82 = .ok (.imul, 1) := by decide +kernel
theorem dX5_story_83 : decode cX5_story 83 = .ok (.iconst 2, 1) := by decide +kernel
theorem dX5_story_84 : decode cX5_story 84 = .ok (.iadd, 1) := by decide +kernel
theorem dX5_story_85 : decode cX5_story 85 = .ok (.iaload, 1) := by decide +kernel
theorem dX5_story_86 : decode cX5_story 86 = .ok (.invokevirtual 104, 3) := by decide +kernel
theorem dX5_story_89 : decode cX5_story 89 = .ok (.iinc 1 1, 3) := by decide +kernel
theorem dX5_story_92 : decode cX5_story 92 = .ok (.goto (-60), 3) := by decide +kernel
theorem dX5_story_95 : decode cX5_story 95 = .ok (.aload_n 0, 1) := by decide +kernel
theorem dX5_story_96 : decode cX5_story 96 = .ok (.iconst 0, 1) := by decide +kernel
theorem dX5_story_97 : decode cX5_story 97 = .ok (.putfield 117, 3) := by decide +kernel
theorem dX5_story_100 : decode cX5_story 100 = .ok (.iload_n 1, 1) := by decide +kernel
theorem dX5_story_101 : decode cX5_story 101 = .ok (.ireturn, 1) := by decide +kernel
set_option maxRecDepth 20000 in
theorem ggX5_toldPanel_X5_of : GoodIn wsX5_toldPanel wsX5_of := goodIn_r _ [8, 9, 10, 11, 12, 13, 14, 15, 16, 17, 18, 19, 20, 21, 22, 23, 24, 25, 26, 27, 28, 29] (by decide +kernel) (by decide +kernel)
set_option maxRecDepth 20000 in
theorem gX5_toldPanel_X5_of : GoodIn wsX5_toldPanel (wsV RX5 60 RX5 yX5_of wsX5_of) := goodIn_app (goodIn_of _ (by decide +kernel)) ggX5_toldPanel_X5_of
theorem dX5_toldPanel_0 : decode cX5_toldPanel 0 = .ok (.iload_n 2, 1) := by decide +kernel
theorem dX5_toldPanel_1 : decode cX5_toldPanel 1 = .ok (.iconst 3, 1) := by decide +kernel
theorem dX5_toldPanel_2 : decode cX5_toldPanel 2 = .ok (.if_icmp .ge 12, 3) := by decide +kernel
theorem dX5_toldPanel_5 : decode cX5_toldPanel 5 = .ok (.aload_n 0, 1) := by decide +kernel
theorem dX5_toldPanel_6 : decode cX5_toldPanel 6 = .ok (.iload_n 1, 1) := by decide +kernel
theorem dX5_toldPanel_7 : decode cX5_toldPanel 7 = .ok (.iload_n 2, 1) := by decide +kernel
theorem dX5_toldPanel_8 : decode cX5_toldPanel 8 = .ok (.invokevirtual 60, 3) := by decide +kernel
theorem dX5_toldPanel_11 : decode cX5_toldPanel 11 = .ok (.goto 37, 3) := by decide +kernel
theorem dX5_toldPanel_14 : decode cX5_toldPanel 14 = .ok (.iload_n 2, 1) := by decide +kernel
theorem dX5_toldPanel_15 : decode cX5_toldPanel 15 = .ok (.iconst 3, 1) := by decide +kernel
theorem dX5_toldPanel_16 : decode cX5_toldPanel 16 = .ok (.if_icmp .ne 12, 3) := by decide +kernel
theorem dX5_toldPanel_19 : decode cX5_toldPanel 19 = .ok (.aload_n 0, 1) := by decide +kernel
theorem dX5_toldPanel_20 : decode cX5_toldPanel 20 = .ok (.getfield 19, 3) := by decide +kernel
theorem dX5_toldPanel_23 : decode cX5_toldPanel 23 = .ok (.iload_n 1, 1) := by decide +kernel
theorem dX5_toldPanel_24 : decode cX5_toldPanel 24 = .ok (.iaload, 1) := by decide +kernel
theorem dX5_toldPanel_25 : decode cX5_toldPanel 25 = .ok (.goto 23, 3) := by decide +kernel
theorem dX5_toldPanel_28 : decode cX5_toldPanel 28 = .ok (.iload_n 2, 1) := by decide +kernel
theorem dX5_toldPanel_29 : decode cX5_toldPanel 29 = .ok (.iconst 4, 1) := by decide +kernel
theorem dX5_toldPanel_30 : decode cX5_toldPanel 30 = .ok (.if_icmp .ne 12, 3) := by decide +kernel
theorem dX5_toldPanel_33 : decode cX5_toldPanel 33 = .ok (.aload_n 0, 1) := by decide +kernel
theorem dX5_toldPanel_34 : decode cX5_toldPanel 34 = .ok (.getfield 22, 3) := by decide +kernel
theorem dX5_toldPanel_37 : decode cX5_toldPanel 37 = .ok (.iload_n 1, 1) := by decide +kernel
theorem dX5_toldPanel_38 : decode cX5_toldPanel 38 = .ok (.iaload, 1) := by decide +kernel
theorem dX5_toldPanel_39 : decode cX5_toldPanel 39 = .ok (.goto 9, 3) := by decide +kernel
theorem dX5_toldPanel_42 : decode cX5_toldPanel 42 = .ok (.aload_n 0, 1) := by decide +kernel
theorem dX5_toldPanel_43 : decode cX5_toldPanel 43 = .ok (.getfield 25, 3) := by decide +kernel
theorem dX5_toldPanel_46 : decode cX5_toldPanel 46 = .ok (.iload_n 1, 1) := by decide +kernel
theorem dX5_toldPanel_47 : decode cX5_toldPanel 47 = .ok (.iaload, 1) := by decide +kernel
theorem dX5_toldPanel_48 : decode cX5_toldPanel 48 = .ok (.ireturn, 1) := by decide +kernel
set_option maxRecDepth 20000 in
theorem ggX5_panel_X5_isPanel : GoodIn wsX5_panel wsX5_isPanel := goodIn_r _ [6, 7, 60, 61, 62, 63, 64, 65, 66, 67, 68, 69, 70, 71, 72, 73, 74, 75, 76, 77, 78, 79] (by decide +kernel) (by decide +kernel)
set_option maxRecDepth 20000 in
theorem gX5_panel_X5_isPanel : GoodIn wsX5_panel (wsV RX5 107 RX5 yX5_isPanel wsX5_isPanel) := goodIn_app (goodIn_of _ (by decide +kernel)) ggX5_panel_X5_isPanel
set_option maxRecDepth 20000 in
theorem ggX5_panel_X5_in : GoodIn wsX5_panel wsX5_in := goodIn_r _ [10] (by decide +kernel) (by decide +kernel)
set_option maxRecDepth 20000 in
theorem gX5_panel_X5_in : GoodIn wsX5_panel (va_wsS RX5 89 yX5_in wsX5_in) := goodIn_app (goodIn_of _ (by decide +kernel)) ggX5_panel_X5_in
set_option maxRecDepth 20000 in
theorem ggX5_panel_X5_pour : GoodIn wsX5_panel wsX5_pour := goodIn_r _ [14, 15, 16, 17, 7, 18, 19, 20, 21, 22, 23, 5, 24, 25, 26, 27, 28, 29, 30, 31, 32, 33, 34, 35, 36, 37, 38, 39, 40, 41, 42, 43, 44, 45, 46, 47, 48, 49, 50, 51, 52, 53, 54, 55, 60, 61, 62, 63, 64, 65, 66, 67, 68, 69, 70, 71, 72, 73, 74, 75, 76, 77, 78, 79] (by decide +kernel) (by decide +kernel)
set_option maxRecDepth 20000 in
theorem gX5_panel_X5_pour : GoodIn wsX5_panel (wsV RX5 110 RX5 yX5_pour wsX5_pour) := goodIn_app (goodIn_of _ (by decide +kernel)) ggX5_panel_X5_pour
set_option maxRecDepth 20000 in
theorem ggX5_panel_X5_toldPanel : GoodIn wsX5_panel wsX5_toldPanel := goodIn_r _ [59, 18, 19, 20, 28, 29, 30, 5, 31, 7, 60, 61, 62, 63, 64, 65, 66, 67, 68, 69, 70, 71, 72, 73, 74, 75, 76, 77, 78, 79] (by decide +kernel) (by decide +kernel)
set_option maxRecDepth 20000 in
theorem gX5_panel_X5_toldPanel : GoodIn wsX5_panel (wsV RX5 145 RX5 yX5_toldPanel wsX5_toldPanel) := goodIn_app (goodIn_of _ (by decide +kernel)) ggX5_panel_X5_toldPanel
theorem dX5_panel_0 : decode cX5_panel 0 = .ok (.aload_n 0, 1) := by decide +kernel
theorem dX5_panel_1 : decode cX5_panel 1 = .ok (.aload_n 0, 1) := by decide +kernel
theorem dX5_panel_2 : decode cX5_panel 2 = .ok (.iload_n 1, 1) := by decide +kernel
theorem dX5_panel_3 : decode cX5_panel 3 = .ok (.invokevirtual 107, 3) := by decide +kernel
theorem dX5_panel_6 : decode cX5_panel 6 = .ok (.ifCond .ne 7, 3) := by decide +kernel
theorem dX5_panel_9 : decode cX5_panel 9 = .ok (.iconst 1, 1) := by decide +kernel
theorem dX5_panel_10 : decode cX5_panel 10 = .ok (.goto 17, 3) := by decide +kernel
theorem dX5_panel_13 : decode cX5_panel 13 = .ok (.iload_n 2, 1) := by decide +kernel
theorem dX5_panel_14 : decode cX5_panel 14 = .ok (.iconst 0, 1) := by decide +kernel
theorem dX5_panel_15 : decode cX5_panel 15 = .ok (.iconst 5, 1) := by decide +kernel
theorem dX5_panel_16 : decode cX5_panel 16 = .ok (.invokestatic 89, 3) := by decide +kernel
theorem dX5_panel_19 : decode cX5_panel 19 = .ok (.ifCond .eq 7, 3) := by decide +kernel
theorem dX5_panel_22 : decode cX5_panel 22 = .ok (.iconst 0, 1) := by decide +kernel
theorem dX5_panel_23 : decode cX5_panel 23 = .ok (.goto 4, 3) := by decide +kernel
theorem dX5_panel_26 : decode cX5_panel 26 = .ok (.iconst 2, 1) := by decide +kernel
theorem dX5_panel_27 : decode cX5_panel 27 = .ok (.putfield 40, 3) := by decide +kernel
theorem dX5_panel_30 : decode cX5_panel 30 = .ok (.aload_n 0, 1) := by decide +kernel
theorem dX5_panel_31 : decode cX5_panel 31 = .ok (.getfield 40, 3) := by decide +kernel
theorem dX5_panel_34 : decode cX5_panel 34 = .ok (.ifCond .le 5, 3) := by decide +kernel
theorem dX5_panel_37 : decode cX5_panel 37 = .ok (.iconst 0, 1) := by decide +kernel
theorem dX5_panel_38 : decode cX5_panel 38 = .ok (.ireturn, 1) := by decide +kernel
theorem dX5_panel_39 : decode cX5_panel 39 = .ok (.aload_n 0, 1) := by decide +kernel
theorem dX5_panel_40 : decode cX5_panel 40 = .ok (.invokevirtual 110, 3) := by decide +kernel
theorem dX5_panel_43 : decode cX5_panel 43 = .ok (.aload_n 0, 1) := by decide +kernel
theorem dX5_panel_44 : decode cX5_panel 44 = .ok (.iload_n 1, 1) := by decide +kernel
theorem dX5_panel_45 : decode cX5_panel 45 = .ok (.iload_n 2, 1) := by decide +kernel
theorem dX5_panel_46 : decode cX5_panel 46 = .ok (.invokevirtual 145, 3) := by decide +kernel
theorem dX5_panel_49 : decode cX5_panel 49 = .ok (.ireturn, 1) := by decide +kernel
set_option maxRecDepth 20000 in
theorem ggX5_isWhole_X5_of : GoodIn wsX5_isWhole wsX5_of := goodIn_r _ [6, 7, 8, 9, 10, 11, 12, 13, 14, 15, 16, 17, 18, 19, 20, 21, 22, 23, 24, 25, 26, 27] (by decide +kernel) (by decide +kernel)
set_option maxRecDepth 20000 in
theorem gX5_isWhole_X5_of : GoodIn wsX5_isWhole (wsV RX5 60 RX5 yX5_of wsX5_of) := goodIn_app (goodIn_of _ (by decide +kernel)) ggX5_isWhole_X5_of
theorem dX5_isWhole_0 : decode cX5_isWhole 0 = .ok (.aload_n 0, 1) := by decide +kernel
theorem dX5_isWhole_1 : decode cX5_isWhole 1 = .ok (.getfield 28, 3) := by decide +kernel
theorem dX5_isWhole_4 : decode cX5_isWhole 4 = .ok (.bipush 24, 2) := by decide +kernel
theorem dX5_isWhole_6 : decode cX5_isWhole 6 = .ok (.iload_n 1, 1) := by decide +kernel
theorem dX5_isWhole_7 : decode cX5_isWhole 7 = .ok (.imul, 1) := by decide +kernel
theorem dX5_isWhole_8 : decode cX5_isWhole 8 = .ok (.iaload, 1) := by decide +kernel
theorem dX5_isWhole_9 : decode cX5_isWhole 9 = .ok (.istore_n 2, 1) := by decide +kernel
theorem dX5_isWhole_10 : decode cX5_isWhole 10 = .ok (.iload_n 2, 1) := by decide +kernel
theorem dX5_isWhole_11 : decode cX5_isWhole 11 = .ok (.iconst (-1), 1) := by decide +kernel
theorem dX5_isWhole_12 : decode cX5_isWhole 12 = .ok (.if_icmp .eq 17, 3) := by decide +kernel
theorem dX5_isWhole_15 : decode cX5_isWhole 15 = .ok (.aload_n 0, 1) := by decide +kernel
theorem dX5_isWhole_16 : decode cX5_isWhole 16 = .ok (.iload_n 2, 1) := by decide +kernel
theorem dX5_isWhole_17 : decode cX5_isWhole 17 = .ok (.iconst 0, 1) := by decide +kernel
theorem dX5_isWhole_18 : decode cX5_isWhole 18 = .ok (.invokevirtual 60, 3) := by decide +kernel
theorem dX5_isWhole_21 : decode cX5_isWhole 21 = .ok (.iconst 2, 1) := by decide +kernel
theorem dX5_isWhole_22 : decode cX5_isWhole 22 = .ok (.if_icmp .lt 7, 3) := by decide +kernel
theorem dX5_isWhole_25 : decode cX5_isWhole 25 = .ok (.iconst 1, 1) := by decide +kernel
theorem dX5_isWhole_26 : decode cX5_isWhole 26 = .ok (.goto 4, 3) := by decide +kernel
theorem dX5_isWhole_29 : decode cX5_isWhole 29 = .ok (.iconst 0, 1) := by decide +kernel
theorem dX5_isWhole_30 : decode cX5_isWhole 30 = .ok (.ireturn, 1) := by decide +kernel
theorem dX5_firstOn_0 : decode cX5_firstOn 0 = .ok (.iconst (-1), 1) := by decide +kernel
theorem dX5_firstOn_1 : decode cX5_firstOn 1 = .ok (.istore_n 2, 1) := by decide +kernel
theorem dX5_firstOn_2 : decode cX5_firstOn 2 = .ok (.bipush 23, 2) := by decide +kernel
theorem dX5_firstOn_4 : decode cX5_firstOn 4 = .ok (.istore_n 3, 1) := by decide +kernel
theorem dX5_firstOn_5 : decode cX5_firstOn 5 = .ok (.iload_n 3, 1) := by decide +kernel
theorem dX5_firstOn_6 : decode cX5_firstOn 6 = .ok (.ifCond .lt 46, 3) := by decide +kernel
theorem dX5_firstOn_9 : decode cX5_firstOn 9 = .ok (.aload_n 0, 1) := by decide +kernel
theorem dX5_firstOn_10 : decode cX5_firstOn 10 = .ok (.getfield 28, 3) := by decide +kernel
theorem dX5_firstOn_13 : decode cX5_firstOn 13 = .ok (.bipush 24, 2) := by decide +kernel
theorem dX5_firstOn_15 : decode cX5_firstOn 15 = .ok (.iload_n 1, 1) := by decide +kernel
theorem dX5_firstOn_16 : decode cX5_firstOn 16 = .ok (.imul, 1) := by decide +kernel
theorem dX5_firstOn_17 : decode cX5_firstOn 17 = .ok (.iload_n 3, 1) := by decide +kernel
theorem dX5_firstOn_18 : decode cX5_firstOn 18 = .ok (.iadd, 1) := by decide +kernel
theorem dX5_firstOn_19 : decode cX5_firstOn 19 = .ok (.iaload, 1) := by decide +kernel
theorem dX5_firstOn_20 : decode cX5_firstOn 20 = .ok (.istore 4, 2) := by decide +kernel
theorem dX5_firstOn_22 : decode cX5_firstOn 22 = .ok (.iload 4, 2) := by decide +kernel
theorem dX5_firstOn_24 : decode cX5_firstOn 24 = .ok (.iconst (-1), 1) := by decide +kernel
theorem dX5_firstOn_25 : decode cX5_firstOn 25 = .ok (.if_icmp .eq 19, 3) := by decide +kernel
theorem dX5_firstOn_28 : decode cX5_firstOn 28 = .ok (.iload_n 2, 1) := by decide +kernel
theorem dX5_firstOn_29 : decode cX5_firstOn 29 = .ok (.iconst (-1), 1) := by decide +kernel
theorem dX5_firstOn_30 : decode cX5_firstOn 30 = .ok (.if_icmp .eq 9, 3) := by decide +kernel
theorem dX5_firstOn_33 : decode cX5_firstOn 33 = .ok (.iload 4, 2) := by decide +kernel
theorem dX5_firstOn_35 : decode cX5_firstOn 35 = .ok (.iload_n 2, 1) := by decide +kernel
theorem dX5_firstOn_36 : decode cX5_firstOn 36 = .ok (.if_icmp .ge 8, 3) := by decide +kernel
theorem dX5_firstOn_39 : decode cX5_firstOn 39 = .ok (.iload 4, 2) := by decide +kernel
theorem dX5_firstOn_41 : decode cX5_firstOn 41 = .ok (.goto 4, 3) := by decide +kernel
theorem dX5_firstOn_44 : decode cX5_firstOn 44 = .ok (.iload_n 2, 1) := by decide +kernel
theorem dX5_firstOn_45 : decode cX5_firstOn 45 = .ok (.istore_n 2, 1) := by decide +kernel
theorem dX5_firstOn_46 : decode cX5_firstOn 46 = .ok (.iinc 3 (-1), 3) := by decide +kernel
theorem dX5_firstOn_49 : decode cX5_firstOn 49 = .ok (.goto (-44), 3) := by decide +kernel
theorem dX5_firstOn_52 : decode cX5_firstOn 52 = .ok (.iload_n 2, 1) := by decide +kernel
theorem dX5_firstOn_53 : decode cX5_firstOn 53 = .ok (.ireturn, 1) := by decide +kernel
set_option maxRecDepth 20000 in
theorem ggX5_bleedingOn_X5_of : GoodIn wsX5_bleedingOn wsX5_of := goodIn_r _ [7, 1, 8, 9, 10, 11, 12, 13, 14, 15, 16, 17, 18, 19, 20, 21, 22, 23, 24, 25, 26, 27] (by decide +kernel) (by decide +kernel)
set_option maxRecDepth 20000 in
theorem gX5_bleedingOn_X5_of : GoodIn wsX5_bleedingOn (wsV RX5 60 RX5 yX5_of wsX5_of) := goodIn_app (goodIn_of _ (by decide +kernel)) ggX5_bleedingOn_X5_of
theorem dX5_bleedingOn_0 : decode cX5_bleedingOn 0 = .ok (.iconst 0, 1) := by decide +kernel
theorem dX5_bleedingOn_1 : decode cX5_bleedingOn 1 = .ok (.istore_n 2, 1) := by decide +kernel
theorem dX5_bleedingOn_2 : decode cX5_bleedingOn 2 = .ok (.iconst 0, 1) := by decide +kernel
theorem dX5_bleedingOn_3 : decode cX5_bleedingOn 3 = .ok (.istore_n 3, 1) := by decide +kernel
theorem dX5_bleedingOn_4 : decode cX5_bleedingOn 4 = .ok (.iload_n 3, 1) := by decide +kernel
theorem dX5_bleedingOn_5 : decode cX5_bleedingOn 5 = .ok (.aload_n 0, 1) := by decide +kernel
theorem dX5_bleedingOn_6 : decode cX5_bleedingOn 6 = .ok (.getfield 7, 3) := by decide +kernel
theorem dX5_bleedingOn_9 : decode cX5_bleedingOn 9 = .ok (.iconst 1, 1) := by decide +kernel
theorem dX5_bleedingOn_10 : decode cX5_bleedingOn 10 = .ok (.iaload, 1) := by decide +kernel
theorem dX5_bleedingOn_11 : decode cX5_bleedingOn 11 = .ok (.if_icmp .ge 37, 3) := by decide +kernel
theorem dX5_bleedingOn_14 : decode cX5_bleedingOn 14 = .ok (.iload_n 2, 1) := by decide +kernel
theorem dX5_bleedingOn_15 : decode cX5_bleedingOn 15 = .ok (.aload_n 0, 1) := by decide +kernel
theorem dX5_bleedingOn_16 : decode cX5_bleedingOn 16 = .ok (.iload_n 3, 1) := by decide +kernel
theorem dX5_bleedingOn_17 : decode cX5_bleedingOn 17 = .ok (.iconst 0, 1) := by decide +kernel
theorem dX5_bleedingOn_18 : decode cX5_bleedingOn 18 = .ok (.invokevirtual 60, 3) := by decide +kernel
theorem dX5_bleedingOn_21 : decode cX5_bleedingOn 21 = .ok (.iconst 1, 1) := by decide +kernel
theorem dX5_bleedingOn_22 : decode cX5_bleedingOn 22 = .ok (.if_icmp .ne 17, 3) := by decide +kernel
theorem dX5_bleedingOn_25 : decode cX5_bleedingOn 25 = .ok (.aload_n 0, 1) := by decide +kernel
theorem dX5_bleedingOn_26 : decode cX5_bleedingOn 26 = .ok (.getfield 19, 3) := by decide +kernel
theorem dX5_bleedingOn_29 : decode cX5_bleedingOn 29 = .ok (.iload_n 3, 1) := by decide +kernel
theorem dX5_bleedingOn_30 : decode cX5_bleedingOn 30 = .ok (.iaload, 1) := by decide +kernel
theorem dX5_bleedingOn_31 : decode cX5_bleedingOn 31 = .ok (.iload_n 1, 1) := by decide +kernel
theorem dX5_bleedingOn_32 : decode cX5_bleedingOn 32 = .ok (.if_icmp .ne 7, 3) := by decide +kernel
theorem dX5_bleedingOn_35 : decode cX5_bleedingOn 35 = .ok (.iconst 1, 1) := by decide +kernel
theorem dX5_bleedingOn_36 : decode cX5_bleedingOn 36 = .ok (.goto 4, 3) := by decide +kernel
theorem dX5_bleedingOn_39 : decode cX5_bleedingOn 39 = .ok (.iconst 0, 1) := by decide +kernel
theorem dX5_bleedingOn_40 : decode cX5_bleedingOn 40 = .ok (.iadd, 1) := by decide +kernel
theorem dX5_bleedingOn_41 : decode cX5_bleedingOn 41 = .ok (.istore_n 2, 1) := by decide +kernel
theorem dX5_bleedingOn_42 : decode cX5_bleedingOn 42 = .ok (.iinc 3 1, 3) := by decide +kernel
theorem dX5_bleedingOn_45 : decode cX5_bleedingOn 45 = .ok (.goto (-41), 3) := by decide +kernel
theorem dX5_bleedingOn_48 : decode cX5_bleedingOn 48 = .ok (.iload_n 2, 1) := by decide +kernel
theorem dX5_bleedingOn_49 : decode cX5_bleedingOn 49 = .ok (.ireturn, 1) := by decide +kernel
set_option maxRecDepth 20000 in
theorem ggX5_toldPage_X5_isWhole : GoodIn wsX5_toldPage wsX5_isWhole := goodIn_r _ [7, 8, 9, 10, 11, 6, 12, 13, 31, 32, 33, 34, 35, 36, 37, 38, 39, 40, 41, 42, 43, 44, 45, 46, 47, 48, 49, 50] (by decide +kernel) (by decide +kernel)
set_option maxRecDepth 20000 in
theorem gX5_toldPage_X5_isWhole : GoodIn wsX5_toldPage (wsV RX5 148 RX5 yX5_isWhole wsX5_isWhole) := goodIn_app (goodIn_of _ (by decide +kernel)) ggX5_toldPage_X5_isWhole
set_option maxRecDepth 20000 in
theorem ggX5_toldPage_X5_emptyOn : GoodIn wsX5_toldPage wsX5_emptyOn := goodIn_r _ [17, 8, 31, 32, 33, 34, 35, 36, 37, 38, 39, 40, 41, 42, 43, 44, 45, 46, 47, 48, 49, 50] (by decide +kernel) (by decide +kernel)
set_option maxRecDepth 20000 in
theorem gX5_toldPage_X5_emptyOn : GoodIn wsX5_toldPage (wsV RX5 85 RX5 yX5_emptyOn wsX5_emptyOn) := goodIn_app (goodIn_of _ (by decide +kernel)) ggX5_toldPage_X5_emptyOn
set_option maxRecDepth 20000 in
theorem ggX5_toldPage_X5_firstOn : GoodIn wsX5_toldPage wsX5_firstOn := goodIn_r _ [21, 8, 31, 32, 33, 34, 35, 36, 37, 38, 39, 40, 41, 42, 43, 44, 45, 46, 47, 48, 49, 50] (by decide +kernel) (by decide +kernel)
set_option maxRecDepth 20000 in
theorem gX5_toldPage_X5_firstOn : GoodIn wsX5_toldPage (wsV RX5 151 RX5 yX5_firstOn wsX5_firstOn) := goodIn_app (goodIn_of _ (by decide +kernel)) ggX5_toldPage_X5_firstOn
set_option maxRecDepth 20000 in
theorem ggX5_toldPage_X5_used : GoodIn wsX5_toldPage wsX5_used := goodIn_r _ [25, 1, 31, 32, 33, 34, 35, 36, 37, 38, 39, 40, 41, 42, 43, 44, 45, 46, 47, 48, 49, 50] (by decide +kernel) (by decide +kernel)
set_option maxRecDepth 20000 in
theorem gX5_toldPage_X5_used : GoodIn wsX5_toldPage (wsV RX5 113 RX5 yX5_used wsX5_used) := goodIn_app (goodIn_of _ (by decide +kernel)) ggX5_toldPage_X5_used
set_option maxRecDepth 20000 in
theorem ggX5_toldPage_X5_bleedingOn : GoodIn wsX5_toldPage wsX5_bleedingOn := goodIn_r _ [29, 13, 30, 9, 10, 11, 6, 12, 31, 32, 33, 34, 35, 36, 37, 38, 39, 40, 41, 42, 43, 44, 45, 46, 47, 48, 49, 50] (by decide +kernel) (by decide +kernel)
set_option maxRecDepth 20000 in
theorem gX5_toldPage_X5_bleedingOn : GoodIn wsX5_toldPage (wsV RX5 154 RX5 yX5_bleedingOn wsX5_bleedingOn) := goodIn_app (goodIn_of _ (by decide +kernel)) ggX5_toldPage_X5_bleedingOn
theorem dX5_toldPage_0 : decode cX5_toldPage 0 = .ok (.iload_n 2, 1) := by decide +kernel
theorem dX5_toldPage_1 : decode cX5_toldPage 1 = .ok (.tableswitch 96 0 4 #[35, 42, 49, 67, 73], 35) := by decide +kernel
theorem dX5_toldPage_36 : decode cX5_toldPage 36 = .ok (.aload_n 0, 1) := by decide +kernel
theorem dX5_toldPage_37 : decode cX5_toldPage 37 = .ok (.getfield 34, 3) := by decide +kernel
theorem dX5_toldPage_40 : decode cX5_toldPage 40 = .ok (.iload_n 1, 1) := by decide +kernel
theorem dX5_toldPage_41 : decode cX5_toldPage 41 = .ok (.iaload, 1) := by decide +kernel
theorem dX5_toldPage_42 : decode cX5_toldPage 42 = .ok (.ireturn, 1) := by decide +kernel
theorem dX5_toldPage_43 : decode cX5_toldPage 43 = .ok (.aload_n 0, 1) := by decide +kernel
theorem dX5_toldPage_44 : decode cX5_toldPage 44 = .ok (.getfield 31, 3) := by decide +kernel
theorem dX5_toldPage_47 : decode cX5_toldPage 47 = .ok (.iload_n 1, 1) := by decide +kernel
theorem dX5_toldPage_48 : decode cX5_toldPage 48 = .ok (.iaload, 1) := by decide +kernel
theorem dX5_toldPage_49 : decode cX5_toldPage 49 = .ok (.ireturn, 1) := by decide +kernel
theorem dX5_toldPage_50 : decode cX5_toldPage 50 = .ok (.aload_n 0, 1) := by decide +kernel
theorem dX5_toldPage_51 : decode cX5_toldPage 51 = .ok (.iload_n 1, 1) := by decide +kernel
theorem dX5_toldPage_52 : decode cX5_toldPage 52 = .ok (.invokevirtual 148, 3) := by decide +kernel
theorem dX5_toldPage_55 : decode cX5_toldPage 55 = .ok (.ifCond .eq 7, 3) := by decide +kernel
theorem dX5_toldPage_58 : decode cX5_toldPage 58 = .ok (.iconst 0, 1) := by decide +kernel
theorem dX5_toldPage_59 : decode cX5_toldPage 59 = .ok (.goto 8, 3) := by decide +kernel
theorem dX5_toldPage_62 : decode cX5_toldPage 62 = .ok (.aload_n 0, 1) := by decide +kernel
theorem dX5_toldPage_63 : decode cX5_toldPage 63 = .ok (.iload_n 1, 1) := by decide +kernel
theorem dX5_toldPage_64 : decode cX5_toldPage 64 = .ok (.invokevirtual 85, 3) := by decide +kernel
theorem dX5_toldPage_67 : decode cX5_toldPage 67 = .ok (.ireturn, 1) := by decide +kernel
theorem dX5_toldPage_68 : decode cX5_toldPage 68 = .ok (.aload_n 0, 1) := by decide +kernel
theorem dX5_toldPage_69 : decode cX5_toldPage 69 = .ok (.iload_n 1, 1) := by decide +kernel
theorem dX5_toldPage_70 : decode cX5_toldPage 70 = .ok (.invokevirtual 151, 3) := by decide +kernel
theorem dX5_toldPage_73 : decode cX5_toldPage 73 = .ok (.ireturn, 1) := by decide +kernel
theorem dX5_toldPage_74 : decode cX5_toldPage 74 = .ok (.aload_n 0, 1) := by decide +kernel
theorem dX5_toldPage_75 : decode cX5_toldPage 75 = .ok (.getfield 34, 3) := by decide +kernel
theorem dX5_toldPage_78 : decode cX5_toldPage 78 = .ok (.iload_n 1, 1) := by decide +kernel
theorem dX5_toldPage_79 : decode cX5_toldPage 79 = .ok (.iaload, 1) := by decide +kernel
theorem dX5_toldPage_80 : decode cX5_toldPage 80 = .ok (.ifCond .ne 15, 3) := by decide +kernel
theorem dX5_toldPage_83 : decode cX5_toldPage 83 = .ok (.iload_n 1, 1) := by decide +kernel
theorem dX5_toldPage_84 : decode cX5_toldPage 84 = .ok (.aload_n 0, 1) := by decide +kernel
theorem dX5_toldPage_85 : decode cX5_toldPage 85 = .ok (.invokevirtual 113, 3) := by decide +kernel
theorem dX5_toldPage_88 : decode cX5_toldPage 88 = .ok (.if_icmp .ge 7, 3) := by decide +kernel
theorem dX5_toldPage_91 : decode cX5_toldPage 91 = .ok (.iconst 1, 1) := by decide +kernel
theorem dX5_toldPage_92 : decode cX5_toldPage 92 = .ok (.goto 4, 3) := by decide +kernel
theorem dX5_toldPage_95 : decode cX5_toldPage 95 = .ok (.iconst 0, 1) := by decide +kernel
theorem dX5_toldPage_96 : decode cX5_toldPage 96 = .ok (.ireturn, 1) := by decide +kernel
theorem dX5_toldPage_97 : decode cX5_toldPage 97 = .ok (.aload_n 0, 1) := by decide +kernel
theorem dX5_toldPage_98 : decode cX5_toldPage 98 = .ok (.iload_n 1, 1) := by decide +kernel
theorem dX5_toldPage_99 : decode cX5_toldPage 99 = .ok (.invokevirtual 154, 3) := by decide +kernel
theorem dX5_toldPage_102 : decode cX5_toldPage 102 = .ok (.ireturn, 1) := by decide +kernel
set_option maxRecDepth 20000 in
theorem ggX5_page_X5_in : GoodIn wsX5_page wsX5_in := goodIn_r _ [5] (by decide +kernel) (by decide +kernel)
set_option maxRecDepth 20000 in
theorem gX5_page_X5_in : GoodIn wsX5_page (va_wsS RX5 89 yX5_in wsX5_in) := goodIn_app (goodIn_of _ (by decide +kernel)) ggX5_page_X5_in
set_option maxRecDepth 20000 in
theorem ggX5_page_X5_pour : GoodIn wsX5_page wsX5_pour := goodIn_r _ [9, 10, 11, 12, 13, 14, 15, 16, 17, 18, 19, 4, 20, 21, 22, 23, 24, 25, 26, 27, 28, 29, 30, 31, 32, 33, 34, 35, 36, 37, 38, 39, 40, 41, 42, 43, 44, 45, 46, 47, 48, 49, 50, 51, 76, 77, 78, 79, 80, 81, 82, 83, 84, 85, 86, 87, 88, 89, 90, 91, 92, 93, 94, 95] (by decide +kernel) (by decide +kernel)
set_option maxRecDepth 20000 in
theorem gX5_page_X5_pour : GoodIn wsX5_page (wsV RX5 110 RX5 yX5_pour wsX5_pour) := goodIn_app (goodIn_of _ (by decide +kernel)) ggX5_page_X5_pour
set_option maxRecDepth 20000 in
theorem ggX5_page_X5_toldPage : GoodIn wsX5_page wsX5_toldPage := goodIn_r _ [55, 12, 11, 56, 57, 58, 4, 59, 10, 24, 25, 26, 27, 13, 60, 61, 62, 63, 64, 65, 66, 67, 68, 69, 70, 71, 72, 73, 74, 75, 14, 76, 77, 78, 79, 80, 81, 82, 83, 84, 85, 86, 87, 88, 89, 90, 91, 92, 93, 94, 95] (by decide +kernel) (by decide +kernel)
set_option maxRecDepth 20000 in
theorem gX5_page_X5_toldPage : GoodIn wsX5_page (wsV RX5 157 RX5 yX5_toldPage wsX5_toldPage) := goodIn_app (goodIn_of _ (by decide +kernel)) ggX5_page_X5_toldPage
theorem dX5_page_0 : decode cX5_page 0 = .ok (.aload_n 0, 1) := by decide +kernel
theorem dX5_page_1 : decode cX5_page 1 = .ok (.iload_n 1, 1) := by decide +kernel
theorem dX5_page_2 : decode cX5_page 2 = .ok (.iconst 0, 1) := by decide +kernel
theorem dX5_page_3 : decode cX5_page 3 = .ok (.bipush 15, 2) := by decide +kernel
theorem dX5_page_5 : decode cX5_page 5 = .ok (.invokestatic 89, 3) := by decide +kernel
theorem dX5_page_8 : decode cX5_page 8 = .ok (.ifCond .ne 7, 3) := by decide +kernel
theorem dX5_page_11 : decode cX5_page 11 = .ok (.iconst 1, 1) := by decide +kernel
theorem dX5_page_12 : decode cX5_page 12 = .ok (.goto 17, 3) := by decide +kernel
theorem dX5_page_15 : decode cX5_page 15 = .ok (.iload_n 2, 1) := by decide +kernel
theorem dX5_page_16 : decode cX5_page 16 = .ok (.iconst 0, 1) := by decide +kernel
theorem dX5_page_17 : decode cX5_page 17 = .ok (.iconst 5, 1) := by decide +kernel
theorem dX5_page_18 : decode cX5_page 18 = .ok (.invokestatic 89, 3) := by decide +kernel
theorem dX5_page_21 : decode cX5_page 21 = .ok (.ifCond .eq 7, 3) := by decide +kernel
theorem dX5_page_24 : decode cX5_page 24 = .ok (.iconst 0, 1) := by decide +kernel
theorem dX5_page_25 : decode cX5_page 25 = .ok (.goto 4, 3) := by decide +kernel
theorem dX5_page_28 : decode cX5_page 28 = .ok (.iconst 2, 1) := by decide +kernel
theorem dX5_page_29 : decode cX5_page 29 = .ok (.putfield 40, 3) := by decide +kernel
theorem dX5_page_32 : decode cX5_page 32 = .ok (.aload_n 0, 1) := by decide +kernel
theorem dX5_page_33 : decode cX5_page 33 = .ok (.getfield 40, 3) := by decide +kernel
theorem dX5_page_36 : decode cX5_page 36 = .ok (.ifCond .le 5, 3) := by decide +kernel
theorem dX5_page_39 : decode cX5_page 39 = .ok (.iconst 0, 1) := by decide +kernel
theorem dX5_page_40 : decode cX5_page 40 = .ok (.ireturn, 1) := by decide +kernel
theorem dX5_page_41 : decode cX5_page 41 = .ok (.aload_n 0, 1) := by decide +kernel
theorem dX5_page_42 : decode cX5_page 42 = .ok (.invokevirtual 110, 3) := by decide +kernel
theorem dX5_page_45 : decode cX5_page 45 = .ok (.aload_n 0, 1) := by decide +kernel
theorem dX5_page_46 : decode cX5_page 46 = .ok (.iload_n 1, 1) := by decide +kernel
theorem dX5_page_47 : decode cX5_page 47 = .ok (.iload_n 2, 1) := by decide +kernel
theorem dX5_page_48 : decode cX5_page 48 = .ok (.invokevirtual 157, 3) := by decide +kernel
theorem dX5_page_51 : decode cX5_page 51 = .ok (.ireturn, 1) := by decide +kernel
set_option maxRecDepth 20000 in
theorem ggX5_at_X5_in : GoodIn wsX5_at wsX5_in := goodIn_r _ [6] (by decide +kernel) (by decide +kernel)
set_option maxRecDepth 20000 in
theorem gX5_at_X5_in : GoodIn wsX5_at (va_wsS RX5 89 yX5_in wsX5_in) := goodIn_app (goodIn_of _ (by decide +kernel)) ggX5_at_X5_in
set_option maxRecDepth 20000 in
theorem ggX5_at_X5_pour : GoodIn wsX5_at wsX5_pour := goodIn_r _ [10, 2, 11, 12, 13, 14, 15, 16, 17, 18, 19, 5, 20, 21, 22, 23, 24, 25, 26, 27, 28, 29, 30, 31, 32, 33, 34, 35, 36, 37, 38, 39, 40, 41, 42, 43, 44, 45, 46, 47, 48, 49, 50, 51, 52, 53, 54, 55, 56, 57, 58, 59, 60, 61, 62, 63, 64, 65, 66, 67, 68, 69, 70, 71] (by decide +kernel) (by decide +kernel)
set_option maxRecDepth 20000 in
theorem gX5_at_X5_pour : GoodIn wsX5_at (wsV RX5 110 RX5 yX5_pour wsX5_pour) := goodIn_app (goodIn_of _ (by decide +kernel)) ggX5_at_X5_pour
theorem dX5_at_0 : decode cX5_at 0 = .ok (.aload_n 0, 1) := by decide +kernel
theorem dX5_at_1 : decode cX5_at 1 = .ok (.iload_n 1, 1) := by decide +kernel
theorem dX5_at_2 : decode cX5_at 2 = .ok (.iconst 0, 1) := by decide +kernel
theorem dX5_at_3 : decode cX5_at 3 = .ok (.bipush 15, 2) := by decide +kernel
theorem dX5_at_5 : decode cX5_at 5 = .ok (.invokestatic 89, 3) := by decide +kernel
theorem dX5_at_8 : decode cX5_at 8 = .ok (.ifCond .eq 25, 3) := by decide +kernel
theorem dX5_at_11 : decode cX5_at 11 = .ok (.iload_n 2, 1) := by decide +kernel
theorem dX5_at_12 : decode cX5_at 12 = .ok (.iconst 0, 1) := by decide +kernel
theorem dX5_at_13 : decode cX5_at 13 = .ok (.iconst 3, 1) := by decide +kernel
theorem dX5_at_14 : decode cX5_at 14 = .ok (.invokestatic 89, 3) := by decide +kernel
theorem dX5_at_17 : decode cX5_at 17 = .ok (.ifCond .eq 16, 3) := by decide +kernel
theorem dX5_at_20 : decode cX5_at 20 = .ok (.iload_n 3, 1) := by decide +kernel
theorem dX5_at_21 : decode cX5_at 21 = .ok (.iconst 0, 1) := by decide +kernel
theorem dX5_at_22 : decode cX5_at 22 = .ok (.iconst 5, 1) := by decide +kernel
theorem dX5_at_23 : decode cX5_at 23 = .ok (.invokestatic 89, 3) := by decide +kernel
theorem dX5_at_26 : decode cX5_at 26 = .ok (.ifCond .eq 7, 3) := by decide +kernel
theorem dX5_at_29 : decode cX5_at 29 = .ok (.iconst 0, 1) := by decide +kernel
theorem dX5_at_30 : decode cX5_at 30 = .ok (.goto 4, 3) := by decide +kernel
theorem dX5_at_33 : decode cX5_at 33 = .ok (.iconst 1, 1) := by decide +kernel
theorem dX5_at_34 : decode cX5_at 34 = .ok (.putfield 40, 3) := by decide +kernel
theorem dX5_at_37 : decode cX5_at 37 = .ok (.aload_n 0, 1) := by decide +kernel
theorem dX5_at_38 : decode cX5_at 38 = .ok (.getfield 40, 3) := by decide +kernel
theorem dX5_at_41 : decode cX5_at 41 = .ok (.ifCond .le 5, 3) := by decide +kernel
theorem dX5_at_44 : decode cX5_at 44 = .ok (.iconst 0, 1) := by decide +kernel
theorem dX5_at_45 : decode cX5_at 45 = .ok (.ireturn, 1) := by decide +kernel
theorem dX5_at_46 : decode cX5_at 46 = .ok (.aload_n 0, 1) := by decide +kernel
theorem dX5_at_47 : decode cX5_at 47 = .ok (.invokevirtual 110, 3) := by decide +kernel
theorem dX5_at_50 : decode cX5_at 50 = .ok (.aload_n 0, 1) := by decide +kernel
theorem dX5_at_51 : decode cX5_at 51 = .ok (.getfield 28, 3) := by decide +kernel
theorem dX5_at_54 : decode cX5_at 54 = .ok (.bipush 24, 2) := by decide +kernel
theorem dX5_at_56 : decode cX5_at 56 = .ok (.iload_n 1, 1) := by decide +kernel
theorem dX5_at_57 : decode cX5_at 57 = .ok (.imul, 1) := by decide +kernel
theorem dX5_at_58 : decode cX5_at 58 = .ok (.bipush 6, 2) := by decide +kernel
theorem dX5_at_60 : decode cX5_at 60 = .ok (.iload_n 2, 1) := by decide +kernel
theorem dX5_at_61 : decode cX5_at 61 = .ok (.imul, 1) := by decide +kernel
theorem dX5_at_62 : decode cX5_at 62 = .ok (.iadd, 1) := by decide +kernel
theorem dX5_at_63 : decode cX5_at 63 = .ok (.iload_n 3, 1) := by decide +kernel
theorem dX5_at_64 : decode cX5_at 64 = .ok (.iadd, 1) := by decide +kernel
theorem dX5_at_65 : decode cX5_at 65 = .ok (.iaload, 1) := by decide +kernel
theorem dX5_at_66 : decode cX5_at 66 = .ok (.ireturn, 1) := by decide +kernel
theorem dX5_mostBeats_0 : decode cX5_mostBeats 0 = .ok (.iconst 0, 1) := by decide +kernel
theorem dX5_mostBeats_1 : decode cX5_mostBeats 1 = .ok (.istore_n 1, 1) := by decide +kernel
theorem dX5_mostBeats_2 : decode cX5_mostBeats 2 = .ok (.iconst 0, 1) := by decide +kernel
theorem dX5_mostBeats_3 : decode cX5_mostBeats 3 = .ok (.istore_n 2, 1) := by decide +kernel
theorem dX5_mostBeats_4 : decode cX5_mostBeats 4 = .ok (.iload_n 2, 1) := by decide +kernel
theorem dX5_mostBeats_5 : decode cX5_mostBeats 5 = .ok (.bipush 16, 2) := by decide +kernel
theorem dX5_mostBeats_7 : decode cX5_mostBeats 7 = .ok (.if_icmp .ge 30, 3) := by decide +kernel
theorem dX5_mostBeats_10 : decode cX5_mostBeats 10 = .ok (.aload_n 0, 1) := by decide +kernel
theorem dX5_mostBeats_11 : decode cX5_mostBeats 11 = .ok (.getfield 31, 3) := by decide +kernel
theorem dX5_mostBeats_14 : decode cX5_mostBeats 14 = .ok (.iload_n 2, 1) := by decide +kernel
theorem dX5_mostBeats_15 : decode cX5_mostBeats 15 = .ok (.iaload, 1) := by decide +kernel
theorem dX5_mostBeats_16 : decode cX5_mostBeats 16 = .ok (.iload_n 1, 1) := by decide +kernel
theorem dX5_mostBeats_17 : decode cX5_mostBeats 17 = .ok (.if_icmp .le 12, 3) := by decide +kernel
theorem dX5_mostBeats_20 : decode cX5_mostBeats 20 = .ok (.aload_n 0, 1) := by decide +kernel
theorem dX5_mostBeats_21 : decode cX5_mostBeats 21 = .ok (.getfield 31, 3) := by decide +kernel
theorem dX5_mostBeats_24 : decode cX5_mostBeats 24 = .ok (.iload_n 2, 1) := by decide +kernel
theorem dX5_mostBeats_25 : decode cX5_mostBeats 25 = .ok (.iaload, 1) := by decide +kernel
theorem dX5_mostBeats_26 : decode cX5_mostBeats 26 = .ok (.goto 4, 3) := by decide +kernel
theorem dX5_mostBeats_29 : decode cX5_mostBeats 29 = .ok (.iload_n 1, 1) := by decide +kernel
theorem dX5_mostBeats_30 : decode cX5_mostBeats 30 = .ok (.istore_n 1, 1) := by decide +kernel
theorem dX5_mostBeats_31 : decode cX5_mostBeats 31 = .ok (.iinc 2 1, 3) := by decide +kernel
theorem dX5_mostBeats_34 : decode cX5_mostBeats 34 = .ok (.goto (-30), 3) := by decide +kernel
theorem dX5_mostBeats_37 : decode cX5_mostBeats 37 = .ok (.iload_n 1, 1) := by decide +kernel
theorem dX5_mostBeats_38 : decode cX5_mostBeats 38 = .ok (.ireturn, 1) := by decide +kernel
set_option maxRecDepth 20000 in
theorem ggX5_unlike_X5_used : GoodIn wsX5_unlike wsX5_used := goodIn_r _ [6, 7, 8, 9, 10, 11, 12, 13, 14, 15, 16, 17, 18, 19, 20, 21, 22, 23, 24, 25, 26, 27] (by decide +kernel) (by decide +kernel)
set_option maxRecDepth 20000 in
theorem gX5_unlike_X5_used : GoodIn wsX5_unlike (wsV RX5 113 RX5 yX5_used wsX5_used) := goodIn_app (goodIn_of _ (by decide +kernel)) ggX5_unlike_X5_used
theorem dX5_unlike_0 : decode cX5_unlike 0 = .ok (.iconst 0, 1) := by decide +kernel
theorem dX5_unlike_1 : decode cX5_unlike 1 = .ok (.istore_n 1, 1) := by decide +kernel
theorem dX5_unlike_2 : decode cX5_unlike 2 = .ok (.iconst 0, 1) := by decide +kernel
theorem dX5_unlike_3 : decode cX5_unlike 3 = .ok (.istore_n 2, 1) := by decide +kernel
theorem dX5_unlike_4 : decode cX5_unlike 4 = .ok (.iload_n 2, 1) := by decide +kernel
theorem dX5_unlike_5 : decode cX5_unlike 5 = .ok (.bipush 16, 2) := by decide +kernel
theorem dX5_unlike_7 : decode cX5_unlike 7 = .ok (.if_icmp .ge 55, 3) := by decide +kernel
theorem dX5_unlike_10 : decode cX5_unlike 10 = .ok (.aload_n 0, 1) := by decide +kernel
theorem dX5_unlike_11 : decode cX5_unlike 11 = .ok (.getfield 31, 3) := by decide +kernel
theorem dX5_unlike_14 : decode cX5_unlike 14 = .ok (.iload_n 2, 1) := by decide +kernel
theorem dX5_unlike_15 : decode cX5_unlike 15 = .ok (.iaload, 1) := by decide +kernel
theorem dX5_unlike_16 : decode cX5_unlike 16 = .ok (.aload_n 0, 1) := by decide +kernel
theorem dX5_unlike_17 : decode cX5_unlike 17 = .ok (.getfield 31, 3) := by decide +kernel
theorem dX5_unlike_20 : decode cX5_unlike 20 = .ok (.iload_n 2, 1) := by decide +kernel
theorem dX5_unlike_21 : decode cX5_unlike 21 = .ok (.iconst 1, 1) := by decide +kernel
theorem dX5_unlike_22 : decode cX5_unlike 22 = .ok (.iadd, 1) := by decide +kernel
theorem dX5_unlike_23 : decode cX5_unlike 23 = .ok (.iaload, 1) := by decide +kernel
theorem dX5_unlike_24 : decode cX5_unlike 24 = .ok (.isub, 1) := by decide +kernel
theorem dX5_unlike_25 : decode cX5_unlike 25 = .ok (.istore_n 3, 1) := by decide +kernel
theorem dX5_unlike_26 : decode cX5_unlike 26 = .ok (.iload_n 3, 1) := by decide +kernel
theorem dX5_unlike_27 : decode cX5_unlike 27 = .ok (.ifCond .ge 8, 3) := by decide +kernel
theorem dX5_unlike_30 : decode cX5_unlike 30 = .ok (.iload_n 3, 1) := by decide +kernel
theorem dX5_unlike_31 : decode cX5_unlike 31 = .ok (.ineg, 1) := by decide +kernel
theorem dX5_unlike_32 : decode cX5_unlike 32 = .ok (.goto 4, 3) := by decide +kernel
theorem dX5_unlike_35 : decode cX5_unlike 35 = .ok (.iload_n 3, 1) := by decide +kernel
theorem dX5_unlike_36 : decode cX5_unlike 36 = .ok (.istore_n 3, 1) := by decide +kernel
theorem dX5_unlike_37 : decode cX5_unlike 37 = .ok (.iload_n 2, 1) := by decide +kernel
theorem dX5_unlike_38 : decode cX5_unlike 38 = .ok (.aload_n 0, 1) := by decide +kernel
theorem dX5_unlike_39 : decode cX5_unlike 39 = .ok (.invokevirtual 113, 3) := by decide +kernel
theorem dX5_unlike_42 : decode cX5_unlike 42 = .ok (.if_icmp .ge 12, 3) := by decide +kernel
theorem dX5_unlike_45 : decode cX5_unlike 45 = .ok (.iload_n 3, 1) := by decide +kernel
theorem dX5_unlike_46 : decode cX5_unlike 46 = .ok (.iload_n 1, 1) := by decide +kernel
theorem dX5_unlike_47 : decode cX5_unlike 47 = .ok (.if_icmp .le 7, 3) := by decide +kernel
theorem dX5_unlike_50 : decode cX5_unlike 50 = .ok (.iload_n 3, 1) := by decide +kernel
theorem dX5_unlike_51 : decode cX5_unlike 51 = .ok (.goto 4, 3) := by decide +kernel
theorem dX5_unlike_54 : decode cX5_unlike 54 = .ok (.iload_n 1, 1) := by decide +kernel
theorem dX5_unlike_55 : decode cX5_unlike 55 = .ok (.istore_n 1, 1) := by decide +kernel
theorem dX5_unlike_56 : decode cX5_unlike 56 = .ok (.iinc 2 2, 3) := by decide +kernel
theorem dX5_unlike_59 : decode cX5_unlike 59 = .ok (.goto (-55), 3) := by decide +kernel
theorem dX5_unlike_62 : decode cX5_unlike 62 = .ok (.iload_n 1, 1) := by decide +kernel
theorem dX5_unlike_63 : decode cX5_unlike 63 = .ok (.ireturn, 1) := by decide +kernel
set_option maxRecDepth 20000 in
theorem ggX5_counted_X5_used : GoodIn wsX5_counted wsX5_used := goodIn_r _ [7, 8, 36, 37, 38, 39, 40, 41, 42, 43, 44, 45, 46, 47, 48, 49, 50, 51, 52, 53, 54, 55] (by decide +kernel) (by decide +kernel)
set_option maxRecDepth 20000 in
theorem gX5_counted_X5_used : GoodIn wsX5_counted (wsV RX5 113 RX5 yX5_used wsX5_used) := goodIn_app (goodIn_of _ (by decide +kernel)) ggX5_counted_X5_used
set_option maxRecDepth 20000 in
theorem ggX5_counted_X5_pagesSet : GoodIn wsX5_counted wsX5_pagesSet := goodIn_r _ [12, 8, 36, 37, 38, 39, 40, 41, 42, 43, 44, 45, 46, 47, 48, 49, 50, 51, 52, 53, 54, 55] (by decide +kernel) (by decide +kernel)
set_option maxRecDepth 20000 in
theorem gX5_counted_X5_pagesSet : GoodIn wsX5_counted (wsV RX5 160 RX5 yX5_pagesSet wsX5_pagesSet) := goodIn_app (goodIn_of _ (by decide +kernel)) ggX5_counted_X5_pagesSet
set_option maxRecDepth 20000 in
theorem ggX5_counted_X5_leftOut : GoodIn wsX5_counted wsX5_leftOut := goodIn_r _ [16, 1, 17, 36, 37, 38, 39, 40, 41, 42, 43, 44, 45, 46, 47, 48, 49, 50, 51, 52, 53, 54, 55] (by decide +kernel) (by decide +kernel)
set_option maxRecDepth 20000 in
theorem gX5_counted_X5_leftOut : GoodIn wsX5_counted (wsV RX5 163 RX5 yX5_leftOut wsX5_leftOut) := goodIn_app (goodIn_of _ (by decide +kernel)) ggX5_counted_X5_leftOut
set_option maxRecDepth 20000 in
theorem ggX5_counted_X5_mostBeats : GoodIn wsX5_counted wsX5_mostBeats := goodIn_r _ [21, 22, 36, 37, 38, 39, 40, 41, 42, 43, 44, 45, 46, 47, 48, 49, 50, 51, 52, 53, 54, 55] (by decide +kernel) (by decide +kernel)
set_option maxRecDepth 20000 in
theorem gX5_counted_X5_mostBeats : GoodIn wsX5_counted (wsV RX5 166 RX5 yX5_mostBeats wsX5_mostBeats) := goodIn_app (goodIn_of _ (by decide +kernel)) ggX5_counted_X5_mostBeats
set_option maxRecDepth 20000 in
theorem ggX5_counted_X5_emptyUnits : GoodIn wsX5_counted wsX5_emptyUnits := goodIn_r _ [26, 8, 27, 28, 29, 6, 30, 31, 36, 37, 38, 39, 40, 41, 42, 43, 44, 45, 46, 47, 48, 49, 50, 51, 52, 53, 54, 55] (by decide +kernel) (by decide +kernel)
set_option maxRecDepth 20000 in
theorem gX5_counted_X5_emptyUnits : GoodIn wsX5_counted (wsV RX5 169 RX5 yX5_emptyUnits wsX5_emptyUnits) := goodIn_app (goodIn_of _ (by decide +kernel)) ggX5_counted_X5_emptyUnits
set_option maxRecDepth 20000 in
theorem ggX5_counted_X5_unlike : GoodIn wsX5_counted wsX5_unlike := goodIn_r _ [35, 22, 3, 4, 5, 6, 7, 8, 36, 37, 38, 39, 40, 41, 42, 43, 44, 45, 46, 47, 48, 49, 50, 51, 52, 53, 54, 55] (by decide +kernel) (by decide +kernel)
set_option maxRecDepth 20000 in
theorem gX5_counted_X5_unlike : GoodIn wsX5_counted (wsV RX5 172 RX5 yX5_unlike wsX5_unlike) := goodIn_app (goodIn_of _ (by decide +kernel)) ggX5_counted_X5_unlike
theorem dX5_counted_0 : decode cX5_counted 0 = .ok (.iload_n 1, 1) := by decide +kernel
theorem dX5_counted_1 : decode cX5_counted 1 = .ok (.tableswitch 96 0 7 #[47, 54, 59, 69, 74, 79, 84, 89], 47) := by decide +kernel
theorem dX5_counted_48 : decode cX5_counted 48 = .ok (.aload_n 0, 1) := by decide +kernel
theorem dX5_counted_49 : decode cX5_counted 49 = .ok (.getfield 7, 3) := by decide +kernel
theorem dX5_counted_52 : decode cX5_counted 52 = .ok (.iconst 1, 1) := by decide +kernel
theorem dX5_counted_53 : decode cX5_counted 53 = .ok (.iaload, 1) := by decide +kernel
theorem dX5_counted_54 : decode cX5_counted 54 = .ok (.ireturn, 1) := by decide +kernel
theorem dX5_counted_55 : decode cX5_counted 55 = .ok (.aload_n 0, 1) := by decide +kernel
theorem dX5_counted_56 : decode cX5_counted 56 = .ok (.invokevirtual 113, 3) := by decide +kernel
theorem dX5_counted_59 : decode cX5_counted 59 = .ok (.ireturn, 1) := by decide +kernel
theorem dX5_counted_60 : decode cX5_counted 60 = .ok (.aload_n 0, 1) := by decide +kernel
theorem dX5_counted_61 : decode cX5_counted 61 = .ok (.invokevirtual 113, 3) := by decide +kernel
theorem dX5_counted_64 : decode cX5_counted 64 = .ok (.aload_n 0, 1) := by decide +kernel
theorem dX5_counted_65 : decode cX5_counted 65 = .ok (.invokevirtual 160, 3) := by decide +kernel
theorem dX5_counted_68 : decode cX5_counted 68 = .ok (.isub, 1) := by decide +kernel
theorem dX5_counted_69 : decode cX5_counted 69 = .ok (.ireturn, 1) := by decide +kernel
theorem dX5_counted_70 : decode cX5_counted 70 = .ok (.aload_n 0, 1) := by decide +kernel
theorem dX5_counted_71 : decode cX5_counted 71 = .ok (.invokevirtual 163, 3) := by decide +kernel
theorem dX5_counted_74 : decode cX5_counted 74 = .ok (.ireturn, 1) := by decide +kernel
theorem dX5_counted_75 : decode cX5_counted 75 = .ok (.aload_n 0, 1) := by decide +kernel
theorem dX5_counted_76 : decode cX5_counted 76 = .ok (.invokevirtual 166, 3) := by decide +kernel
theorem dX5_counted_79 : decode cX5_counted 79 = .ok (.ireturn, 1) := by decide +kernel
theorem dX5_counted_80 : decode cX5_counted 80 = .ok (.aload_n 0, 1) := by decide +kernel
theorem dX5_counted_81 : decode cX5_counted 81 = .ok (.invokevirtual 169, 3) := by decide +kernel
theorem dX5_counted_84 : decode cX5_counted 84 = .ok (.ireturn, 1) := by decide +kernel
theorem dX5_counted_85 : decode cX5_counted 85 = .ok (.aload_n 0, 1) := by decide +kernel
theorem dX5_counted_86 : decode cX5_counted 86 = .ok (.invokevirtual 172, 3) := by decide +kernel
theorem dX5_counted_89 : decode cX5_counted 89 = .ok (.ireturn, 1) := by decide +kernel
theorem dX5_counted_90 : decode cX5_counted 90 = .ok (.aload_n 0, 1) := by decide +kernel
theorem dX5_counted_91 : decode cX5_counted 91 = .ok (.getfield 7, 3) := by decide +kernel
theorem dX5_counted_94 : decode cX5_counted 94 = .ok (.iconst 0, 1) := by decide +kernel
theorem dX5_counted_95 : decode cX5_counted 95 = .ok (.iaload, 1) := by decide +kernel
theorem dX5_counted_96 : decode cX5_counted 96 = .ok (.ireturn, 1) := by decide +kernel
theorem dX5_counted_97 : decode cX5_counted 97 = .ok (.aload_n 0, 1) := by decide +kernel
theorem dX5_counted_98 : decode cX5_counted 98 = .ok (.getfield 44, 3) := by decide +kernel
theorem dX5_counted_101 : decode cX5_counted 101 = .ok (.ireturn, 1) := by decide +kernel
set_option maxRecDepth 20000 in
theorem ggX5_count_X5_in : GoodIn wsX5_count wsX5_in := goodIn_r _ [5] (by decide +kernel) (by decide +kernel)
set_option maxRecDepth 20000 in
theorem gX5_count_X5_in : GoodIn wsX5_count (va_wsS RX5 89 yX5_in wsX5_in) := goodIn_app (goodIn_of _ (by decide +kernel)) ggX5_count_X5_in
set_option maxRecDepth 20000 in
theorem ggX5_count_X5_pour : GoodIn wsX5_count wsX5_pour := goodIn_r _ [9, 10, 11, 12, 13, 14, 15, 16, 17, 18, 19, 4, 20, 21, 22, 23, 24, 25, 26, 27, 28, 29, 30, 31, 32, 33, 34, 35, 36, 37, 38, 39, 40, 41, 42, 43, 44, 45, 46, 47, 48, 49, 50, 51, 85, 86, 87, 88, 89, 90, 91, 92, 93, 94, 95, 96, 97, 98, 99, 100, 101, 102, 103, 104] (by decide +kernel) (by decide +kernel)
set_option maxRecDepth 20000 in
theorem gX5_count_X5_pour : GoodIn wsX5_count (wsV RX5 110 RX5 yX5_pour wsX5_pour) := goodIn_app (goodIn_of _ (by decide +kernel)) ggX5_count_X5_pour
set_option maxRecDepth 20000 in
theorem ggX5_count_X5_counted : GoodIn wsX5_count wsX5_counted := goodIn_r _ [55, 13, 56, 57, 58, 59, 4, 60, 12, 61, 62, 63, 64, 65, 66, 67, 68, 14, 69, 70, 71, 72, 11, 73, 74, 75, 76, 77, 78, 79, 80, 10, 81, 82, 83, 84, 85, 86, 87, 88, 89, 90, 91, 92, 93, 94, 95, 96, 97, 98, 99, 100, 101, 102, 103, 104] (by decide +kernel) (by decide +kernel)
set_option maxRecDepth 20000 in
theorem gX5_count_X5_counted : GoodIn wsX5_count (wsV RX5 175 RX5 yX5_counted wsX5_counted) := goodIn_app (goodIn_of _ (by decide +kernel)) ggX5_count_X5_counted
theorem dX5_count_0 : decode cX5_count 0 = .ok (.aload_n 0, 1) := by decide +kernel
theorem dX5_count_1 : decode cX5_count 1 = .ok (.iload_n 1, 1) := by decide +kernel
theorem dX5_count_2 : decode cX5_count 2 = .ok (.iconst 0, 1) := by decide +kernel
theorem dX5_count_3 : decode cX5_count 3 = .ok (.bipush 8, 2) := by decide +kernel
theorem dX5_count_5 : decode cX5_count 5 = .ok (.invokestatic 89, 3) := by decide +kernel
theorem dX5_count_8 : decode cX5_count 8 = .ok (.ifCond .eq 7, 3) := by decide +kernel
theorem dX5_count_11 : decode cX5_count 11 = .ok (.iconst 0, 1) := by decide +kernel
theorem dX5_count_12 : decode cX5_count 12 = .ok (.goto 4, 3) := by decide +kernel
theorem dX5_count_15 : decode cX5_count 15 = .ok (.iconst 1, 1) := by decide +kernel
theorem dX5_count_16 : decode cX5_count 16 = .ok (.putfield 40, 3) := by decide +kernel
theorem dX5_count_19 : decode cX5_count 19 = .ok (.aload_n 0, 1) := by decide +kernel
theorem dX5_count_20 : decode cX5_count 20 = .ok (.getfield 40, 3) := by decide +kernel
theorem dX5_count_23 : decode cX5_count 23 = .ok (.ifCond .le 5, 3) := by decide +kernel
theorem dX5_count_26 : decode cX5_count 26 = .ok (.iconst 0, 1) := by decide +kernel
theorem dX5_count_27 : decode cX5_count 27 = .ok (.ireturn, 1) := by decide +kernel
theorem dX5_count_28 : decode cX5_count 28 = .ok (.aload_n 0, 1) := by decide +kernel
theorem dX5_count_29 : decode cX5_count 29 = .ok (.invokevirtual 110, 3) := by decide +kernel
theorem dX5_count_32 : decode cX5_count 32 = .ok (.aload_n 0, 1) := by decide +kernel
theorem dX5_count_33 : decode cX5_count 33 = .ok (.iload_n 1, 1) := by decide +kernel
theorem dX5_count_34 : decode cX5_count 34 = .ok (.invokevirtual 175, 3) := by decide +kernel
theorem dX5_count_37 : decode cX5_count 37 = .ok (.ireturn, 1) := by decide +kernel
set_option maxRecDepth 20000 in
theorem ggX5_exchange_X5_of : GoodIn wsX5_exchange wsX5_of := goodIn_r _ [5, 6, 11, 12, 13, 14, 15, 16, 17, 18, 19, 20, 21, 22, 23, 24, 25, 26, 27, 28, 29, 30] (by decide +kernel) (by decide +kernel)
set_option maxRecDepth 20000 in
theorem gX5_exchange_X5_of : GoodIn wsX5_exchange (wsV RX5 60 RX5 yX5_of wsX5_of) := goodIn_app (goodIn_of _ (by decide +kernel)) ggX5_exchange_X5_of
set_option maxRecDepth 20000 in
theorem ggX5_exchange_X5_lay : GoodIn wsX5_exchange wsX5_lay := goodIn_r _ [10, 6, 11, 12, 13, 14, 15, 16, 17, 18, 19, 20, 21, 22, 23, 24, 25, 26, 27, 28, 29, 30] (by decide +kernel) (by decide +kernel)
set_option maxRecDepth 20000 in
theorem gX5_exchange_X5_lay : GoodIn wsX5_exchange (wsV RX5 93 RX5 yX5_lay wsX5_lay) := goodIn_app (goodIn_of _ (by decide +kernel)) ggX5_exchange_X5_lay
theorem dX5_exchange_0 : decode cX5_exchange 0 = .ok (.iconst 0, 1) := by decide +kernel
theorem dX5_exchange_1 : decode cX5_exchange 1 = .ok (.istore_n 2, 1) := by decide +kernel
theorem dX5_exchange_2 : decode cX5_exchange 2 = .ok (.iload_n 2, 1) := by decide +kernel
theorem dX5_exchange_3 : decode cX5_exchange 3 = .ok (.iconst 3, 1) := by decide +kernel
theorem dX5_exchange_4 : decode cX5_exchange 4 = .ok (.if_icmp .ge 39, 3) := by decide +kernel
theorem dX5_exchange_7 : decode cX5_exchange 7 = .ok (.aload_n 0, 1) := by decide +kernel
theorem dX5_exchange_8 : decode cX5_exchange 8 = .ok (.iload_n 1, 1) := by decide +kernel
theorem dX5_exchange_9 : decode cX5_exchange 9 = .ok (.iload_n 2, 1) := by decide +kernel
theorem dX5_exchange_10 : decode cX5_exchange 10 = .ok (.invokevirtual 60, 3) := by decide +kernel
theorem dX5_exchange_13 : decode cX5_exchange 13 = .ok (.istore_n 3, 1) := by decide +kernel
theorem dX5_exchange_14 : decode cX5_exchange 14 = .ok (.aload_n 0, 1) := by decide +kernel
theorem dX5_exchange_15 : decode cX5_exchange 15 = .ok (.iload_n 1, 1) := by decide +kernel
theorem dX5_exchange_16 : decode cX5_exchange 16 = .ok (.iload_n 2, 1) := by decide +kernel
theorem dX5_exchange_17 : decode cX5_exchange 17 = .ok (.aload_n 0, 1) := by decide +kernel
theorem dX5_exchange_18 : decode cX5_exchange 18 = .ok (.iload_n 1, 1) := by decide +kernel
theorem dX5_exchange_19 : decode cX5_exchange 19 = .ok (.iconst 1, 1) := by decide +kernel
theorem dX5_exchange_20 : decode cX5_exchange 20 = .ok (.iadd, 1) := by decide +kernel
theorem dX5_exchange_21 : decode cX5_exchange 21 = .ok (.iload_n 2, 1) := by decide +kernel
theorem dX5_exchange_22 : decode cX5_exchange 22 = .ok (.invokevirtual 60, 3) := by decide +kernel
theorem dX5_exchange_25 : decode cX5_exchange 25 = .ok (.invokevirtual 93, 3) := by decide +kernel
theorem dX5_exchange_28 : decode cX5_exchange 28 = .ok (.aload_n 0, 1) := by decide +kernel
theorem dX5_exchange_29 : decode cX5_exchange 29 = .ok (.iload_n 1, 1) := by decide +kernel
theorem dX5_exchange_30 : decode cX5_exchange 30 = .ok (.iconst 1, 1) := by decide +kernel
theorem dX5_exchange_31 : decode cX5_exchange 31 = .ok (.iadd, 1) := by decide +kernel
theorem dX5_exchange_32 : decode cX5_exchange 32 = .ok (.iload_n 2, 1) := by decide +kernel
theorem dX5_exchange_33 : decode cX5_exchange 33 = .ok (.iload_n 3, 1) := by decide +kernel
theorem dX5_exchange_34 : decode cX5_exchange 34 = .ok (.invokevirtual 93, 3) := by decide +kernel
theorem dX5_exchange_37 : decode cX5_exchange 37 = .ok (.iinc 2 1, 3) := by decide +kernel
theorem dX5_exchange_40 : decode cX5_exchange 40 = .ok (.goto (-38), 3) := by decide +kernel
theorem dX5_exchange_43 : decode cX5_exchange 43 = .ok (.return_, 1) := by decide +kernel
set_option maxRecDepth 20000 in
theorem ggX5_exchanged_X5_exchange : GoodIn wsX5_exchanged wsX5_exchange := goodIn_r _ [5, 6, 7, 8, 4, 9, 10, 11, 12, 13, 14, 68, 69, 70, 71, 72, 73, 74, 75, 76, 77, 78, 79, 80, 81, 82, 83, 84, 85, 86, 87] (by decide +kernel) (by decide +kernel)
set_option maxRecDepth 20000 in
theorem gX5_exchanged_X5_exchange : GoodIn wsX5_exchanged (wsV RX5 178 RX5 yX5_exchange wsX5_exchange) := goodIn_app (goodIn_of _ (by decide +kernel)) ggX5_exchanged_X5_exchange
set_option maxRecDepth 20000 in
theorem ggX5_exchanged_X5_pour : GoodIn wsX5_exchanged wsX5_pour := goodIn_r _ [18, 19, 20, 21, 10, 22, 23, 24, 25, 26, 27, 4, 28, 29, 30, 31, 6, 7, 8, 9, 32, 33, 34, 35, 36, 37, 38, 39, 40, 41, 42, 43, 44, 45, 46, 47, 48, 49, 50, 51, 52, 53, 54, 55, 68, 69, 70, 71, 72, 73, 74, 75, 76, 77, 78, 79, 80, 81, 82, 83, 84, 85, 86, 87] (by decide +kernel) (by decide +kernel)
set_option maxRecDepth 20000 in
theorem gX5_exchanged_X5_pour : GoodIn wsX5_exchanged (wsV RX5 110 RX5 yX5_pour wsX5_pour) := goodIn_app (goodIn_of _ (by decide +kernel)) ggX5_exchanged_X5_pour
set_option maxRecDepth 20000 in
theorem ggX5_exchanged_X5_used : GoodIn wsX5_exchanged wsX5_used := goodIn_r _ [59, 21, 68, 69, 70, 71, 72, 73, 74, 75, 76, 77, 78, 79, 80, 81, 82, 83, 84, 85, 86, 87] (by decide +kernel) (by decide +kernel)
set_option maxRecDepth 20000 in
theorem gX5_exchanged_X5_used : GoodIn wsX5_exchanged (wsV RX5 113 RX5 yX5_used wsX5_used) := goodIn_app (goodIn_of _ (by decide +kernel)) ggX5_exchanged_X5_used
set_option maxRecDepth 20000 in
theorem ggX5_exchanged_X5_emptyUnits : GoodIn wsX5_exchanged wsX5_emptyUnits := goodIn_r _ [63, 21, 64, 65, 66, 4, 67, 19, 68, 69, 70, 71, 72, 73, 74, 75, 76, 77, 78, 79, 80, 81, 82, 83, 84, 85, 86, 87] (by decide +kernel) (by decide +kernel)
set_option maxRecDepth 20000 in
theorem gX5_exchanged_X5_emptyUnits : GoodIn wsX5_exchanged (wsV RX5 169 RX5 yX5_emptyUnits wsX5_emptyUnits) := goodIn_app (goodIn_of _ (by decide +kernel)) ggX5_exchanged_X5_emptyUnits
theorem dX5_exchanged_0 : decode cX5_exchanged 0 = .ok (.aload_n 0, 1) := by decide +kernel
theorem dX5_exchanged_1 : decode cX5_exchanged 1 = .ok (.iload_n 1, 1) := by decide +kernel
theorem dX5_exchanged_2 : decode cX5_exchanged 2 = .ok (.invokevirtual 178, 3) := by decide +kernel
theorem dX5_exchanged_5 : decode cX5_exchanged 5 = .ok (.aload_n 0, 1) := by decide +kernel
theorem dX5_exchanged_6 : decode cX5_exchanged 6 = .ok (.invokevirtual 110, 3) := by decide +kernel
theorem dX5_exchanged_9 : decode cX5_exchanged 9 = .ok (.iload_n 2, 1) := by decide +kernel
theorem dX5_exchanged_10 : decode cX5_exchanged 10 = .ok (.ifCond .ne 10, 3) := by decide +kernel
theorem dX5_exchanged_13 : decode cX5_exchanged 13 = .ok (.aload_n 0, 1) := by decide +kernel
theorem dX5_exchanged_14 : decode cX5_exchanged 14 = .ok (.invokevirtual 113, 3) := by decide +kernel
theorem dX5_exchanged_17 : decode cX5_exchanged 17 = .ok (.goto 7, 3) := by decide +kernel
theorem dX5_exchanged_20 : decode cX5_exchanged 20 = .ok (.aload_n 0, 1) := by decide +kernel
theorem dX5_exchanged_21 : decode cX5_exchanged 21 = .ok (.invokevirtual 169, 3) := by decide +kernel
theorem dX5_exchanged_24 : decode cX5_exchanged 24 = .ok (.istore_n 3, 1) := by decide +kernel
theorem dX5_exchanged_25 : decode cX5_exchanged 25 = .ok (.aload_n 0, 1) := by decide +kernel
theorem dX5_exchanged_26 : decode cX5_exchanged 26 = .ok (.iload_n 1, 1) := by decide +kernel
theorem dX5_exchanged_27 : decode cX5_exchanged 27 = .ok (.invokevirtual 178, 3) := by decide +kernel
theorem dX5_exchanged_30 : decode cX5_exchanged 30 = .ok (.iload_n 3, 1) := by decide +kernel
theorem dX5_exchanged_31 : decode cX5_exchanged 31 = .ok (.ireturn, 1) := by decide +kernel
set_option maxRecDepth 20000 in
theorem ggX5_ifExchanged_X5_isPanel : GoodIn wsX5_ifExchanged wsX5_isPanel := goodIn_r _ [6, 7, 80, 81, 82, 83, 84, 85, 86, 87, 88, 89, 90, 91, 92, 93, 94, 95, 96, 97, 98, 99] (by decide +kernel) (by decide +kernel)
set_option maxRecDepth 20000 in
theorem gX5_ifExchanged_X5_isPanel : GoodIn wsX5_ifExchanged (wsV RX5 107 RX5 yX5_isPanel wsX5_isPanel) := goodIn_app (goodIn_of _ (by decide +kernel)) ggX5_ifExchanged_X5_isPanel
set_option maxRecDepth 20000 in
theorem ggX5_ifExchanged_X5_in : GoodIn wsX5_ifExchanged wsX5_in := goodIn_r _ [10] (by decide +kernel) (by decide +kernel)
set_option maxRecDepth 20000 in
theorem gX5_ifExchanged_X5_in : GoodIn wsX5_ifExchanged (va_wsS RX5 89 yX5_in wsX5_in) := goodIn_app (goodIn_of _ (by decide +kernel)) ggX5_ifExchanged_X5_in
set_option maxRecDepth 20000 in
theorem ggX5_ifExchanged_X5_exchanged : GoodIn wsX5_ifExchanged wsX5_exchanged := goodIn_r _ [14, 15, 16, 17, 5, 18, 19, 20, 21, 22, 7, 23, 24, 25, 26, 27, 28, 29, 30, 31, 32, 33, 34, 35, 36, 37, 38, 39, 40, 41, 42, 43, 44, 45, 46, 47, 48, 49, 50, 51, 52, 53, 54, 55, 56, 57, 58, 59, 60, 61, 62, 63, 64, 65, 66, 67, 68, 69, 70, 71, 72, 73, 74, 75, 76, 77, 78, 79, 80, 81, 82, 83, 84, 85, 86, 87, 88, 89, 90, 91, 92, 93, 94, 95, 96, 97, 98, 99] (by decide +kernel) (by decide +kernel)
set_option maxRecDepth 20000 in
theorem gX5_ifExchanged_X5_exchanged : GoodIn wsX5_ifExchanged (wsV RX5 181 RX5 yX5_exchanged wsX5_exchanged) := goodIn_app (goodIn_of _ (by decide +kernel)) ggX5_ifExchanged_X5_exchanged
theorem dX5_ifExchanged_0 : decode cX5_ifExchanged 0 = .ok (.aload_n 0, 1) := by decide +kernel
theorem dX5_ifExchanged_1 : decode cX5_ifExchanged 1 = .ok (.aload_n 0, 1) := by decide +kernel
theorem dX5_ifExchanged_2 : decode cX5_ifExchanged 2 = .ok (.iload_n 1, 1) := by decide +kernel
theorem dX5_ifExchanged_3 : decode cX5_ifExchanged 3 = .ok (.invokevirtual 107, 3) := by decide +kernel
theorem dX5_ifExchanged_6 : decode cX5_ifExchanged 6 = .ok (.ifCond .eq 13, 3) := by decide +kernel
theorem dX5_ifExchanged_9 : decode cX5_ifExchanged 9 = .ok (.aload_n 0, 1) := by decide +kernel
theorem dX5_ifExchanged_10 : decode cX5_ifExchanged 10 = .ok (.iload_n 1, 1) := by decide +kernel
theorem dX5_ifExchanged_11 : decode cX5_ifExchanged 11 = .ok (.iconst 1, 1) := by decide +kernel
theorem dX5_ifExchanged_12 : decode cX5_ifExchanged 12 = .ok (.iadd, 1) := by decide +kernel
theorem dX5_ifExchanged_13 : decode cX5_ifExchanged 13 = .ok (.invokevirtual 107, 3) := by decide +kernel
theorem dX5_ifExchanged_16 : decode cX5_ifExchanged 16 = .ok (.ifCond .ne 7, 3) := by decide +kernel
theorem dX5_ifExchanged_19 : decode cX5_ifExchanged 19 = .ok (.iconst 1, 1) := by decide +kernel
theorem dX5_ifExchanged_20 : decode cX5_ifExchanged 20 = .ok (.goto 17, 3) := by decide +kernel
theorem dX5_ifExchanged_23 : decode cX5_ifExchanged 23 = .ok (.iload_n 2, 1) := by decide +kernel
theorem dX5_ifExchanged_24 : decode cX5_ifExchanged 24 = .ok (.iconst 0, 1) := by decide +kernel
theorem dX5_ifExchanged_25 : decode cX5_ifExchanged 25 = .ok (.iconst 1, 1) := by decide +kernel
theorem dX5_ifExchanged_26 : decode cX5_ifExchanged 26 = .ok (.invokestatic 89, 3) := by decide +kernel
theorem dX5_ifExchanged_29 : decode cX5_ifExchanged 29 = .ok (.ifCond .eq 7, 3) := by decide +kernel
theorem dX5_ifExchanged_32 : decode cX5_ifExchanged 32 = .ok (.iconst 0, 1) := by decide +kernel
theorem dX5_ifExchanged_33 : decode cX5_ifExchanged 33 = .ok (.goto 4, 3) := by decide +kernel
theorem dX5_ifExchanged_36 : decode cX5_ifExchanged 36 = .ok (.iconst 2, 1) := by decide +kernel
theorem dX5_ifExchanged_37 : decode cX5_ifExchanged 37 = .ok (.putfield 40, 3) := by decide +kernel
theorem dX5_ifExchanged_40 : decode cX5_ifExchanged 40 = .ok (.aload_n 0, 1) := by decide +kernel
theorem dX5_ifExchanged_41 : decode cX5_ifExchanged 41 = .ok (.getfield 40, 3) := by decide +kernel
theorem dX5_ifExchanged_44 : decode cX5_ifExchanged 44 = .ok (.ifCond .le 7, 3) := by decide +kernel
theorem dX5_ifExchanged_47 : decode cX5_ifExchanged 47 = .ok (.iconst 0, 1) := by decide +kernel
theorem dX5_ifExchanged_48 : decode cX5_ifExchanged 48 = .ok (.goto 9, 3) := by decide +kernel
theorem dX5_ifExchanged_51 : decode cX5_ifExchanged 51 = .ok (.aload_n 0, 1) := by decide +kernel
theorem dX5_ifExchanged_52 : decode cX5_ifExchanged 52 = .ok (.iload_n 1, 1) := by decide +kernel
theorem dX5_ifExchanged_53 : decode cX5_ifExchanged 53 = .ok (.iload_n 2, 1) := by decide +kernel
theorem dX5_ifExchanged_54 : decode cX5_ifExchanged 54 = .ok (.invokevirtual 181, 3) := by decide +kernel
theorem dX5_ifExchanged_57 : decode cX5_ifExchanged 57 = .ok (.ireturn, 1) := by decide +kernel
set_option maxRecDepth 20000 in
theorem ggX5_least_X5_pour : GoodIn wsX5_least wsX5_pour := goodIn_r _ [6, 7, 8, 9, 1, 10, 11, 12, 13, 14, 15, 5, 16, 17, 18, 19, 20, 21, 22, 23, 24, 25, 26, 27, 28, 29, 30, 31, 32, 33, 34, 35, 36, 37, 38, 39, 40, 41, 42, 43, 44, 45, 46, 47, 56, 57, 58, 59, 60, 61, 62, 63, 64, 65, 66, 67, 68, 69, 70, 71, 72, 73, 74, 75] (by decide +kernel) (by decide +kernel)
set_option maxRecDepth 20000 in
theorem gX5_least_X5_pour : GoodIn wsX5_least (wsV RX5 110 RX5 yX5_pour wsX5_pour) := goodIn_app (goodIn_of _ (by decide +kernel)) ggX5_least_X5_pour
set_option maxRecDepth 20000 in
theorem ggX5_least_X5_used : GoodIn wsX5_least wsX5_used := goodIn_r _ [51, 9, 56, 57, 58, 59, 60, 61, 62, 63, 64, 65, 66, 67, 68, 69, 70, 71, 72, 73, 74, 75] (by decide +kernel) (by decide +kernel)
set_option maxRecDepth 20000 in
theorem gX5_least_X5_used : GoodIn wsX5_least (wsV RX5 113 RX5 yX5_used wsX5_used) := goodIn_app (goodIn_of _ (by decide +kernel)) ggX5_least_X5_used
set_option maxRecDepth 20000 in
theorem ggX5_least_X5_leftOut : GoodIn wsX5_least wsX5_leftOut := goodIn_r _ [55, 1, 10, 56, 57, 58, 59, 60, 61, 62, 63, 64, 65, 66, 67, 68, 69, 70, 71, 72, 73, 74, 75] (by decide +kernel) (by decide +kernel)
set_option maxRecDepth 20000 in
theorem gX5_least_X5_leftOut : GoodIn wsX5_least (wsV RX5 163 RX5 yX5_leftOut wsX5_leftOut) := goodIn_app (goodIn_of _ (by decide +kernel)) ggX5_least_X5_leftOut
theorem dX5_least_0 : decode cX5_least 0 = .ok (.aload_n 0, 1) := by decide +kernel
theorem dX5_least_1 : decode cX5_least 1 = .ok (.getfield 7, 3) := by decide +kernel
theorem dX5_least_4 : decode cX5_least 4 = .ok (.iconst 0, 1) := by decide +kernel
theorem dX5_least_5 : decode cX5_least 5 = .ok (.iaload, 1) := by decide +kernel
theorem dX5_least_6 : decode cX5_least 6 = .ok (.istore_n 1, 1) := by decide +kernel
theorem dX5_least_7 : decode cX5_least 7 = .ok (.aload_n 0, 1) := by decide +kernel
theorem dX5_least_8 : decode cX5_least 8 = .ok (.invokevirtual 110, 3) := by decide +kernel
theorem dX5_least_11 : decode cX5_least 11 = .ok (.aload_n 0, 1) := by decide +kernel
theorem dX5_least_12 : decode cX5_least 12 = .ok (.invokevirtual 113, 3) := by decide +kernel
theorem dX5_least_15 : decode cX5_least 15 = .ok (.istore_n 2, 1) := by decide +kernel
theorem dX5_least_16 : decode cX5_least 16 = .ok (.aload_n 0, 1) := by decide +kernel
theorem dX5_least_17 : decode cX5_least 17 = .ok (.invokevirtual 163, 3) := by decide +kernel
theorem dX5_least_20 : decode cX5_least 20 = .ok (.istore_n 3, 1) := by decide +kernel
theorem dX5_least_21 : decode cX5_least 21 = .ok (.aload_n 0, 1) := by decide +kernel
theorem dX5_least_22 : decode cX5_least 22 = .ok (.getfield 7, 3) := by decide +kernel
theorem dX5_least_25 : decode cX5_least 25 = .ok (.iconst 0, 1) := by decide +kernel
theorem dX5_least_26 : decode cX5_least 26 = .ok (.bipush 8, 2) := by decide +kernel
theorem dX5_least_28 : decode cX5_least 28 = .ok (.iastore, 1) := by decide +kernel
theorem dX5_least_29 : decode cX5_least 29 = .ok (.iconst 0, 1) := by decide +kernel
theorem dX5_least_30 : decode cX5_least 30 = .ok (.istore 4, 2) := by decide +kernel
theorem dX5_least_32 : decode cX5_least 32 = .ok (.iload 4, 2) := by decide +kernel
theorem dX5_least_34 : decode cX5_least 34 = .ok (.ifCond .ne 43, 3) := by decide +kernel
theorem dX5_least_37 : decode cX5_least 37 = .ok (.aload_n 0, 1) := by decide +kernel
theorem dX5_least_38 : decode cX5_least 38 = .ok (.getfield 7, 3) := by decide +kernel
theorem dX5_least_41 : decode cX5_least 41 = .ok (.iconst 0, 1) := by decide +kernel
theorem dX5_least_42 : decode cX5_least 42 = .ok (.dup2, 1) := by decide +kernel
theorem dX5_least_43 : decode cX5_least 43 = .ok (.iaload, 1) := by decide +kernel
theorem dX5_least_44 : decode cX5_least 44 = .ok (.iconst 1, 1) := by decide +kernel
theorem dX5_least_45 : decode cX5_least 45 = .ok (.iadd, 1) := by decide +kernel
theorem dX5_least_46 : decode cX5_least 46 = .ok (.iastore, 1) := by decide +kernel
theorem dX5_least_47 : decode cX5_least 47 = .ok (.aload_n 0, 1) := by decide +kernel
theorem dX5_least_48 : decode cX5_least 48 = .ok (.invokevirtual 110, 3) := by decide +kernel
theorem dX5_least_51 : decode cX5_least 51 = .ok (.aload_n 0, 1) := by decide +kernel
theorem dX5_least_52 : decode cX5_least 52 = .ok (.invokevirtual 113, 3) := by decide +kernel
theorem dX5_least_55 : decode cX5_least 55 = .ok (.iload_n 2, 1) := by decide +kernel
theorem dX5_least_56 : decode cX5_least 56 = .ok (.if_icmp .gt 15, 3) := by decide +kernel
theorem dX5_least_59 : decode cX5_least 59 = .ok (.aload_n 0, 1) := by decide +kernel
theorem dX5_least_60 : decode cX5_least 60 = .ok (.invokevirtual 163, 3) := by decide +kernel
theorem dX5_least_63 : decode cX5_least 63 = .ok (.iload_n 3, 1) := by decide +kernel
theorem dX5_least_64 : decode cX5_least 64 = .ok (.if_icmp .gt 7, 3) := by decide +kernel
theorem dX5_least_67 : decode cX5_least 67 = .ok (.iconst 1, 1) := by decide +kernel
theorem dX5_least_68 : decode cX5_least 68 = .ok (.goto 4, 3) := by decide +kernel
theorem dX5_least_71 : decode cX5_least 71 = .ok (.iconst 0, 1) := by decide +kernel
theorem dX5_least_72 : decode cX5_least 72 = .ok (.istore 4, 2) := by decide +kernel
theorem dX5_least_74 : decode cX5_least 74 = .ok (.goto (-42), 3) := by decide +kernel
theorem dX5_least_77 : decode cX5_least 77 = .ok (.aload_n 0, 1) := by decide +kernel
theorem dX5_least_78 : decode cX5_least 78 = .ok (.getfield 7, 3) := by decide +kernel
theorem dX5_least_81 : decode cX5_least 81 = .ok (.iconst 0, 1) := by decide +kernel
theorem dX5_least_82 : decode cX5_least 82 = .ok (.iaload, 1) := by decide +kernel
theorem dX5_least_83 : decode cX5_least 83 = .ok (.istore 5, 2) := by decide +kernel
theorem dX5_least_85 : decode cX5_least 85 = .ok (.aload_n 0, 1) := by decide +kernel
theorem dX5_least_86 : decode cX5_least 86 = .ok (.getfield 7, 3) := by decide +kernel
theorem dX5_least_89 : decode cX5_least 89 = .ok (.iconst 0, 1) := by decide +kernel
theorem dX5_least_90 : decode cX5_least 90 = .ok (.iload_n 1, 1) := by decide +kernel
theorem dX5_least_91 : decode cX5_least 91 = .ok (.iastore, 1) := by decide +kernel
theorem dX5_least_92 : decode cX5_least 92 = .ok (.iload 5, 2) := by decide +kernel
theorem dX5_least_94 : decode cX5_least 94 = .ok (.ireturn, 1) := by decide +kernel
set_option maxRecDepth 20000 in
theorem ggX5_leastSetting_X5_least : GoodIn wsX5_leastSetting wsX5_least := goodIn_r _ [6, 7, 8, 9, 10, 5, 11, 12, 13, 14, 15, 16, 17, 18, 19, 20, 21, 22, 23, 24, 25, 26, 27, 28, 29, 30, 31, 32, 33, 34, 35, 36, 37, 38, 39, 40, 41, 42, 43, 44, 45, 46, 47, 48, 49, 50, 51, 52, 53, 54, 55, 56, 57, 58, 59, 60, 61, 62, 63, 64, 65, 66, 67, 68, 69, 70, 71, 72, 73, 74, 75, 76, 77, 78, 79, 80] (by decide +kernel) (by decide +kernel)
set_option maxRecDepth 20000 in
theorem gX5_leastSetting_X5_least : GoodIn wsX5_leastSetting (wsV RX5 184 RX5 yX5_least wsX5_least) := goodIn_app (goodIn_of _ (by decide +kernel)) ggX5_leastSetting_X5_least
theorem dX5_leastSetting_0 : decode cX5_leastSetting 0 = .ok (.aload_n 0, 1) := by decide +kernel
theorem dX5_leastSetting_1 : decode cX5_leastSetting 1 = .ok (.iconst 0, 1) := by decide +kernel
theorem dX5_leastSetting_2 : decode cX5_leastSetting 2 = .ok (.putfield 40, 3) := by decide +kernel
theorem dX5_leastSetting_5 : decode cX5_leastSetting 5 = .ok (.aload_n 0, 1) := by decide +kernel
theorem dX5_leastSetting_6 : decode cX5_leastSetting 6 = .ok (.invokevirtual 184, 3) := by decide +kernel
theorem dX5_leastSetting_9 : decode cX5_leastSetting 9 = .ok (.ireturn, 1) := by decide +kernel
set_option maxRecDepth 20000 in
theorem ggX5_widthFor_X5_of : GoodIn wsX5_widthFor wsX5_of := goodIn_r _ [6, 7, 69, 70, 71, 72, 73, 74, 75, 76, 77, 78, 79, 80, 81, 82, 83, 84, 85, 86, 87, 88] (by decide +kernel) (by decide +kernel)
set_option maxRecDepth 20000 in
theorem gX5_widthFor_X5_of : GoodIn wsX5_widthFor (wsV RX5 60 RX5 yX5_of wsX5_of) := goodIn_app (goodIn_of _ (by decide +kernel)) ggX5_widthFor_X5_of
set_option maxRecDepth 20000 in
theorem ggX5_widthFor_X5_lay : GoodIn wsX5_widthFor wsX5_lay := goodIn_r _ [11, 7, 69, 70, 71, 72, 73, 74, 75, 76, 77, 78, 79, 80, 81, 82, 83, 84, 85, 86, 87, 88] (by decide +kernel) (by decide +kernel)
set_option maxRecDepth 20000 in
theorem gX5_widthFor_X5_lay : GoodIn wsX5_widthFor (wsV RX5 93 RX5 yX5_lay wsX5_lay) := goodIn_app (goodIn_of _ (by decide +kernel)) ggX5_widthFor_X5_lay
set_option maxRecDepth 20000 in
theorem ggX5_widthFor_X5_pour : GoodIn wsX5_widthFor wsX5_pour := goodIn_r _ [15, 16, 17, 18, 7, 19, 20, 21, 22, 23, 24, 5, 25, 26, 27, 28, 2, 3, 4, 6, 29, 30, 31, 32, 33, 34, 35, 36, 37, 38, 39, 40, 41, 42, 43, 44, 45, 46, 47, 48, 49, 50, 51, 52, 69, 70, 71, 72, 73, 74, 75, 76, 77, 78, 79, 80, 81, 82, 83, 84, 85, 86, 87, 88] (by decide +kernel) (by decide +kernel)
set_option maxRecDepth 20000 in
theorem gX5_widthFor_X5_pour : GoodIn wsX5_widthFor (wsV RX5 110 RX5 yX5_pour wsX5_pour) := goodIn_app (goodIn_of _ (by decide +kernel)) ggX5_widthFor_X5_pour
set_option maxRecDepth 20000 in
theorem ggX5_widthFor_X5_leftOut : GoodIn wsX5_widthFor wsX5_leftOut := goodIn_r _ [56, 7, 19, 69, 70, 71, 72, 73, 74, 75, 76, 77, 78, 79, 80, 81, 82, 83, 84, 85, 86, 87, 88] (by decide +kernel) (by decide +kernel)
set_option maxRecDepth 20000 in
theorem gX5_widthFor_X5_leftOut : GoodIn wsX5_widthFor (wsV RX5 163 RX5 yX5_leftOut wsX5_leftOut) := goodIn_app (goodIn_of _ (by decide +kernel)) ggX5_widthFor_X5_leftOut
set_option maxRecDepth 20000 in
theorem ggX5_widthFor_X5_used : GoodIn wsX5_widthFor wsX5_used := goodIn_r _ [60, 18, 69, 70, 71, 72, 73, 74, 75, 76, 77, 78, 79, 80, 81, 82, 83, 84, 85, 86, 87, 88] (by decide +kernel) (by decide +kernel)
set_option maxRecDepth 20000 in
theorem gX5_widthFor_X5_used : GoodIn wsX5_widthFor (wsV RX5 113 RX5 yX5_used wsX5_used) := goodIn_app (goodIn_of _ (by decide +kernel)) ggX5_widthFor_X5_used
set_option maxRecDepth 20000 in
theorem ggX5_widthFor_X5_emptyUnits : GoodIn wsX5_widthFor wsX5_emptyUnits := goodIn_r _ [64, 18, 65, 66, 67, 5, 68, 16, 69, 70, 71, 72, 73, 74, 75, 76, 77, 78, 79, 80, 81, 82, 83, 84, 85, 86, 87, 88] (by decide +kernel) (by decide +kernel)
set_option maxRecDepth 20000 in
theorem gX5_widthFor_X5_emptyUnits : GoodIn wsX5_widthFor (wsV RX5 169 RX5 yX5_emptyUnits wsX5_emptyUnits) := goodIn_app (goodIn_of _ (by decide +kernel)) ggX5_widthFor_X5_emptyUnits
theorem dX5_widthFor_0 : decode cX5_widthFor 0 = .ok (.aload_n 0, 1) := by decide +kernel
theorem dX5_widthFor_1 : decode cX5_widthFor 1 = .ok (.iload_n 1, 1) := by decide +kernel
theorem dX5_widthFor_2 : decode cX5_widthFor 2 = .ok (.iconst 1, 1) := by decide +kernel
theorem dX5_widthFor_3 : decode cX5_widthFor 3 = .ok (.invokevirtual 60, 3) := by decide +kernel
theorem dX5_widthFor_6 : decode cX5_widthFor 6 = .ok (.istore_n 2, 1) := by decide +kernel
theorem dX5_widthFor_7 : decode cX5_widthFor 7 = .ok (.iconst (-1), 1) := by decide +kernel
theorem dX5_widthFor_8 : decode cX5_widthFor 8 = .ok (.istore_n 3, 1) := by decide +kernel
theorem dX5_widthFor_9 : decode cX5_widthFor 9 = .ok (.iconst 0, 1) := by decide +kernel
theorem dX5_widthFor_10 : decode cX5_widthFor 10 = .ok (.istore 4, 2) := by decide +kernel
theorem dX5_widthFor_12 : decode cX5_widthFor 12 = .ok (.iconst 1, 1) := by decide +kernel
theorem dX5_widthFor_13 : decode cX5_widthFor 13 = .ok (.istore 5, 2) := by decide +kernel
theorem dX5_widthFor_15 : decode cX5_widthFor 15 = .ok (.iload 5, 2) := by decide +kernel
theorem dX5_widthFor_17 : decode cX5_widthFor 17 = .ok (.bipush 6, 2) := by decide +kernel
theorem dX5_widthFor_19 : decode cX5_widthFor 19 = .ok (.if_icmp .gt 89, 3) := by decide +kernel
theorem dX5_widthFor_22 : decode cX5_widthFor 22 = .ok (.aload_n 0, 1) := by decide +kernel
theorem dX5_widthFor_23 : decode cX5_widthFor 23 = .ok (.iload_n 1, 1) := by decide +kernel
theorem dX5_widthFor_24 : decode cX5_widthFor 24 = .ok (.iconst 1, 1) := by decide +kernel
theorem dX5_widthFor_25 : decode cX5_widthFor 25 = .ok (.iload 5, 2) := by decide +kernel
theorem dX5_widthFor_27 : decode cX5_widthFor 27 = .ok (.invokevirtual 93, 3) := by decide +kernel
theorem dX5_widthFor_30 : decode cX5_widthFor 30 = .ok (.aload_n 0, 1) := by decide +kernel
theorem dX5_widthFor_31 : decode cX5_widthFor 31 = .ok (.invokevirtual 110, 3) := by decide +kernel
theorem dX5_widthFor_34 : decode cX5_widthFor 34 = .ok (.ldc 187, 2) := by decide +kernel
theorem dX5_widthFor_36 : decode cX5_widthFor 36 = .ok (.aload_n 0, 1) := by decide +kernel
theorem dX5_widthFor_37 : decode cX5_widthFor 37 = .ok (.invokevirtual 163, 3) := by decide +kernel
theorem dX5_widthFor_40 : decode cX5_widthFor 40 = .ok (.imul, 1) := by decide +kernel
theorem dX5_widthFor_41 : decode cX5_widthFor 41 = .ok (.sipush 1000, 3) := by decide +kernel
theorem dX5_widthFor_44 : decode cX5_widthFor 44 = .ok (.aload_n 0, 1) := by decide +kernel
theorem dX5_widthFor_45 : decode cX5_widthFor 45 = .ok (.invokevirtual 113, 3) := by decide +kernel
theorem dX5_widthFor_48 : decode cX5_widthFor 48 = .ok (.imul, 1) := by decide +kernel
theorem dX5_widthFor_49 : decode cX5_widthFor 49 = .ok (.iadd, 1) := by decide +kernel
theorem dX5_widthFor_50 : decode cX5_widthFor 50 = .ok (.aload_n 0, 1) := by decide +kernel
theorem dX5_widthFor_51 : decode cX5_widthFor 51 = .ok (.invokevirtual 169, 3) := by decide +kernel
theorem dX5_widthFor_54 : decode cX5_widthFor 54 = .ok (.iadd, 1) := by decide +kernel
theorem dX5_widthFor_55 : decode cX5_widthFor 55 = .ok (.istore 6, 2) := by decide +kernel
theorem dX5_widthFor_57 : decode cX5_widthFor 57 = .ok (.iload_n 3, 1) := by decide +kernel
theorem dX5_widthFor_58 : decode cX5_widthFor 58 = .ok (.iconst (-1), 1) := by decide +kernel
theorem dX5_widthFor_59 : decode cX5_widthFor 59 = .ok (.if_icmp .eq 10, 3) := by decide +kernel
theorem dX5_widthFor_62 : decode cX5_widthFor 62 = .ok (.iload 6, 2) := by decide +kernel
theorem dX5_widthFor_64 : decode cX5_widthFor 64 = .ok (.iload 4, 2) := by decide +kernel
theorem dX5_widthFor_66 : decode cX5_widthFor 66 = .ok (.if_icmp .ge 7, 3) := by decide +kernel
theorem dX5_widthFor_69 : decode cX5_widthFor 69 = .ok (.iconst 1, 1) := by decide +kernel
theorem dX5_widthFor_70 : decode cX5_widthFor 70 = .ok (.goto 4, 3) := by decide +kernel
theorem dX5_widthFor_73 : decode cX5_widthFor 73 = .ok (.iconst 0, 1) := by decide +kernel
theorem dX5_widthFor_74 : decode cX5_widthFor 74 = .ok (.istore 7, 2) := by decide +kernel
theorem dX5_widthFor_76 : decode cX5_widthFor 76 = .ok (.iload 7, 2) := by decide +kernel
theorem dX5_widthFor_78 : decode cX5_widthFor 78 = .ok (.ifCond .eq 8, 3) := by decide +kernel
theorem dX5_widthFor_81 : decode cX5_widthFor 81 = .ok (.iload 5, 2) := by decide +kernel
theorem dX5_widthFor_83 : decode cX5_widthFor 83 = .ok (.goto 4, 3) := by decide +kernel
theorem dX5_widthFor_86 : decode cX5_widthFor 86 = .ok (.iload_n 3, 1) := by decide +kernel
theorem dX5_widthFor_87 : decode cX5_widthFor 87 = .ok (.istore_n 3, 1) := by decide +kernel
theorem dX5_widthFor_88 : decode cX5_widthFor 88 = .ok (.iload 7, 2) := by decide +kernel
theorem dX5_widthFor_90 : decode cX5_widthFor 90 = .ok (.ifCond .eq 8, 3) := by decide +kernel
theorem dX5_widthFor_93 : decode cX5_widthFor 93 = .ok (.iload 6, 2) := by decide +kernel
theorem dX5_widthFor_95 : decode cX5_widthFor 95 = .ok (.goto 5, 3) := by decide +kernel
theorem dX5_widthFor_98 : decode cX5_widthFor 98 = .ok (.iload 4, 2) := by decide +kernel
theorem dX5_widthFor_100 : decode cX5_widthFor 100 = .ok (.istore 4, 2) := by decide +kernel
theorem dX5_widthFor_102 : decode cX5_widthFor 102 = .ok (.iinc 5 1, 3) := by decide +kernel
theorem dX5_widthFor_105 : decode cX5_widthFor 105 = .ok (.goto (-90), 3) := by decide +kernel
theorem dX5_widthFor_108 : decode cX5_widthFor 108 = .ok (.aload_n 0, 1) := by decide +kernel
theorem dX5_widthFor_109 : decode cX5_widthFor 109 = .ok (.iload_n 1, 1) := by decide +kernel
theorem dX5_widthFor_110 : decode cX5_widthFor 110 = .ok (.iconst 1, 1) := by decide +kernel
theorem dX5_widthFor_111 : decode cX5_widthFor 111 = .ok (.iload_n 2, 1) := by decide +kernel
theorem dX5_widthFor_112 : decode cX5_widthFor 112 = .ok (.invokevirtual 93, 3) := by decide +kernel
theorem dX5_widthFor_115 : decode cX5_widthFor 115 = .ok (.iload_n 3, 1) := by decide +kernel
theorem dX5_widthFor_116 : decode cX5_widthFor 116 = .ok (.ireturn, 1) := by decide +kernel
set_option maxRecDepth 20000 in
theorem ggX5_bestWidth_X5_isPanel : GoodIn wsX5_bestWidth wsX5_isPanel := goodIn_r _ [6, 7, 78, 79, 80, 81, 82, 83, 84, 85, 86, 87, 88, 89, 90, 91, 92, 93, 94, 95, 96, 97] (by decide +kernel) (by decide +kernel)
set_option maxRecDepth 20000 in
theorem gX5_bestWidth_X5_isPanel : GoodIn wsX5_bestWidth (wsV RX5 107 RX5 yX5_isPanel wsX5_isPanel) := goodIn_app (goodIn_of _ (by decide +kernel)) ggX5_bestWidth_X5_isPanel
set_option maxRecDepth 20000 in
theorem ggX5_bestWidth_X5_widthFor : GoodIn wsX5_bestWidth wsX5_widthFor := goodIn_r _ [11, 12, 13, 14, 15, 5, 16, 7, 17, 18, 19, 20, 21, 22, 23, 24, 25, 26, 27, 28, 29, 30, 31, 32, 33, 34, 35, 36, 37, 38, 39, 40, 41, 42, 43, 44, 45, 46, 47, 48, 49, 50, 51, 52, 53, 54, 55, 56, 57, 58, 59, 60, 61, 62, 63, 64, 65, 66, 67, 68, 69, 70, 71, 72, 73, 74, 75, 76, 77, 78, 79, 80, 81, 82, 83, 84, 85, 86, 87, 88, 89, 90, 91, 92, 93, 94, 95, 96, 97] (by decide +kernel) (by decide +kernel)
set_option maxRecDepth 20000 in
theorem gX5_bestWidth_X5_widthFor : GoodIn wsX5_bestWidth (wsV RX5 188 RX5 yX5_widthFor wsX5_widthFor) := goodIn_app (goodIn_of _ (by decide +kernel)) ggX5_bestWidth_X5_widthFor
theorem dX5_bestWidth_0 : decode cX5_bestWidth 0 = .ok (.aload_n 0, 1) := by decide +kernel
theorem dX5_bestWidth_1 : decode cX5_bestWidth 1 = .ok (.aload_n 0, 1) := by decide +kernel
theorem dX5_bestWidth_2 : decode cX5_bestWidth 2 = .ok (.iload_n 1, 1) := by decide +kernel
theorem dX5_bestWidth_3 : decode cX5_bestWidth 3 = .ok (.invokevirtual 107, 3) := by decide +kernel
theorem dX5_bestWidth_6 : decode cX5_bestWidth 6 = .ok (.ifCond .eq 7, 3) := by decide +kernel
theorem dX5_bestWidth_9 : decode cX5_bestWidth 9 = .ok (.iconst 0, 1) := by decide +kernel
theorem dX5_bestWidth_10 : decode cX5_bestWidth 10 = .ok (.goto 4, 3) := by decide +kernel
theorem dX5_bestWidth_13 : decode cX5_bestWidth 13 = .ok (.iconst 1, 1) := by decide +kernel
theorem dX5_bestWidth_14 : decode cX5_bestWidth 14 = .ok (.putfield 40, 3) := by decide +kernel
theorem dX5_bestWidth_17 : decode cX5_bestWidth 17 = .ok (.aload_n 0, 1) := by decide +kernel
theorem dX5_bestWidth_18 : decode cX5_bestWidth 18 = .ok (.getfield 40, 3) := by decide +kernel
theorem dX5_bestWidth_21 : decode cX5_bestWidth 21 = .ok (.ifCond .le 7, 3) := by decide +kernel
theorem dX5_bestWidth_24 : decode cX5_bestWidth 24 = .ok (.iconst 0, 1) := by decide +kernel
theorem dX5_bestWidth_25 : decode cX5_bestWidth 25 = .ok (.goto 8, 3) := by decide +kernel
theorem dX5_bestWidth_28 : decode cX5_bestWidth 28 = .ok (.aload_n 0, 1) := by decide +kernel
theorem dX5_bestWidth_29 : decode cX5_bestWidth 29 = .ok (.iload_n 1, 1) := by decide +kernel
theorem dX5_bestWidth_30 : decode cX5_bestWidth 30 = .ok (.invokevirtual 188, 3) := by decide +kernel
theorem dX5_bestWidth_33 : decode cX5_bestWidth 33 = .ok (.ireturn, 1) := by decide +kernel
set_option maxRecDepth 20000 in
theorem ggX5_share_X5_pagesSet : GoodIn wsX5_share wsX5_pagesSet := goodIn_r _ [5, 6, 16, 17, 18, 19, 20, 21, 22, 23, 24, 25, 26, 27, 28, 29, 30, 31, 32, 33, 34, 35] (by decide +kernel) (by decide +kernel)
set_option maxRecDepth 20000 in
theorem gX5_share_X5_pagesSet : GoodIn wsX5_share (wsV RX5 160 RX5 yX5_pagesSet wsX5_pagesSet) := goodIn_app (goodIn_of _ (by decide +kernel)) ggX5_share_X5_pagesSet
set_option maxRecDepth 20000 in
theorem ggX5_share_X5_emptyUnits : GoodIn wsX5_share wsX5_emptyUnits := goodIn_r _ [10, 6, 11, 12, 13, 4, 14, 15, 16, 17, 18, 19, 20, 21, 22, 23, 24, 25, 26, 27, 28, 29, 30, 31, 32, 33, 34, 35] (by decide +kernel) (by decide +kernel)
set_option maxRecDepth 20000 in
theorem gX5_share_X5_emptyUnits : GoodIn wsX5_share (wsV RX5 169 RX5 yX5_emptyUnits wsX5_emptyUnits) := goodIn_app (goodIn_of _ (by decide +kernel)) ggX5_share_X5_emptyUnits
theorem dX5_share_0 : decode cX5_share 0 = .ok (.bipush 24, 2) := by decide +kernel
theorem dX5_share_2 : decode cX5_share 2 = .ok (.aload_n 0, 1) := by decide +kernel
theorem dX5_share_3 : decode cX5_share 3 = .ok (.invokevirtual 160, 3) := by decide +kernel
theorem dX5_share_6 : decode cX5_share 6 = .ok (.imul, 1) := by decide +kernel
theorem dX5_share_7 : decode cX5_share 7 = .ok (.istore_n 1, 1) := by decide +kernel
theorem dX5_share_8 : decode cX5_share 8 = .ok (.iload_n 1, 1) := by decide +kernel
theorem dX5_share_9 : decode cX5_share 9 = .ok (.ifCond .ne 7, 3) := by decide +kernel
theorem dX5_share_12 : decode cX5_share 12 = .ok (.dconst 1, 1) := by decide +kernel
theorem dX5_share_13 : decode cX5_share 13 = .ok (.goto 13, 3) := by decide +kernel
theorem dX5_share_16 : decode cX5_share 16 = .ok (.iload_n 1, 1) := by decide +kernel
theorem dX5_share_17 : decode cX5_share 17 = .ok (.aload_n 0, 1) := by decide +kernel
theorem dX5_share_18 : decode cX5_share 18 = .ok (.invokevirtual 169, 3) := by decide +kernel
theorem dX5_share_21 : decode cX5_share 21 = .ok (.isub, 1) := by decide +kernel
theorem dX5_share_22 : decode cX5_share 22 = .ok (.i2d, 1) := by decide +kernel
theorem dX5_share_23 : decode cX5_share 23 = .ok (.iload_n 1, 1) := by decide +kernel
theorem dX5_share_24 : decode cX5_share 24 = .ok (.i2d, 1) := by decide +kernel
theorem dX5_share_25 : decode cX5_share 25 = .ok (.ddiv, 1) := by decide +kernel
theorem dX5_share_26 : decode cX5_share 26 = .ok (.dreturn, 1) := by decide +kernel
set_option maxRecDepth 20000 in
theorem ggX5_fullness_X5_pour : GoodIn wsX5_fullness wsX5_pour := goodIn_r _ [6, 7, 8, 9, 10, 11, 12, 13, 14, 15, 16, 5, 17, 18, 19, 20, 21, 22, 23, 24, 25, 26, 27, 28, 29, 30, 31, 32, 33, 34, 35, 36, 37, 38, 39, 40, 41, 42, 43, 44, 45, 46, 47, 48, 65, 66, 67, 68, 69, 70, 71, 72, 73, 74, 75, 76, 77, 78, 79, 80, 81, 82, 83, 84] (by decide +kernel) (by decide +kernel)
set_option maxRecDepth 20000 in
theorem gX5_fullness_X5_pour : GoodIn wsX5_fullness (wsV RX5 110 RX5 yX5_pour wsX5_pour) := goodIn_app (goodIn_of _ (by decide +kernel)) ggX5_fullness_X5_pour
set_option maxRecDepth 20000 in
theorem ggX5_fullness_X5_share : GoodIn wsX5_fullness wsX5_share := goodIn_r _ [52, 53, 54, 55, 5, 56, 9, 57, 58, 59, 60, 61, 62, 63, 64, 7, 65, 66, 67, 68, 69, 70, 71, 72, 73, 74, 75, 76, 77, 78, 79, 80, 81, 82, 83, 84] (by decide +kernel) (by decide +kernel)
set_option maxRecDepth 20000 in
theorem gX5_fullness_X5_share : GoodIn wsX5_fullness (wsV RX5 191 RX5 yX5_share wsX5_share) := goodIn_app (goodIn_of _ (by decide +kernel)) ggX5_fullness_X5_share
theorem dX5_fullness_0 : decode cX5_fullness 0 = .ok (.aload_n 0, 1) := by decide +kernel
theorem dX5_fullness_1 : decode cX5_fullness 1 = .ok (.iconst 0, 1) := by decide +kernel
theorem dX5_fullness_2 : decode cX5_fullness 2 = .ok (.putfield 40, 3) := by decide +kernel
theorem dX5_fullness_5 : decode cX5_fullness 5 = .ok (.aload_n 0, 1) := by decide +kernel
theorem dX5_fullness_6 : decode cX5_fullness 6 = .ok (.invokevirtual 110, 3) := by decide +kernel
theorem dX5_fullness_9 : decode cX5_fullness 9 = .ok (.aload_n 0, 1) := by decide +kernel
theorem dX5_fullness_10 : decode cX5_fullness 10 = .ok (.invokevirtual 191, 3) := by decide +kernel
theorem dX5_fullness_13 : decode cX5_fullness 13 = .ok (.dreturn, 1) := by decide +kernel
theorem dX5_bitsOf_0 : decode cX5_bitsOf 0 = .ok (.dload_n 0, 1) := by decide +kernel
theorem dX5_bitsOf_1 : decode cX5_bitsOf 1 = .ok (.dstore_n 2, 1) := by decide +kernel
theorem dX5_bitsOf_2 : decode cX5_bitsOf 2 = .ok (.ldc2_w 195, 3) := by decide +kernel
theorem dX5_bitsOf_5 : decode cX5_bitsOf 5 = .ok (.lstore 4, 2) := by decide +kernel
theorem dX5_bitsOf_7 : decode cX5_bitsOf 7 = .ok (.dload_n 2, 1) := by decide +kernel
theorem dX5_bitsOf_8 : decode cX5_bitsOf 8 = .ok (.dconst 1, 1) := by decide +kernel
theorem dX5_bitsOf_9 : decode cX5_bitsOf 9 = .ok (.dcmp .g, 1) := by decide +kernel
theorem dX5_bitsOf_10 : decode cX5_bitsOf 10 = .ok (.ifCond .ge 18, 3) := by decide +kernel
theorem dX5_bitsOf_13 : decode cX5_bitsOf 13 = .ok (.dload_n 2, 1) := by decide +kernel
theorem dX5_bitsOf_14 : decode cX5_bitsOf 14 = .ok (.ldc2_w 197, 3) := by decide +kernel
theorem dX5_bitsOf_17 : decode cX5_bitsOf 17 = .ok (.dmul, 1) := by decide +kernel
theorem dX5_bitsOf_18 : decode cX5_bitsOf 18 = .ok (.dstore_n 2, 1) := by decide +kernel
theorem dX5_bitsOf_19 : decode cX5_bitsOf 19 = .ok (.lload 4, 2) := by decide +kernel
theorem dX5_bitsOf_21 : decode cX5_bitsOf 21 = .ok (.lconst 1, 1) := by decide +kernel
theorem dX5_bitsOf_22 : decode cX5_bitsOf 22 = .ok (.lsub, 1) := by decide +kernel
theorem dX5_bitsOf_23 : decode cX5_bitsOf 23 = .ok (.lstore 4, 2) := by decide +kernel
theorem dX5_bitsOf_25 : decode cX5_bitsOf 25 = .ok (.goto (-18), 3) := by decide +kernel
theorem dX5_bitsOf_28 : decode cX5_bitsOf 28 = .ok (.lload 4, 2) := by decide +kernel
theorem dX5_bitsOf_30 : decode cX5_bitsOf 30 = .ok (.bipush 52, 2) := by decide +kernel
theorem dX5_bitsOf_32 : decode cX5_bitsOf 32 = .ok (.lshl, 1) := by decide +kernel
theorem dX5_bitsOf_33 : decode cX5_bitsOf 33 = .ok (.dload_n 2, 1) := by decide +kernel
theorem dX5_bitsOf_34 : decode cX5_bitsOf 34 = .ok (.ldc2_w 199, 3) := by decide +kernel
theorem dX5_bitsOf_37 : decode cX5_bitsOf 37 = .ok (.dmul, 1) := by decide +kernel
theorem dX5_bitsOf_38 : decode cX5_bitsOf 38 = .ok (.d2l, 1) := by decide +kernel
theorem dX5_bitsOf_39 : decode cX5_bitsOf 39 = .ok (.ladd, 1) := by decide +kernel
theorem dX5_bitsOf_40 : decode cX5_bitsOf 40 = .ok (.ldc2_w 201, 3) := by decide +kernel
theorem dX5_bitsOf_43 : decode cX5_bitsOf 43 = .ok (.lsub, 1) := by decide +kernel
theorem dX5_bitsOf_44 : decode cX5_bitsOf 44 = .ok (.lreturn, 1) := by decide +kernel
theorem dX5_mix_0 : decode cX5_mix 0 = .ok (.aload_n 0, 1) := by decide +kernel
theorem dX5_mix_1 : decode cX5_mix 1 = .ok (.ldc2_w 203, 3) := by decide +kernel
theorem dX5_mix_4 : decode cX5_mix 4 = .ok (.aload_n 0, 1) := by decide +kernel
theorem dX5_mix_5 : decode cX5_mix 5 = .ok (.getfield 205, 3) := by decide +kernel
theorem dX5_mix_8 : decode cX5_mix 8 = .ok (.lmul, 1) := by decide +kernel
theorem dX5_mix_9 : decode cX5_mix 9 = .ok (.lload_n 1, 1) := by decide +kernel
theorem dX5_mix_10 : decode cX5_mix 10 = .ok (.ladd, 1) := by decide +kernel
theorem dX5_mix_11 : decode cX5_mix 11 = .ok (.putfield 205, 3) := by decide +kernel
theorem dX5_mix_14 : decode cX5_mix 14 = .ok (.return_, 1) := by decide +kernel
set_option maxRecDepth 20000 in
theorem ggX5_digest_X5_pour : GoodIn wsX5_digest wsX5_pour := goodIn_r _ [12, 5, 13, 14, 4, 15, 16, 17, 18, 19, 20, 11, 21, 22, 23, 24, 25, 26, 27, 28, 29, 30, 31, 32, 33, 34, 35, 36, 37, 38, 39, 40, 41, 42, 43, 44, 45, 46, 47, 48, 49, 50, 51, 52, 147, 148, 149, 150, 151, 152, 153, 154, 155, 156, 157, 158, 159, 160, 161, 162, 163, 164, 165, 166] (by decide +kernel) (by decide +kernel)
set_option maxRecDepth 20000 in
theorem gX5_digest_X5_pour : GoodIn wsX5_digest (wsV RX5 110 RX5 yX5_pour wsX5_pour) := goodIn_app (goodIn_of _ (by decide +kernel)) ggX5_digest_X5_pour
set_option maxRecDepth 20000 in
theorem ggX5_digest_X5_counted : GoodIn wsX5_digest wsX5_counted := goodIn_r _ [56, 4, 57, 58, 59, 60, 11, 61, 14, 62, 63, 64, 65, 66, 67, 68, 69, 15, 70, 71, 72, 73, 13, 74, 75, 76, 77, 78, 79, 80, 81, 5, 82, 83, 84, 85, 147, 148, 149, 150, 151, 152, 153, 154, 155, 156, 157, 158, 159, 160, 161, 162, 163, 164, 165, 166] (by decide +kernel) (by decide +kernel)
set_option maxRecDepth 20000 in
theorem gX5_digest_X5_counted : GoodIn wsX5_digest (wsV RX5 175 RX5 yX5_counted wsX5_counted) := goodIn_app (goodIn_of _ (by decide +kernel)) ggX5_digest_X5_counted
set_option maxRecDepth 20000 in
theorem ggX5_digest_X5_mix : GoodIn wsX5_digest wsX5_mix := goodIn_r _ [89, 90, 3, 147, 148, 149, 150, 151, 152, 153, 154, 155, 156, 157, 158, 159, 160, 161, 162, 163, 164, 165, 166] (by decide +kernel) (by decide +kernel)
set_option maxRecDepth 20000 in
theorem gX5_digest_X5_mix : GoodIn wsX5_digest (wsV RX5 211 RX5 yX5_mix wsX5_mix) := goodIn_app (goodIn_of _ (by decide +kernel)) ggX5_digest_X5_mix
set_option maxRecDepth 20000 in
theorem ggX5_digest_X5_toldPanel : GoodIn wsX5_digest wsX5_toldPanel := goodIn_r _ [94, 15, 16, 17, 25, 26, 27, 11, 28, 4, 147, 148, 149, 150, 151, 152, 153, 154, 155, 156, 157, 158, 159, 160, 161, 162, 163, 164, 165, 166] (by decide +kernel) (by decide +kernel)
set_option maxRecDepth 20000 in
theorem gX5_digest_X5_toldPanel : GoodIn wsX5_digest (wsV RX5 145 RX5 yX5_toldPanel wsX5_toldPanel) := goodIn_app (goodIn_of _ (by decide +kernel)) ggX5_digest_X5_toldPanel
set_option maxRecDepth 20000 in
theorem ggX5_digest_X5_widthFor : GoodIn wsX5_digest wsX5_widthFor := goodIn_r _ [98, 99, 25, 26, 27, 11, 28, 4, 100, 101, 102, 103, 8, 9, 10, 12, 5, 13, 14, 15, 16, 17, 18, 19, 20, 21, 22, 23, 24, 29, 30, 31, 32, 33, 34, 35, 36, 37, 38, 39, 40, 41, 42, 43, 44, 45, 46, 47, 48, 49, 50, 51, 52, 66, 67, 68, 69, 58, 59, 60, 61, 74, 75, 76, 77, 78, 79, 80, 81, 147, 148, 149, 150, 151, 152, 153, 154, 155, 156, 157, 158, 159, 160, 161, 162, 163, 164, 165, 166] (by decide +kernel) (by decide +kernel)
set_option maxRecDepth 20000 in
theorem gX5_digest_X5_widthFor : GoodIn wsX5_digest (wsV RX5 188 RX5 yX5_widthFor wsX5_widthFor) := goodIn_app (goodIn_of _ (by decide +kernel)) ggX5_digest_X5_widthFor
set_option maxRecDepth 20000 in
theorem ggX5_digest_X5_isPanel : GoodIn wsX5_digest wsX5_isPanel := goodIn_r _ [107, 4, 147, 148, 149, 150, 151, 152, 153, 154, 155, 156, 157, 158, 159, 160, 161, 162, 163, 164, 165, 166] (by decide +kernel) (by decide +kernel)
set_option maxRecDepth 20000 in
theorem gX5_digest_X5_isPanel : GoodIn wsX5_digest (wsV RX5 107 RX5 yX5_isPanel wsX5_isPanel) := goodIn_app (goodIn_of _ (by decide +kernel)) ggX5_digest_X5_isPanel
set_option maxRecDepth 20000 in
theorem ggX5_digest_X5_exchanged : GoodIn wsX5_digest wsX5_exchanged := goodIn_r _ [111, 112, 113, 114, 11, 115, 25, 26, 27, 28, 4, 100, 101, 102, 103, 8, 9, 10, 12, 5, 13, 14, 15, 16, 17, 18, 19, 20, 21, 22, 23, 24, 29, 30, 31, 32, 33, 34, 35, 36, 37, 38, 39, 40, 41, 42, 43, 44, 45, 46, 47, 48, 49, 50, 51, 52, 58, 59, 60, 61, 74, 75, 76, 77, 78, 79, 80, 81, 147, 148, 149, 150, 151, 152, 153, 154, 155, 156, 157, 158, 159, 160, 161, 162, 163, 164, 165, 166] (by decide +kernel) (by decide +kernel)
set_option maxRecDepth 20000 in
theorem gX5_digest_X5_exchanged : GoodIn wsX5_digest (wsV RX5 181 RX5 yX5_exchanged wsX5_exchanged) := goodIn_app (goodIn_of _ (by decide +kernel)) ggX5_digest_X5_exchanged
set_option maxRecDepth 20000 in
theorem ggX5_digest_X5_toldPage : GoodIn wsX5_digest wsX5_toldPage := goodIn_r _ [119, 14, 13, 120, 121, 122, 11, 123, 5, 25, 26, 27, 28, 4, 78, 79, 80, 81, 124, 125, 126, 127, 58, 59, 60, 61, 128, 129, 130, 131, 15, 147, 148, 149, 150, 151, 152, 153, 154, 155, 156, 157, 158, 159, 160, 161, 162, 163, 164, 165, 166] (by decide +kernel) (by decide +kernel)
set_option maxRecDepth 20000 in
theorem gX5_digest_X5_toldPage : GoodIn wsX5_digest (wsV RX5 157 RX5 yX5_toldPage wsX5_toldPage) := goodIn_app (goodIn_of _ (by decide +kernel)) ggX5_digest_X5_toldPage
set_option maxRecDepth 20000 in
theorem ggX5_digest_X5_least : GoodIn wsX5_digest wsX5_least := goodIn_r _ [135, 4, 8, 9, 10, 11, 12, 5, 13, 14, 15, 16, 17, 18, 19, 20, 21, 22, 23, 24, 25, 26, 27, 28, 29, 30, 31, 32, 33, 34, 35, 36, 37, 38, 39, 40, 41, 42, 43, 44, 45, 46, 47, 48, 49, 50, 51, 52, 58, 59, 60, 61, 66, 67, 68, 69, 147, 148, 149, 150, 151, 152, 153, 154, 155, 156, 157, 158, 159, 160, 161, 162, 163, 164, 165, 166] (by decide +kernel) (by decide +kernel)
set_option maxRecDepth 20000 in
theorem gX5_digest_X5_least : GoodIn wsX5_digest (wsV RX5 184 RX5 yX5_least wsX5_least) := goodIn_app (goodIn_of _ (by decide +kernel)) ggX5_digest_X5_least
set_option maxRecDepth 20000 in
theorem ggX5_digest_X5_share : GoodIn wsX5_digest wsX5_share := goodIn_r _ [139, 62, 63, 64, 11, 65, 14, 74, 75, 76, 77, 78, 79, 80, 81, 5, 147, 148, 149, 150, 151, 152, 153, 154, 155, 156, 157, 158, 159, 160, 161, 162, 163, 164, 165, 166] (by decide +kernel) (by decide +kernel)
set_option maxRecDepth 20000 in
theorem gX5_digest_X5_share : GoodIn wsX5_digest (wsV RX5 191 RX5 yX5_share wsX5_share) := goodIn_app (goodIn_of _ (by decide +kernel)) ggX5_digest_X5_share
set_option maxRecDepth 20000 in
theorem ggX5_digest_X5_bitsOf : GoodIn wsX5_digest wsX5_bitsOf := goodIn_r _ [142, 143, 144, 145, 146] (by decide +kernel) (by decide +kernel)
set_option maxRecDepth 20000 in
theorem gX5_digest_X5_bitsOf : GoodIn wsX5_digest (va_wsS RX5 215 yX5_bitsOf wsX5_bitsOf) := goodIn_app (goodIn_of _ (by decide +kernel)) ggX5_digest_X5_bitsOf
theorem dX5_digest_0 : decode cX5_digest 0 = .ok (.aload_n 0, 1) := by decide +kernel
theorem dX5_digest_1 : decode cX5_digest 1 = .ok (.iconst 0, 1) := by decide +kernel
theorem dX5_digest_2 : decode cX5_digest 2 = .ok (.putfield 40, 3) := by decide +kernel
theorem dX5_digest_5 : decode cX5_digest 5 = .ok (.aload_n 0, 1) := by decide +kernel
theorem dX5_digest_6 : decode cX5_digest 6 = .ok (.ldc2_w 209, 3) := by decide +kernel
theorem dX5_digest_9 : decode cX5_digest 9 = .ok (.putfield 205, 3) := by decide +kernel
theorem dX5_digest_12 : decode cX5_digest 12 = .ok (.aload_n 0, 1) := by decide +kernel
theorem dX5_digest_13 : decode cX5_digest 13 = .ok (.invokevirtual 110, 3) := by decide +kernel
theorem dX5_digest_16 : decode cX5_digest 16 = .ok (.iconst 0, 1) := by decide +kernel
theorem dX5_digest_17 : decode cX5_digest 17 = .ok (.istore_n 1, 1) := by decide +kernel
theorem dX5_digest_18 : decode cX5_digest 18 = .ok (.iload_n 1, 1) := by decide +kernel
theorem dX5_digest_19 : decode cX5_digest 19 = .ok (.bipush 8, 2) := by decide +kernel
theorem dX5_digest_21 : decode cX5_digest 21 = .ok (.if_icmp .gt 19, 3) := by decide +kernel
theorem dX5_digest_24 : decode cX5_digest 24 = .ok (.aload_n 0, 1) := by decide +kernel
theorem dX5_digest_25 : decode cX5_digest 25 = .ok (.aload_n 0, 1) := by decide +kernel
theorem dX5_digest_26 : decode cX5_digest 26 = .ok (.iload_n 1, 1) := by decide +kernel
theorem dX5_digest_27 : decode cX5_digest 27 = .ok (.invokevirtual 175, 3) := by decide +kernel
theorem dX5_digest_30 : decode cX5_digest 30 = .ok (.i2l, 1) := by decide +kernel
theorem dX5_digest_31 : decode cX5_digest 31 = .ok (.invokevirtual 211, 3) := by decide +kernel
theorem dX5_digest_34 : decode cX5_digest 34 = .ok (.iinc 1 1, 3) := by decide +kernel
theorem dX5_digest_37 : decode cX5_digest 37 = .ok (.goto (-19), 3) := by decide +kernel
theorem dX5_digest_40 : decode cX5_digest 40 = .ok (.iconst 0, 1) := by decide +kernel
theorem dX5_digest_41 : decode cX5_digest 41 = .ok (.istore_n 1, 1) := by decide +kernel
theorem dX5_digest_42 : decode cX5_digest 42 = .ok (.iload_n 1, 1) := by decide +kernel
theorem dX5_digest_43 : decode cX5_digest 43 = .ok (.aload_n 0, 1) := by decide +kernel
theorem dX5_digest_44 : decode cX5_digest 44 = .ok (.getfield 7, 3) := by decide +kernel
theorem dX5_digest_47 : decode cX5_digest 47 = .ok (.iconst 1, 1) := by decide +kernel
theorem dX5_digest_48 : decode cX5_digest 48 = .ok (.iaload, 1) := by decide +kernel
theorem dX5_digest_49 : decode cX5_digest 49 = .ok (.if_icmp .ge 79, 3) := by decide +kernel
theorem dX5_digest_52 : decode cX5_digest 52 = .ok (.aload_n 0, 1) := by decide +kernel
theorem dX5_digest_53 : decode cX5_digest 53 = .ok (.invokevirtual 110, 3) := by decide +kernel
theorem dX5_digest_56 : decode cX5_digest 56 = .ok (.iconst 0, 1) := by decide +kernel
theorem dX5_digest_57 : decode cX5_digest 57 = .ok (.istore_n 2, 1) := by decide +kernel
theorem dX5_digest_58 : decode cX5_digest 58 = .ok (.iload_n 2, 1) := by decide +kernel
theorem dX5_digest_59 : decode cX5_digest 59 = .ok (.iconst 5, 1) := by decide +kernel
theorem dX5_digest_60 : decode cX5_digest 60 = .ok (.if_icmp .gt 20, 3) := by decide +kernel
theorem dX5_digest_63 : decode cX5_digest 63 = .ok (.aload_n 0, 1) := by decide +kernel
theorem dX5_digest_64 : decode cX5_digest 64 = .ok (.aload_n 0, 1) := by decide +kernel
theorem dX5_digest_65 : decode cX5_digest 65 = .ok (.iload_n 1, 1) := by decide +kernel
theorem dX5_digest_66 : decode cX5_digest 66 = .ok (.iload_n 2, 1) := by decide +kernel
theorem dX5_digest_67 : decode cX5_digest 67 = .ok (.invokevirtual 145, 3) := by decide +kernel
theorem dX5_digest_70 : decode cX5_digest 70 = .ok (.i2l, 1) := by decide +kernel
theorem dX5_digest_71 : decode cX5_digest 71 = .ok (.invokevirtual 211, 3) := by decide +kernel
theorem dX5_digest_74 : decode cX5_digest 74 = .ok (.iinc 2 1, 3) := by decide +kernel
theorem dX5_digest_77 : decode cX5_digest 77 = .ok (.goto (-19), 3) := by decide +kernel
theorem dX5_digest_80 : decode cX5_digest 80 = .ok (.aload_n 0, 1) := by decide +kernel
theorem dX5_digest_81 : decode cX5_digest 81 = .ok (.aload_n 0, 1) := by decide +kernel
theorem dX5_digest_82 : decode cX5_digest 82 = .ok (.iload_n 1, 1) := by decide +kernel
theorem dX5_digest_83 : decode cX5_digest 83 = .ok (.invokevirtual 188, 3) := by decide +kernel
theorem dX5_digest_86 : decode cX5_digest 86 = .ok (.i2l, 1) := by decide +kernel
theorem dX5_digest_87 : decode cX5_digest 87 = .ok (.invokevirtual 211, 3) := by decide +kernel
theorem dX5_digest_90 : decode cX5_digest 90 = .ok (.aload_n 0, 1) := by decide +kernel
theorem dX5_digest_91 : decode cX5_digest 91 = .ok (.iload_n 1, 1) := by decide +kernel
theorem dX5_digest_92 : decode cX5_digest 92 = .ok (.iconst 1, 1) := by decide +kernel
theorem dX5_digest_93 : decode cX5_digest 93 = .ok (.iadd, 1) := by decide +kernel
theorem dX5_digest_94 : decode cX5_digest 94 = .ok (.invokevirtual 107, 3) := by decide +kernel
theorem dX5_digest_97 : decode cX5_digest 97 = .ok (.ifCond .eq 25, 3) := by decide +kernel
theorem dX5_digest_100 : decode cX5_digest 100 = .ok (.aload_n 0, 1) := by decide +kernel
theorem dX5_digest_101 : decode cX5_digest 101 = .ok (.aload_n 0, 1) := by decide +kernel
theorem dX5_digest_102 : decode cX5_digest 102 = .ok (.iload_n 1, 1) := by decide +kernel
theorem dX5_digest_103 : decode cX5_digest 103 = .ok (.iconst 0, 1) := by decide +kernel
theorem dX5_digest_104 : decode cX5_digest 104 = .ok (.invokevirtual 181, 3) := by decide +kernel
theorem dX5_digest_107 : decode cX5_digest 107 = .ok (.i2l, 1) := by decide +kernel
theorem dX5_digest_108 : decode cX5_digest 108 = .ok (.invokevirtual 211, 3) := by decide +kernel
theorem dX5_digest_111 : decode cX5_digest 111 = .ok (.aload_n 0, 1) := by decide +kernel
theorem dX5_digest_112 : decode cX5_digest 112 = .ok (.aload_n 0, 1) := by decide +kernel
theorem dX5_digest_113 : decode cX5_digest 113 = .ok (.iload_n 1, 1) := by decide +kernel
theorem dX5_digest_114 : decode cX5_digest 114 = .ok (.iconst 1, 1) := by decide +kernel
theorem dX5_digest_115 : decode cX5_digest 115 = .ok (.invokevirtual 181, 3) := by decide +kernel
theorem dX5_digest_118 : decode cX5_digest 118 = .ok (.i2l, 1) := by decide +kernel
theorem dX5_digest_119 : decode cX5_digest 119 = .ok (.invokevirtual 211, 3) := by decide +kernel
theorem dX5_digest_122 : decode cX5_digest 122 = .ok (.iinc 1 1, 3) := by decide +kernel
theorem dX5_digest_125 : decode cX5_digest 125 = .ok (.goto (-83), 3) := by decide +kernel
theorem dX5_digest_128 : decode cX5_digest 128 = .ok (.aload_n 0, 1) := by decide +kernel
theorem dX5_digest_129 : decode cX5_digest 129 = .ok (.invokevirtual 110, 3) := by decide +kernel
theorem dX5_digest_132 : decode cX5_digest 132 = .ok (.iconst 0, 1) := by decide +kernel
theorem dX5_digest_133 : decode cX5_digest 133 = .ok (.istore_n 1, 1) := by decide +kernel
theorem dX5_digest_134 : decode cX5_digest 134 = .ok (.iload_n 1, 1) := by decide +kernel
theorem dX5_digest_135 : decode cX5_digest 135 = .ok (.bipush 16, 2) := by decide +kernel
theorem dX5_digest_137 : decode cX5_digest 137 = .ok (.if_icmp .ge 63, 3) := by decide +kernel
theorem dX5_digest_140 : decode cX5_digest 140 = .ok (.iconst 0, 1) := by decide +kernel
theorem dX5_digest_141 : decode cX5_digest 141 = .ok (.istore_n 2, 1) := by decide +kernel
theorem dX5_digest_142 : decode cX5_digest 142 = .ok (.iload_n 2, 1) := by decide +kernel
theorem dX5_digest_143 : decode cX5_digest 143 = .ok (.iconst 5, 1) := by decide +kernel
theorem dX5_digest_144 : decode cX5_digest 144 = .ok (.if_icmp .gt 20, 3) := by decide +kernel
theorem dX5_digest_147 : decode cX5_digest 147 = .ok (.aload_n 0, 1) := by decide +kernel
theorem dX5_digest_148 : decode cX5_digest 148 = .ok (.aload_n 0, 1) := by decide +kernel
theorem dX5_digest_149 : decode cX5_digest 149 = .ok (.iload_n 1, 1) := by decide +kernel
theorem dX5_digest_150 : decode cX5_digest 150 = .ok (.iload_n 2, 1) := by decide +kernel
theorem dX5_digest_151 : decode cX5_digest 151 = .ok (.invokevirtual 157, 3) := by decide +kernel
theorem dX5_digest_154 : decode cX5_digest 154 = .ok (.i2l, 1) := by decide +kernel
theorem dX5_digest_155 : decode cX5_digest 155 = .ok (.invokevirtual 211, 3) := by decide +kernel
theorem dX5_digest_158 : decode cX5_digest 158 = .ok (.iinc 2 1, 3) := by decide +kernel
theorem dX5_digest_161 : decode cX5_digest 161 = .ok (.goto (-19), 3) := by decide +kernel
theorem dX5_digest_164 : decode cX5_digest 164 = .ok (.iconst 0, 1) := by decide +kernel
theorem dX5_digest_165 : decode cX5_digest 165 = .ok (.istore_n 2, 1) := by decide +kernel
theorem dX5_digest_166 : decode cX5_digest 166 = .ok (.iload_n 2, 1) := by decide +kernel
theorem dX5_digest_167 : decode cX5_digest 167 = .ok (.bipush 24, 2) := by decide +kernel
theorem dX5_digest_169 : decode cX5_digest 169 = .ok (.if_icmp .ge 25, 3) := by decide +kernel
theorem dX5_digest_172 : decode cX5_digest 172 = .ok (.aload_n 0, 1) := by decide +kernel
theorem dX5_digest_173 : decode cX5_digest 173 = .ok (.aload_n 0, 1) := by decide +kernel
theorem dX5_digest_174 : decode cX5_digest 174 = .ok (.getfield 28, 3) := by decide +kernel
theorem dX5_digest_177 : decode cX5_digest 177 = .ok (.bipush 24, 2) := by decide +kernel
theorem dX5_digest_179 : decode cX5_digest 179 = .ok (.iload_n 1, 1) := by decide +kernel
theorem dX5_digest_180 : decode cX5_digest 180 = .ok (.imul, 1) := by decide +kernel
theorem dX5_digest_181 : decode cX5_digest 181 = .ok (.iload_n 2, 1) := by decide +kernel
theorem dX5_digest_182 : decode cX5_digest 182 = .ok (.iadd, 1) := by decide +kernel
theorem dX5_digest_183 : decode cX5_digest 183 = .ok (.iaload, 1) := by decide +kernel
theorem dX5_digest_184 : decode cX5_digest 184 = .ok (.i2l, 1) := by decide +kernel
theorem dX5_digest_185 : decode cX5_digest 185 = .ok (.invokevirtual 211, 3) := by decide +kernel
theorem dX5_digest_188 : decode cX5_digest 188 = .ok (.iinc 2 1, 3) := by decide +kernel
theorem dX5_digest_191 : decode cX5_digest 191 = .ok (.goto (-25), 3) := by decide +kernel
theorem dX5_digest_194 : decode cX5_digest 194 = .ok (.iinc 1 1, 3) := by decide +kernel
theorem dX5_digest_197 : decode cX5_digest 197 = .ok (.goto (-63), 3) := by decide +kernel
theorem dX5_digest_200 : decode cX5_digest 200 = .ok (.aload_n 0, 1) := by decide +kernel
theorem dX5_digest_201 : decode cX5_digest 201 = .ok (.aload_n 0, 1) := by decide +kernel
theorem dX5_digest_202 : decode cX5_digest 202 = .ok (.invokevirtual 184, 3) := by decide +kernel
theorem dX5_digest_205 : decode cX5_digest 205 = .ok (.i2l, 1) := by decide +kernel
theorem dX5_digest_206 : decode cX5_digest 206 = .ok (.invokevirtual 211, 3) := by decide +kernel
theorem dX5_digest_209 : decode cX5_digest 209 = .ok (.aload_n 0, 1) := by decide +kernel
theorem dX5_digest_210 : decode cX5_digest 210 = .ok (.invokevirtual 110, 3) := by decide +kernel
theorem dX5_digest_213 : decode cX5_digest 213 = .ok (.aload_n 0, 1) := by decide +kernel
theorem dX5_digest_214 : decode cX5_digest 214 = .ok (.aload_n 0, 1) := by decide +kernel
theorem dX5_digest_215 : decode cX5_digest 215 = .ok (.invokevirtual 191, 3) := by decide +kernel
theorem dX5_digest_218 : decode cX5_digest 218 = .ok (.invokestatic 215, 3) := by decide +kernel
theorem dX5_digest_221 : decode cX5_digest 221 = .ok (.invokevirtual 211, 3) := by decide +kernel
theorem dX5_digest_224 : decode cX5_digest 224 = .ok (.aload_n 0, 1) := by decide +kernel
theorem dX5_digest_225 : decode cX5_digest 225 = .ok (.aload_n 0, 1) := by decide +kernel
theorem dX5_digest_226 : decode cX5_digest 226 = .ok (.getfield 117, 3) := by decide +kernel
theorem dX5_digest_229 : decode cX5_digest 229 = .ok (.i2l, 1) := by decide +kernel
theorem dX5_digest_230 : decode cX5_digest 230 = .ok (.invokevirtual 211, 3) := by decide +kernel
theorem dX5_digest_233 : decode cX5_digest 233 = .ok (.iconst 0, 1) := by decide +kernel
theorem dX5_digest_234 : decode cX5_digest 234 = .ok (.istore_n 1, 1) := by decide +kernel
theorem dX5_digest_235 : decode cX5_digest 235 = .ok (.iload_n 1, 1) := by decide +kernel
theorem dX5_digest_236 : decode cX5_digest 236 = .ok (.aload_n 0, 1) := by decide +kernel
theorem dX5_digest_237 : decode cX5_digest 237 = .ok (.getfield 117, 3) := by decide +kernel
theorem dX5_digest_240 : decode cX5_digest 240 = .ok (.if_icmp .ge 20, 3) := by decide +kernel
theorem dX5_digest_243 : decode cX5_digest 243 = .ok (.aload_n 0, 1) := by decide +kernel
theorem dX5_digest_244 : decode cX5_digest 244 = .ok (.aload_n 0, 1) := by decide +kernel
theorem dX5_digest_245 : decode cX5_digest 245 = .ok (.getfield 16, 3) := by decide +kernel
theorem dX5_digest_248 : decode cX5_digest 248 = .ok (.iload_n 1, 1) := by decide +kernel
theorem dX5_digest_249 : decode cX5_digest 249 = .ok (.iaload, 1) := by decide +kernel
theorem dX5_digest_250 : decode cX5_digest 250 = .ok (.i2l, 1) := by decide +kernel
theorem dX5_digest_251 : decode cX5_digest 251 = .ok (.invokevirtual 211, 3) := by decide +kernel
theorem dX5_digest_254 : decode cX5_digest 254 = .ok (.iinc 1 1, 3) := by decide +kernel
theorem dX5_digest_257 : decode cX5_digest 257 = .ok (.goto (-22), 3) := by decide +kernel
theorem dX5_digest_260 : decode cX5_digest 260 = .ok (.aload_n 0, 1) := by decide +kernel
theorem dX5_digest_261 : decode cX5_digest 261 = .ok (.getfield 205, 3) := by decide +kernel
theorem dX5_digest_264 : decode cX5_digest 264 = .ok (.lreturn, 1) := by decide +kernel

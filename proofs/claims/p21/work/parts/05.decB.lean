theorem dX2_init_0 : decode cX2_init 0 = .ok (.aload_n 0, 1) := by decide +kernel
theorem dX2_init_1 : decode cX2_init 1 = .ok (.invokespecial 3, 3) := by decide +kernel
theorem dX2_init_4 : decode cX2_init 4 = .ok (.aload_n 0, 1) := by decide +kernel
theorem dX2_init_5 : decode cX2_init 5 = .ok (.bipush 24, 2) := by decide +kernel
theorem dX2_init_7 : decode cX2_init 7 = .ok (.newarray .int, 2) := by decide +kernel
theorem dX2_init_9 : decode cX2_init 9 = .ok (.putfield 9, 3) := by decide +kernel
theorem dX2_init_12 : decode cX2_init 12 = .ok (.aload_n 0, 1) := by decide +kernel
theorem dX2_init_13 : decode cX2_init 13 = .ok (.bipush 24, 2) := by decide +kernel
theorem dX2_init_15 : decode cX2_init 15 = .ok (.newarray .int, 2) := by decide +kernel
theorem dX2_init_17 : decode cX2_init 17 = .ok (.putfield 15, 3) := by decide +kernel
theorem dX2_init_20 : decode cX2_init 20 = .ok (.aload_n 0, 1) := by decide +kernel
theorem dX2_init_21 : decode cX2_init 21 = .ok (.bipush 24, 2) := by decide +kernel
theorem dX2_init_23 : decode cX2_init 23 = .ok (.newarray .int, 2) := by decide +kernel
theorem dX2_init_25 : decode cX2_init 25 = .ok (.putfield 18, 3) := by decide +kernel
theorem dX2_init_28 : decode cX2_init 28 = .ok (.aload_n 0, 1) := by decide +kernel
theorem dX2_init_29 : decode cX2_init 29 = .ok (.iconst 0, 1) := by decide +kernel
theorem dX2_init_30 : decode cX2_init 30 = .ok (.putfield 21, 3) := by decide +kernel
theorem dX2_init_33 : decode cX2_init 33 = .ok (.aload_n 0, 1) := by decide +kernel
theorem dX2_init_34 : decode cX2_init 34 = .ok (.bipush 30, 2) := by decide +kernel
theorem dX2_init_36 : decode cX2_init 36 = .ok (.putfield 25, 3) := by decide +kernel
theorem dX2_init_39 : decode cX2_init 39 = .ok (.return_, 1) := by decide +kernel
theorem dX2_has_0 : decode cX2_has 0 = .ok (.iload_n 1, 1) := by decide +kernel
theorem dX2_has_1 : decode cX2_has 1 = .ok (.ifCond .lt 15, 3) := by decide +kernel
theorem dX2_has_4 : decode cX2_has 4 = .ok (.iload_n 1, 1) := by decide +kernel
theorem dX2_has_5 : decode cX2_has 5 = .ok (.aload_n 0, 1) := by decide +kernel
theorem dX2_has_6 : decode cX2_has 6 = .ok (.getfield 21, 3) := by decide +kernel
theorem dX2_has_9 : decode cX2_has 9 = .ok (.if_icmp .ge 7, 3) := by decide +kernel
theorem dX2_has_12 : decode cX2_has 12 = .ok (.iconst 1, 1) := by decide +kernel
theorem dX2_has_13 : decode cX2_has 13 = .ok (.goto 4, 3) := by decide +kernel
theorem dX2_has_16 : decode cX2_has 16 = .ok (.iconst 0, 1) := by decide +kernel
theorem dX2_has_17 : decode cX2_has 17 = .ok (.ireturn, 1) := by decide +kernel
theorem dX2_copyFrom_0 : decode cX2_copyFrom 0 = .ok (.aload_n 1, 1) := by decide +kernel
theorem dX2_copyFrom_1 : decode cX2_copyFrom 1 = .ok (.getfield 9, 3) := by decide +kernel
theorem dX2_copyFrom_4 : decode cX2_copyFrom 4 = .ok (.iconst 0, 1) := by decide +kernel
theorem dX2_copyFrom_5 : decode cX2_copyFrom 5 = .ok (.aload_n 0, 1) := by decide +kernel
theorem dX2_copyFrom_6 : decode cX2_copyFrom 6 = .ok (.getfield 9, 3) := by decide +kernel
theorem dX2_copyFrom_9 : decode cX2_copyFrom 9 = .ok (.iconst 0, 1) := by decide +kernel
theorem dX2_copyFrom_10 : decode cX2_copyFrom 10 = .ok (.bipush 24, 2) := by decide +kernel
theorem dX2_copyFrom_12 : decode cX2_copyFrom 12 = .ok (.invokestatic 28, 3) := by decide +kernel
theorem dX2_copyFrom_15 : decode cX2_copyFrom 15 = .ok (.aload_n 1, 1) := by decide +kernel
theorem dX2_copyFrom_16 : decode cX2_copyFrom 16 = .ok (.getfield 15, 3) := by decide +kernel
theorem dX2_copyFrom_19 : decode cX2_copyFrom 19 = .ok (.iconst 0, 1) := by decide +kernel
theorem dX2_copyFrom_20 : decode cX2_copyFrom 20 = .ok (.aload_n 0, 1) := by decide +kernel
theorem dX2_copyFrom_21 : decode cX2_copyFrom 21 = .ok (.getfield 15, 3) := by decide +kernel
theorem dX2_copyFrom_24 : decode cX2_copyFrom 24 = .ok (.iconst 0, 1) := by decide +kernel
theorem dX2_copyFrom_25 : decode cX2_copyFrom 25 = .ok (.bipush 24, 2) := by decide +kernel
theorem dX2_copyFrom_27 : decode cX2_copyFrom 27 = .ok (.invokestatic 28, 3) := by decide +kernel
theorem dX2_copyFrom_30 : decode cX2_copyFrom 30 = .ok (.aload_n 1, 1) := by decide +kernel
theorem dX2_copyFrom_31 : decode cX2_copyFrom 31 = .ok (.getfield 18, 3) := by decide +kernel
theorem dX2_copyFrom_34 : decode cX2_copyFrom 34 = .ok (.iconst 0, 1) := by decide +kernel
theorem dX2_copyFrom_35 : decode cX2_copyFrom 35 = .ok (.aload_n 0, 1) := by decide +kernel
theorem dX2_copyFrom_36 : decode cX2_copyFrom 36 = .ok (.getfield 18, 3) := by decide +kernel
theorem dX2_copyFrom_39 : decode cX2_copyFrom 39 = .ok (.iconst 0, 1) := by decide +kernel
theorem dX2_copyFrom_40 : decode cX2_copyFrom 40 = .ok (.bipush 24, 2) := by decide +kernel
theorem dX2_copyFrom_42 : decode cX2_copyFrom 42 = .ok (.invokestatic 28, 3) := by decide +kernel
theorem dX2_copyFrom_45 : decode cX2_copyFrom 45 = .ok (.aload_n 0, 1) := by decide +kernel
theorem dX2_copyFrom_46 : decode cX2_copyFrom 46 = .ok (.aload_n 1, 1) := by decide +kernel
theorem dX2_copyFrom_47 : decode cX2_copyFrom 47 = .ok (.getfield 21, 3) := by decide +kernel
theorem dX2_copyFrom_50 : decode cX2_copyFrom 50 = .ok (.putfield 21, 3) := by decide +kernel
theorem dX2_copyFrom_53 : decode cX2_copyFrom 53 = .ok (.aload_n 0, 1) := by decide +kernel
theorem dX2_copyFrom_54 : decode cX2_copyFrom 54 = .ok (.aload_n 1, 1) := by decide +kernel
theorem dX2_copyFrom_55 : decode cX2_copyFrom 55 = .ok (.getfield 25, 3) := by decide +kernel
theorem dX2_copyFrom_58 : decode cX2_copyFrom 58 = .ok (.putfield 25, 3) := by decide +kernel
theorem dX2_copyFrom_61 : decode cX2_copyFrom 61 = .ok (.return_, 1) := by decide +kernel
set_option maxRecDepth 20000 in
theorem ggX2_insert_X2_openGap : GoodIn wsX2_insert wsX2_openGap := goodIn_r _ [8, 9, 10, 11] (by decide +kernel) (by decide +kernel)
set_option maxRecDepth 20000 in
theorem gX2_insert_X2_openGap : GoodIn wsX2_insert (va_wsS RX2 34 yX2_openGap wsX2_openGap) := goodIn_app (goodIn_of _ (by decide +kernel)) ggX2_insert_X2_openGap
theorem dX2_insert_0 : decode cX2_insert 0 = .ok (.aload_n 0, 1) := by decide +kernel
theorem dX2_insert_1 : decode cX2_insert 1 = .ok (.getfield 21, 3) := by decide +kernel
theorem dX2_insert_4 : decode cX2_insert 4 = .ok (.bipush 24, 2) := by decide +kernel
theorem dX2_insert_6 : decode cX2_insert 6 = .ok (.if_icmp .lt 4, 3) := by decide +kernel
theorem dX2_insert_9 : decode cX2_insert 9 = .ok (.return_, 1) := by decide +kernel
theorem dX2_insert_10 : decode cX2_insert 10 = .ok (.aload_n 0, 1) := by decide +kernel
theorem dX2_insert_11 : decode cX2_insert 11 = .ok (.getfield 9, 3) := by decide +kernel
theorem dX2_insert_14 : decode cX2_insert 14 = .ok (.iload_n 1, 1) := by decide +kernel
theorem dX2_insert_15 : decode cX2_insert 15 = .ok (.iload_n 2, 1) := by decide +kernel
theorem dX2_insert_16 : decode cX2_insert 16 = .ok (.invokestatic 34, 3) := by decide +kernel
theorem dX2_insert_19 : decode cX2_insert 19 = .ok (.aload_n 0, 1) := by decide +kernel
theorem dX2_insert_20 : decode cX2_insert 20 = .ok (.getfield 15, 3) := by decide +kernel
theorem dX2_insert_23 : decode cX2_insert 23 = .ok (.iload_n 1, 1) := by decide +kernel
theorem dX2_insert_24 : decode cX2_insert 24 = .ok (.iload_n 3, 1) := by decide +kernel
theorem dX2_insert_25 : decode cX2_insert 25 = .ok (.invokestatic 34, 3) := by decide +kernel
theorem dX2_insert_28 : decode cX2_insert 28 = .ok (.aload_n 0, 1) := by decide +kernel
theorem dX2_insert_29 : decode cX2_insert 29 = .ok (.getfield 18, 3) := by decide +kernel
theorem dX2_insert_32 : decode cX2_insert 32 = .ok (.iload_n 1, 1) := by decide +kernel
theorem dX2_insert_33 : decode cX2_insert 33 = .ok (.iload 4, 2) := by decide +kernel
theorem dX2_insert_35 : decode cX2_insert 35 = .ok (.invokestatic 34, 3) := by decide +kernel
theorem dX2_insert_38 : decode cX2_insert 38 = .ok (.aload_n 0, 1) := by decide +kernel
theorem dX2_insert_39 : decode cX2_insert 39 = .ok (.dup, 1) := by decide +kernel
theorem dX2_insert_40 : decode cX2_insert 40 = .ok (.getfield 21, 3) := by decide +kernel
theorem dX2_insert_43 : decode cX2_insert 43 = .ok (.iconst 1, 1) := by decide +kernel
theorem dX2_insert_44 : decode cX2_insert 44 = .ok (.iadd, 1) := by decide +kernel
theorem dX2_insert_45 : decode cX2_insert 45 = .ok (.putfield 21, 3) := by decide +kernel
theorem dX2_insert_48 : decode cX2_insert 48 = .ok (.return_, 1) := by decide +kernel
set_option maxRecDepth 20000 in
theorem ggX2_remove_X2_has : GoodIn wsX2_remove wsX2_has := goodIn_r _ [9, 4, 13, 14, 15, 16, 17] (by decide +kernel) (by decide +kernel)
set_option maxRecDepth 20000 in
theorem gX2_remove_X2_has : GoodIn wsX2_remove (wsV RX2 38 RX2 yX2_has wsX2_has) := goodIn_app (goodIn_of _ (by decide +kernel)) ggX2_remove_X2_has
set_option maxRecDepth 20000 in
theorem ggX2_remove_X2_closeGap : GoodIn wsX2_remove wsX2_closeGap := goodIn_r _ [12] (by decide +kernel) (by decide +kernel)
set_option maxRecDepth 20000 in
theorem gX2_remove_X2_closeGap : GoodIn wsX2_remove (va_wsS RX2 42 yX2_closeGap wsX2_closeGap) := goodIn_app (goodIn_of _ (by decide +kernel)) ggX2_remove_X2_closeGap
theorem dX2_remove_0 : decode cX2_remove 0 = .ok (.aload_n 0, 1) := by decide +kernel
theorem dX2_remove_1 : decode cX2_remove 1 = .ok (.iload_n 1, 1) := by decide +kernel
theorem dX2_remove_2 : decode cX2_remove 2 = .ok (.invokevirtual 38, 3) := by decide +kernel
theorem dX2_remove_5 : decode cX2_remove 5 = .ok (.ifCond .ne 4, 3) := by decide +kernel
theorem dX2_remove_8 : decode cX2_remove 8 = .ok (.return_, 1) := by decide +kernel
theorem dX2_remove_9 : decode cX2_remove 9 = .ok (.aload_n 0, 1) := by decide +kernel
theorem dX2_remove_10 : decode cX2_remove 10 = .ok (.getfield 9, 3) := by decide +kernel
theorem dX2_remove_13 : decode cX2_remove 13 = .ok (.iload_n 1, 1) := by decide +kernel
theorem dX2_remove_14 : decode cX2_remove 14 = .ok (.invokestatic 42, 3) := by decide +kernel
theorem dX2_remove_17 : decode cX2_remove 17 = .ok (.aload_n 0, 1) := by decide +kernel
theorem dX2_remove_18 : decode cX2_remove 18 = .ok (.getfield 15, 3) := by decide +kernel
theorem dX2_remove_21 : decode cX2_remove 21 = .ok (.iload_n 1, 1) := by decide +kernel
theorem dX2_remove_22 : decode cX2_remove 22 = .ok (.invokestatic 42, 3) := by decide +kernel
theorem dX2_remove_25 : decode cX2_remove 25 = .ok (.aload_n 0, 1) := by decide +kernel
theorem dX2_remove_26 : decode cX2_remove 26 = .ok (.getfield 18, 3) := by decide +kernel
theorem dX2_remove_29 : decode cX2_remove 29 = .ok (.iload_n 1, 1) := by decide +kernel
theorem dX2_remove_30 : decode cX2_remove 30 = .ok (.invokestatic 42, 3) := by decide +kernel
theorem dX2_remove_33 : decode cX2_remove 33 = .ok (.aload_n 0, 1) := by decide +kernel
theorem dX2_remove_34 : decode cX2_remove 34 = .ok (.dup, 1) := by decide +kernel
theorem dX2_remove_35 : decode cX2_remove 35 = .ok (.getfield 21, 3) := by decide +kernel
theorem dX2_remove_38 : decode cX2_remove 38 = .ok (.iconst 1, 1) := by decide +kernel
theorem dX2_remove_39 : decode cX2_remove 39 = .ok (.isub, 1) := by decide +kernel
theorem dX2_remove_40 : decode cX2_remove 40 = .ok (.putfield 21, 3) := by decide +kernel
theorem dX2_remove_43 : decode cX2_remove 43 = .ok (.return_, 1) := by decide +kernel
set_option maxRecDepth 20000 in
theorem ggX2_exchangeWithNext_X2_exchangeInRow : GoodIn wsX2_exchangeWithNext wsX2_exchangeInRow := goodIn_r _ [7, 8, 9, 10, 11, 12] (by decide +kernel) (by decide +kernel)
set_option maxRecDepth 20000 in
theorem gX2_exchangeWithNext_X2_exchangeInRow : GoodIn wsX2_exchangeWithNext (va_wsS RX2 46 yX2_exchangeInRow wsX2_exchangeInRow) := goodIn_app (goodIn_of _ (by decide +kernel)) ggX2_exchangeWithNext_X2_exchangeInRow
theorem dX2_exchangeWithNext_0 : decode cX2_exchangeWithNext 0 = .ok (.aload_n 0, 1) := by decide +kernel
theorem dX2_exchangeWithNext_1 : decode cX2_exchangeWithNext 1 = .ok (.getfield 9, 3) := by decide +kernel
theorem dX2_exchangeWithNext_4 : decode cX2_exchangeWithNext 4 = .ok (.iload_n 1, 1) := by decide +kernel
theorem dX2_exchangeWithNext_5 : decode cX2_exchangeWithNext 5 = .ok (.invokestatic 46, 3) := by decide +kernel
theorem dX2_exchangeWithNext_8 : decode cX2_exchangeWithNext 8 = .ok (.aload_n 0, 1) := by decide +kernel
theorem dX2_exchangeWithNext_9 : decode cX2_exchangeWithNext 9 = .ok (.getfield 15, 3) := by decide +kernel
theorem dX2_exchangeWithNext_12 : decode cX2_exchangeWithNext 12 = .ok (.iload_n 1, 1) := by decide +kernel
theorem dX2_exchangeWithNext_13 : decode cX2_exchangeWithNext 13 = .ok (.invokestatic 46, 3) := by decide +kernel
theorem dX2_exchangeWithNext_16 : decode cX2_exchangeWithNext 16 = .ok (.aload_n 0, 1) := by decide +kernel
theorem dX2_exchangeWithNext_17 : decode cX2_exchangeWithNext 17 = .ok (.getfield 18, 3) := by decide +kernel
theorem dX2_exchangeWithNext_20 : decode cX2_exchangeWithNext 20 = .ok (.iload_n 1, 1) := by decide +kernel
theorem dX2_exchangeWithNext_21 : decode cX2_exchangeWithNext 21 = .ok (.invokestatic 46, 3) := by decide +kernel
theorem dX2_exchangeWithNext_24 : decode cX2_exchangeWithNext 24 = .ok (.return_, 1) := by decide +kernel
set_option maxRecDepth 20000 in
theorem ggX2_openGap_X4_write : GoodIn wsX2_openGap wsX4_write := goodIn_r _ [3] (by decide +kernel) (by decide +kernel)
set_option maxRecDepth 20000 in
theorem gX2_openGap_X4_write_n49 : GoodIn wsX2_openGap (wsX4_write) := ggX2_openGap_X4_write
theorem dX2_openGap_0 : decode cX2_openGap 0 = .ok (.aload_n 0, 1) := by decide +kernel
theorem dX2_openGap_1 : decode cX2_openGap 1 = .ok (.arraylength, 1) := by decide +kernel
theorem dX2_openGap_2 : decode cX2_openGap 2 = .ok (.iconst 1, 1) := by decide +kernel
theorem dX2_openGap_3 : decode cX2_openGap 3 = .ok (.isub, 1) := by decide +kernel
theorem dX2_openGap_4 : decode cX2_openGap 4 = .ok (.istore_n 3, 1) := by decide +kernel
theorem dX2_openGap_5 : decode cX2_openGap 5 = .ok (.iload_n 3, 1) := by decide +kernel
theorem dX2_openGap_6 : decode cX2_openGap 6 = .ok (.iload_n 1, 1) := by decide +kernel
theorem dX2_openGap_7 : decode cX2_openGap 7 = .ok (.if_icmp .le 21, 3) := by decide +kernel
theorem dX2_openGap_10 : decode cX2_openGap 10 = .ok (.iload_n 3, 1) := by decide +kernel
theorem dX2_openGap_11 : decode cX2_openGap 11 = .ok (.ifCond .le 17, 3) := by decide +kernel
theorem dX2_openGap_14 : decode cX2_openGap 14 = .ok (.aload_n 0, 1) := by decide +kernel
theorem dX2_openGap_15 : decode cX2_openGap 15 = .ok (.iload_n 3, 1) := by decide +kernel
theorem dX2_openGap_16 : decode cX2_openGap 16 = .ok (.aload_n 0, 1) := by decide +kernel
theorem dX2_openGap_17 : decode cX2_openGap 17 = .ok (.iload_n 3, 1) := by decide +kernel
theorem dX2_openGap_18 : decode cX2_openGap 18 = .ok (.iconst 1, 1) := by decide +kernel
theorem dX2_openGap_19 : decode cX2_openGap 19 = .ok (.isub, 1) := by decide +kernel
theorem dX2_openGap_20 : decode cX2_openGap 20 = .ok (.iaload, 1) := by decide +kernel
theorem dX2_openGap_21 : decode cX2_openGap 21 = .ok (.iastore, 1) := by decide +kernel
theorem dX2_openGap_22 : decode cX2_openGap 22 = .ok (.iinc 3 (-1), 3) := by decide +kernel
theorem dX2_openGap_25 : decode cX2_openGap 25 = .ok (.goto (-20), 3) := by decide +kernel
theorem dX2_openGap_28 : decode cX2_openGap 28 = .ok (.aload_n 0, 1) := by decide +kernel
theorem dX2_openGap_29 : decode cX2_openGap 29 = .ok (.iload_n 1, 1) := by decide +kernel
theorem dX2_openGap_30 : decode cX2_openGap 30 = .ok (.iload_n 2, 1) := by decide +kernel
theorem dX2_openGap_31 : decode cX2_openGap 31 = .ok (.invokestatic 49, 3) := by decide +kernel
theorem dX2_openGap_34 : decode cX2_openGap 34 = .ok (.return_, 1) := by decide +kernel
theorem dX2_closeGap_0 : decode cX2_closeGap 0 = .ok (.iload_n 1, 1) := by decide +kernel
theorem dX2_closeGap_1 : decode cX2_closeGap 1 = .ok (.ifCond .ge 4, 3) := by decide +kernel
theorem dX2_closeGap_4 : decode cX2_closeGap 4 = .ok (.return_, 1) := by decide +kernel
theorem dX2_closeGap_5 : decode cX2_closeGap 5 = .ok (.iload_n 1, 1) := by decide +kernel
theorem dX2_closeGap_6 : decode cX2_closeGap 6 = .ok (.istore_n 2, 1) := by decide +kernel
theorem dX2_closeGap_7 : decode cX2_closeGap 7 = .ok (.iload_n 2, 1) := by decide +kernel
theorem dX2_closeGap_8 : decode cX2_closeGap 8 = .ok (.aload_n 0, 1) := by decide +kernel
theorem dX2_closeGap_9 : decode cX2_closeGap 9 = .ok (.arraylength, 1) := by decide +kernel
theorem dX2_closeGap_10 : decode cX2_closeGap 10 = .ok (.iconst 1, 1) := by decide +kernel
theorem dX2_closeGap_11 : decode cX2_closeGap 11 = .ok (.isub, 1) := by decide +kernel
theorem dX2_closeGap_12 : decode cX2_closeGap 12 = .ok (.if_icmp .ge 17, 3) := by decide +kernel
theorem dX2_closeGap_15 : decode cX2_closeGap 15 = .ok (.aload_n 0, 1) := by decide +kernel
theorem dX2_closeGap_16 : decode cX2_closeGap 16 = .ok (.iload_n 2, 1) := by decide +kernel
theorem dX2_closeGap_17 : decode cX2_closeGap 17 = .ok (.aload_n 0, 1) := by decide +kernel
theorem dX2_closeGap_18 : decode cX2_closeGap 18 = .ok (.iload_n 2, 1) := by decide +kernel
theorem dX2_closeGap_19 : decode cX2_closeGap 19 = .ok (.iconst 1, 1) := by decide +kernel
theorem dX2_closeGap_20 : decode cX2_closeGap 20 = .ok (.iadd, 1) := by decide +kernel
theorem dX2_closeGap_21 : decode cX2_closeGap 21 = .ok (.iaload, 1) := by decide +kernel
theorem dX2_closeGap_22 : decode cX2_closeGap 22 = .ok (.iastore, 1) := by decide +kernel
theorem dX2_closeGap_23 : decode cX2_closeGap 23 = .ok (.iinc 2 1, 3) := by decide +kernel
theorem dX2_closeGap_26 : decode cX2_closeGap 26 = .ok (.goto (-19), 3) := by decide +kernel
theorem dX2_closeGap_29 : decode cX2_closeGap 29 = .ok (.return_, 1) := by decide +kernel
set_option maxRecDepth 20000 in
theorem ggX2_exchangeInRow_X4_read : GoodIn wsX2_exchangeInRow wsX4_read := goodIn_r _ [3] (by decide +kernel) (by decide +kernel)
set_option maxRecDepth 20000 in
theorem gX2_exchangeInRow_X4_read_n52 : GoodIn wsX2_exchangeInRow (wsX4_read) := ggX2_exchangeInRow_X4_read
set_option maxRecDepth 20000 in
theorem ggX2_exchangeInRow_X4_write : GoodIn wsX2_exchangeInRow wsX4_write := goodIn_r _ [5] (by decide +kernel) (by decide +kernel)
set_option maxRecDepth 20000 in
theorem gX2_exchangeInRow_X4_write_n49 : GoodIn wsX2_exchangeInRow (wsX4_write) := ggX2_exchangeInRow_X4_write
theorem dX2_exchangeInRow_0 : decode cX2_exchangeInRow 0 = .ok (.aload_n 0, 1) := by decide +kernel
theorem dX2_exchangeInRow_1 : decode cX2_exchangeInRow 1 = .ok (.iload_n 1, 1) := by decide +kernel
theorem dX2_exchangeInRow_2 : decode cX2_exchangeInRow 2 = .ok (.invokestatic 52, 3) := by decide +kernel
theorem dX2_exchangeInRow_5 : decode cX2_exchangeInRow 5 = .ok (.istore_n 2, 1) := by decide +kernel
theorem dX2_exchangeInRow_6 : decode cX2_exchangeInRow 6 = .ok (.aload_n 0, 1) := by decide +kernel
theorem dX2_exchangeInRow_7 : decode cX2_exchangeInRow 7 = .ok (.iload_n 1, 1) := by decide +kernel
theorem dX2_exchangeInRow_8 : decode cX2_exchangeInRow 8 = .ok (.aload_n 0, 1) := by decide +kernel
theorem dX2_exchangeInRow_9 : decode cX2_exchangeInRow 9 = .ok (.iload_n 1, 1) := by decide +kernel
theorem dX2_exchangeInRow_10 : decode cX2_exchangeInRow 10 = .ok (.iconst 1, 1) := by decide +kernel
theorem dX2_exchangeInRow_11 : decode cX2_exchangeInRow 11 = .ok (.iadd, 1) := by decide +kernel
theorem dX2_exchangeInRow_12 : decode cX2_exchangeInRow 12 = .ok (.invokestatic 52, 3) := by decide +kernel
theorem dX2_exchangeInRow_15 : decode cX2_exchangeInRow 15 = .ok (.invokestatic 49, 3) := by decide +kernel
theorem dX2_exchangeInRow_18 : decode cX2_exchangeInRow 18 = .ok (.aload_n 0, 1) := by decide +kernel
theorem dX2_exchangeInRow_19 : decode cX2_exchangeInRow 19 = .ok (.iload_n 1, 1) := by decide +kernel
theorem dX2_exchangeInRow_20 : decode cX2_exchangeInRow 20 = .ok (.iconst 1, 1) := by decide +kernel
theorem dX2_exchangeInRow_21 : decode cX2_exchangeInRow 21 = .ok (.iadd, 1) := by decide +kernel
theorem dX2_exchangeInRow_22 : decode cX2_exchangeInRow 22 = .ok (.iload_n 2, 1) := by decide +kernel
theorem dX2_exchangeInRow_23 : decode cX2_exchangeInRow 23 = .ok (.invokestatic 49, 3) := by decide +kernel
theorem dX2_exchangeInRow_26 : decode cX2_exchangeInRow 26 = .ok (.return_, 1) := by decide +kernel
theorem dX3_init_0 : decode cX3_init 0 = .ok (.aload_n 0, 1) := by decide +kernel
theorem dX3_init_1 : decode cX3_init 1 = .ok (.invokespecial 3, 3) := by decide +kernel
theorem dX3_init_4 : decode cX3_init 4 = .ok (.aload_n 0, 1) := by decide +kernel
theorem dX3_init_5 : decode cX3_init 5 = .ok (.bipush 60, 2) := by decide +kernel
theorem dX3_init_7 : decode cX3_init 7 = .ok (.newarray .int, 2) := by decide +kernel
theorem dX3_init_9 : decode cX3_init 9 = .ok (.putfield 9, 3) := by decide +kernel
theorem dX3_init_12 : decode cX3_init 12 = .ok (.aload_n 0, 1) := by decide +kernel
theorem dX3_init_13 : decode cX3_init 13 = .ok (.iconst 0, 1) := by decide +kernel
theorem dX3_init_14 : decode cX3_init 14 = .ok (.putfield 15, 3) := by decide +kernel
theorem dX3_init_17 : decode cX3_init 17 = .ok (.return_, 1) := by decide +kernel
set_option maxRecDepth 20000 in
theorem ggX4_init_X2_init : GoodIn wsX4_init wsX2_init := goodIn_r _ [23, 24, 2, 3, 25, 26, 27, 28, 29, 30, 60, 61, 62, 63, 64] (by decide +kernel) (by decide +kernel)
set_option maxRecDepth 20000 in
theorem gX4_init_X2_init_n11 : GoodIn wsX4_init (wsX2_init) := ggX4_init_X2_init
set_option maxRecDepth 20000 in
theorem ggX4_init_X1_init : GoodIn wsX4_init wsX1_init := goodIn_r _ [32, 33, 2, 3, 25, 34, 35, 36, 37, 38, 39, 40, 41, 42, 43, 44, 45, 46, 47, 48, 71, 72, 73, 74, 75, 76, 77, 78, 79, 80, 81, 82, 83, 84, 85] (by decide +kernel) (by decide +kernel)
set_option maxRecDepth 20000 in
theorem gX4_init_X1_init_n18 : GoodIn wsX4_init (wsX1_init) := ggX4_init_X1_init
set_option maxRecDepth 20000 in
theorem ggX4_init_X0_init : GoodIn wsX4_init wsX0_init := goodIn_r _ [50, 51, 2, 3, 52, 53, 54, 5, 6, 22, 23, 24, 25, 26, 27, 28, 29, 30, 86, 87, 60, 61, 62, 63, 64] (by decide +kernel) (by decide +kernel)
set_option maxRecDepth 20000 in
theorem gX4_init_X0_init_n31 : GoodIn wsX4_init (wsX0_init) := ggX4_init_X0_init
set_option maxRecDepth 20000 in
theorem ggX4_init_X3_init : GoodIn wsX4_init wsX3_init := goodIn_r _ [56, 57, 2, 3, 25, 58, 59, 88, 89] (by decide +kernel) (by decide +kernel)
set_option maxRecDepth 20000 in
theorem gX4_init_X3_init_n38 : GoodIn wsX4_init (wsX3_init) := ggX4_init_X3_init
theorem dX4_init_0 : decode cX4_init 0 = .ok (.aload_n 0, 1) := by decide +kernel
theorem dX4_init_1 : decode cX4_init 1 = .ok (.invokespecial 3, 3) := by decide +kernel
theorem dX4_init_4 : decode cX4_init 4 = .ok (.aload_n 0, 1) := by decide +kernel
theorem dX4_init_5 : decode cX4_init 5 = .ok (.new 9, 3) := by decide +kernel
theorem dX4_init_8 : decode cX4_init 8 = .ok (.dup, 1) := by decide +kernel
theorem dX4_init_9 : decode cX4_init 9 = .ok (.invokespecial 11, 3) := by decide +kernel
theorem dX4_init_12 : decode cX4_init 12 = .ok (.putfield 12, 3) := by decide +kernel
theorem dX4_init_15 : decode cX4_init 15 = .ok (.aload_n 0, 1) := by decide +kernel
theorem dX4_init_16 : decode cX4_init 16 = .ok (.new 16, 3) := by decide +kernel
theorem dX4_init_19 : decode cX4_init 19 = .ok (.dup, 1) := by decide +kernel
theorem dX4_init_20 : decode cX4_init 20 = .ok (.invokespecial 18, 3) := by decide +kernel
theorem dX4_init_23 : decode cX4_init 23 = .ok (.putfield 19, 3) := by decide +kernel
theorem dX4_init_26 : decode cX4_init 26 = .ok (.aload_n 0, 1) := by decide +kernel
theorem dX4_init_27 : decode cX4_init 27 = .ok (.new 9, 3) := by decide +kernel
theorem dX4_init_30 : decode cX4_init 30 = .ok (.dup, 1) := by decide +kernel
theorem dX4_init_31 : decode cX4_init 31 = .ok (.invokespecial 11, 3) := by decide +kernel
theorem dX4_init_34 : decode cX4_init 34 = .ok (.putfield 23, 3) := by decide +kernel
theorem dX4_init_37 : decode cX4_init 37 = .ok (.aload_n 0, 1) := by decide +kernel
theorem dX4_init_38 : decode cX4_init 38 = .ok (.new 16, 3) := by decide +kernel
theorem dX4_init_41 : decode cX4_init 41 = .ok (.dup, 1) := by decide +kernel
theorem dX4_init_42 : decode cX4_init 42 = .ok (.invokespecial 18, 3) := by decide +kernel
theorem dX4_init_45 : decode cX4_init 45 = .ok (.putfield 26, 3) := by decide +kernel
theorem dX4_init_48 : decode cX4_init 48 = .ok (.aload_n 0, 1) := by decide +kernel
theorem dX4_init_49 : decode cX4_init 49 = .ok (.new 29, 3) := by decide +kernel
theorem dX4_init_52 : decode cX4_init 52 = .ok (.dup, 1) := by decide +kernel
theorem dX4_init_53 : decode cX4_init 53 = .ok (.invokespecial 31, 3) := by decide +kernel
theorem dX4_init_56 : decode cX4_init 56 = .ok (.putfield 32, 3) := by decide +kernel
theorem dX4_init_59 : decode cX4_init 59 = .ok (.aload_n 0, 1) := by decide +kernel
theorem dX4_init_60 : decode cX4_init 60 = .ok (.new 36, 3) := by decide +kernel
theorem dX4_init_63 : decode cX4_init 63 = .ok (.dup, 1) := by decide +kernel
theorem dX4_init_64 : decode cX4_init 64 = .ok (.invokespecial 38, 3) := by decide +kernel
theorem dX4_init_67 : decode cX4_init 67 = .ok (.putfield 39, 3) := by decide +kernel
theorem dX4_init_70 : decode cX4_init 70 = .ok (.return_, 1) := by decide +kernel
set_option maxRecDepth 20000 in
theorem ggX4_put_X4_isWithin : GoodIn wsX4_put wsX4_isWithin := goodIn_r _ [13] (by decide +kernel) (by decide +kernel)
set_option maxRecDepth 20000 in
theorem gX4_put_X4_isWithin : GoodIn wsX4_put (va_wsS RX4 47 yX4_isWithin wsX4_isWithin) := goodIn_app (goodIn_of _ (by decide +kernel)) ggX4_put_X4_isWithin
set_option maxRecDepth 20000 in
theorem ggX4_put_X4_isPanelSize : GoodIn wsX4_put wsX4_isPanelSize := goodIn_r _ [16, 10, 11, 12, 13] (by decide +kernel) (by decide +kernel)
set_option maxRecDepth 20000 in
theorem gX4_put_X4_isPanelSize : GoodIn wsX4_put (va_wsS RX4 58 yX4_isPanelSize wsX4_isPanelSize) := goodIn_app (goodIn_of _ (by decide +kernel)) ggX4_put_X4_isPanelSize
set_option maxRecDepth 20000 in
theorem ggX4_put_X0_save : GoodIn wsX4_put wsX0_save := goodIn_r _ [20, 21, 22, 23, 24, 18, 25, 26, 27, 28, 29, 30, 31, 32, 33, 34, 35, 36, 37, 38, 39, 40, 41, 42, 43, 127, 128, 122, 123, 124, 125, 126] (by decide +kernel) (by decide +kernel)
set_option maxRecDepth 20000 in
theorem gX4_put_X0_save_n72 : GoodIn wsX4_put (wsX0_save) := ggX4_put_X0_save
set_option maxRecDepth 20000 in
theorem ggX4_put_X2_insert : GoodIn wsX4_put wsX2_insert := goodIn_r _ [46, 42, 35, 40, 41, 47, 48, 32, 49, 50, 12, 51, 122, 123, 124, 125, 126] (by decide +kernel) (by decide +kernel)
set_option maxRecDepth 20000 in
theorem gX4_put_X2_insert_n76 : GoodIn wsX4_put (wsX2_insert) := ggX4_put_X2_insert
set_option maxRecDepth 20000 in
theorem ggX4_put_X1_pour : GoodIn wsX4_put wsX1_pour := goodIn_r _ [55, 56, 57, 58, 59, 53, 60, 61, 62, 63, 64, 65, 66, 67, 68, 69, 70, 71, 72, 73, 74, 75, 76, 77, 78, 79, 80, 12, 81, 82, 83, 84, 85, 86, 87, 88, 89, 90, 91, 92, 93, 94, 95, 96, 97, 98, 99, 100, 101, 102, 103, 104, 105, 106, 107, 108, 109, 110, 111, 112, 113, 114, 115, 50, 51, 122, 123, 124, 125, 126, 129, 130, 131, 132, 133, 134, 135, 136, 137, 138, 139, 140, 141, 142, 143] (by decide +kernel) (by decide +kernel)
set_option maxRecDepth 20000 in
theorem gX4_put_X1_pour_n80 : GoodIn wsX4_put (wsX1_pour) := ggX4_put_X1_pour
theorem dX4_put_0 : decode cX4_put 0 = .ok (.iload_n 1, 1) := by decide +kernel
theorem dX4_put_1 : decode cX4_put 1 = .ok (.iconst 0, 1) := by decide +kernel
theorem dX4_put_2 : decode cX4_put 2 = .ok (.aload_n 0, 1) := by decide +kernel
theorem dX4_put_3 : decode cX4_put 3 = .ok (.getfield 12, 3) := by decide +kernel
theorem dX4_put_6 : decode cX4_put 6 = .ok (.getfield 43, 3) := by decide +kernel
theorem dX4_put_9 : decode cX4_put 9 = .ok (.invokestatic 47, 3) := by decide +kernel
theorem dX4_put_12 : decode cX4_put 12 = .ok (.ifCond .ne 13, 3) := by decide +kernel
theorem dX4_put_15 : decode cX4_put 15 = .ok (.new 51, 3) := by decide +kernel
theorem dX4_put_18 : decode cX4_put 18 = .ok (.dup, 1) := by decide +kernel
theorem dX4_put_19 : decode cX4_put 19 = .ok (.ldc 53, 2) := by decide +kernel
theorem dX4_put_21 : decode cX4_put 21 = .ok (.invokespecial 55, 3) := by decide +kernel
theorem dX4_put_24 : decode cX4_put 24 = .ok (.athrow, 1) := by decide +kernel
theorem dX4_put_25 : decode cX4_put 25 = .ok (.iload_n 2, 1) := by decide +kernel
theorem dX4_put_26 : decode cX4_put 26 = .ok (.iconst 0, 1) := by decide +kernel
theorem dX4_put_27 : decode cX4_put 27 = .ok (.iconst 3, 1) := by decide +kernel
theorem dX4_put_28 : decode cX4_put 28 = .ok (.invokestatic 47, 3) := by decide +kernel
theorem dX4_put_31 : decode cX4_put 31 = .ok (.ifCond .eq 12, 3) := by decide +kernel
theorem dX4_put_34 : decode cX4_put 34 = .ok (.iload_n 3, 1) := by decide +kernel
theorem dX4_put_35 : decode cX4_put 35 = .ok (.iload 4, 2) := by decide +kernel
theorem dX4_put_37 : decode cX4_put 37 = .ok (.invokestatic 58, 3) := by decide +kernel
theorem dX4_put_40 : decode cX4_put 40 = .ok (.ifCond .ne 13, 3) := by decide +kernel
theorem dX4_put_43 : decode cX4_put 43 = .ok (.new 62, 3) := by decide +kernel
theorem dX4_put_46 : decode cX4_put 46 = .ok (.dup, 1) := by decide +kernel
theorem dX4_put_47 : decode cX4_put 47 = .ok (.ldc 64, 2) := by decide +kernel
theorem dX4_put_49 : decode cX4_put 49 = .ok (.invokespecial 66, 3) := by decide +kernel
theorem dX4_put_52 : decode cX4_put 52 = .ok (.athrow, 1) := by decide +kernel
theorem dX4_put_53 : decode cX4_put 53 = .ok (.aload_n 0, 1) := by decide +kernel
theorem dX4_put_54 : decode cX4_put 54 = .ok (.getfield 12, 3) := by decide +kernel
theorem dX4_put_57 : decode cX4_put 57 = .ok (.getfield 43, 3) := by decide +kernel
theorem dX4_put_60 : decode cX4_put 60 = .ok (.bipush 24, 2) := by decide +kernel
theorem dX4_put_62 : decode cX4_put 62 = .ok (.if_icmp .lt 13, 3) := by decide +kernel
theorem dX4_put_65 : decode cX4_put 65 = .ok (.new 67, 3) := by decide +kernel
theorem dX4_put_68 : decode cX4_put 68 = .ok (.dup, 1) := by decide +kernel
theorem dX4_put_69 : decode cX4_put 69 = .ok (.ldc 69, 2) := by decide +kernel
theorem dX4_put_71 : decode cX4_put 71 = .ok (.invokespecial 71, 3) := by decide +kernel
theorem dX4_put_74 : decode cX4_put 74 = .ok (.athrow, 1) := by decide +kernel
theorem dX4_put_75 : decode cX4_put 75 = .ok (.aload_n 0, 1) := by decide +kernel
theorem dX4_put_76 : decode cX4_put 76 = .ok (.getfield 32, 3) := by decide +kernel
theorem dX4_put_79 : decode cX4_put 79 = .ok (.aload_n 0, 1) := by decide +kernel
theorem dX4_put_80 : decode cX4_put 80 = .ok (.getfield 12, 3) := by decide +kernel
theorem dX4_put_83 : decode cX4_put 83 = .ok (.invokevirtual 72, 3) := by decide +kernel
theorem dX4_put_86 : decode cX4_put 86 = .ok (.aload_n 0, 1) := by decide +kernel
theorem dX4_put_87 : decode cX4_put 87 = .ok (.getfield 12, 3) := by decide +kernel
theorem dX4_put_90 : decode cX4_put 90 = .ok (.iload_n 1, 1) := by decide +kernel
theorem dX4_put_91 : decode cX4_put 91 = .ok (.iload_n 2, 1) := by decide +kernel
theorem dX4_put_92 : decode cX4_put 92 = .ok (.iload_n 3, 1) := by decide +kernel
theorem dX4_put_93 : decode cX4_put 93 = .ok (.iload 4, 2) := by decide +kernel
theorem dX4_put_95 : decode cX4_put 95 = .ok (.invokevirtual 76, 3) := by decide +kernel
theorem dX4_put_98 : decode cX4_put 98 = .ok (.aload_n 0, 1) := by decide +kernel
theorem dX4_put_99 : decode cX4_put 99 = .ok (.getfield 19, 3) := by decide +kernel
theorem dX4_put_102 : decode cX4_put 102 = .ok (.aload_n 0, 1) := by decide +kernel
theorem dX4_put_103 : decode cX4_put 103 = .ok (.getfield 12, 3) := by decide +kernel
theorem dX4_put_106 : decode cX4_put 106 = .ok (.invokevirtual 80, 3) := by decide +kernel
theorem dX4_put_109 : decode cX4_put 109 = .ok (.aload_n 0, 1) := by decide +kernel
theorem dX4_put_110 : decode cX4_put 110 = .ok (.getfield 12, 3) := by decide +kernel
theorem dX4_put_113 : decode cX4_put 113 = .ok (.getfield 43, 3) := by decide +kernel
theorem dX4_put_116 : decode cX4_put 116 = .ok (.ireturn, 1) := by decide +kernel
set_option maxRecDepth 20000 in
theorem ggX4_take_X2_has : GoodIn wsX4_take wsX2_has := goodIn_r _ [9, 10, 116, 117, 118, 119, 120] (by decide +kernel) (by decide +kernel)
set_option maxRecDepth 20000 in
theorem gX4_take_X2_has_n83 : GoodIn wsX4_take (wsX2_has) := ggX4_take_X2_has
set_option maxRecDepth 20000 in
theorem ggX4_take_X0_save : GoodIn wsX4_take wsX0_save := goodIn_r _ [14, 15, 16, 17, 18, 12, 19, 20, 21, 22, 23, 24, 25, 7, 26, 27, 28, 29, 30, 31, 32, 33, 34, 10, 35, 121, 122, 116, 117, 118, 119, 120] (by decide +kernel) (by decide +kernel)
set_option maxRecDepth 20000 in
theorem gX4_take_X0_save_n72 : GoodIn wsX4_take (wsX0_save) := ggX4_take_X0_save
set_option maxRecDepth 20000 in
theorem ggX4_take_X2_remove : GoodIn wsX4_take wsX2_remove := goodIn_r _ [38, 28, 33, 34, 10, 39, 6, 8, 7, 9, 40, 41, 42, 116, 117, 118, 119, 120] (by decide +kernel) (by decide +kernel)
set_option maxRecDepth 20000 in
theorem gX4_take_X2_remove_n89 : GoodIn wsX4_take (wsX2_remove) := ggX4_take_X2_remove
set_option maxRecDepth 20000 in
theorem ggX4_take_X1_pour : GoodIn wsX4_take wsX1_pour := goodIn_r _ [46, 47, 48, 49, 50, 44, 51, 52, 53, 54, 55, 56, 57, 58, 59, 60, 61, 62, 63, 64, 65, 66, 67, 68, 69, 70, 71, 72, 73, 74, 75, 76, 77, 78, 79, 80, 81, 82, 83, 84, 85, 86, 87, 88, 89, 90, 91, 92, 93, 94, 95, 96, 97, 98, 99, 100, 101, 102, 103, 104, 105, 106, 107, 108, 109, 116, 117, 118, 119, 120, 123, 124, 125, 126, 127, 128, 129, 130, 131, 132, 133, 134, 135, 136, 137] (by decide +kernel) (by decide +kernel)
set_option maxRecDepth 20000 in
theorem gX4_take_X1_pour_n80 : GoodIn wsX4_take (wsX1_pour) := ggX4_take_X1_pour
theorem dX4_take_0 : decode cX4_take 0 = .ok (.aload_n 0, 1) := by decide +kernel
theorem dX4_take_1 : decode cX4_take 1 = .ok (.getfield 12, 3) := by decide +kernel
theorem dX4_take_4 : decode cX4_take 4 = .ok (.iload_n 1, 1) := by decide +kernel
theorem dX4_take_5 : decode cX4_take 5 = .ok (.invokevirtual 83, 3) := by decide +kernel
theorem dX4_take_8 : decode cX4_take 8 = .ok (.ifCond .ne 13, 3) := by decide +kernel
theorem dX4_take_11 : decode cX4_take 11 = .ok (.new 51, 3) := by decide +kernel
theorem dX4_take_14 : decode cX4_take 14 = .ok (.dup, 1) := by decide +kernel
theorem dX4_take_15 : decode cX4_take 15 = .ok (.ldc 87, 2) := by decide +kernel
theorem dX4_take_17 : decode cX4_take 17 = .ok (.invokespecial 55, 3) := by decide +kernel
theorem dX4_take_20 : decode cX4_take 20 = .ok (.athrow, 1) := by decide +kernel
theorem dX4_take_21 : decode cX4_take 21 = .ok (.aload_n 0, 1) := by decide +kernel
theorem dX4_take_22 : decode cX4_take 22 = .ok (.getfield 32, 3) := by decide +kernel
theorem dX4_take_25 : decode cX4_take 25 = .ok (.aload_n 0, 1) := by decide +kernel
theorem dX4_take_26 : decode cX4_take 26 = .ok (.getfield 12, 3) := by decide +kernel
theorem dX4_take_29 : decode cX4_take 29 = .ok (.invokevirtual 72, 3) := by decide +kernel
theorem dX4_take_32 : decode cX4_take 32 = .ok (.aload_n 0, 1) := by decide +kernel
theorem dX4_take_33 : decode cX4_take 33 = .ok (.getfield 12, 3) := by decide +kernel
theorem dX4_take_36 : decode cX4_take 36 = .ok (.iload_n 1, 1) := by decide +kernel
theorem dX4_take_37 : decode cX4_take 37 = .ok (.invokevirtual 89, 3) := by decide +kernel
theorem dX4_take_40 : decode cX4_take 40 = .ok (.aload_n 0, 1) := by decide +kernel
theorem dX4_take_41 : decode cX4_take 41 = .ok (.getfield 19, 3) := by decide +kernel
theorem dX4_take_44 : decode cX4_take 44 = .ok (.aload_n 0, 1) := by decide +kernel
theorem dX4_take_45 : decode cX4_take 45 = .ok (.getfield 12, 3) := by decide +kernel
theorem dX4_take_48 : decode cX4_take 48 = .ok (.invokevirtual 80, 3) := by decide +kernel
theorem dX4_take_51 : decode cX4_take 51 = .ok (.aload_n 0, 1) := by decide +kernel
theorem dX4_take_52 : decode cX4_take 52 = .ok (.getfield 12, 3) := by decide +kernel
theorem dX4_take_55 : decode cX4_take 55 = .ok (.getfield 43, 3) := by decide +kernel
theorem dX4_take_58 : decode cX4_take 58 = .ok (.ireturn, 1) := by decide +kernel
set_option maxRecDepth 20000 in
theorem ggX4_change_X2_has : GoodIn wsX4_change wsX2_has := goodIn_r _ [11, 12, 118, 119, 120, 121, 122] (by decide +kernel) (by decide +kernel)
set_option maxRecDepth 20000 in
theorem gX4_change_X2_has_n83 : GoodIn wsX4_change (wsX2_has) := ggX4_change_X2_has
set_option maxRecDepth 20000 in
theorem ggX4_change_X4_isPanelSize : GoodIn wsX4_change wsX4_isPanelSize := goodIn_r _ [16, 17, 18, 15, 19] (by decide +kernel) (by decide +kernel)
set_option maxRecDepth 20000 in
theorem gX4_change_X4_isPanelSize : GoodIn wsX4_change (va_wsS RX4 58 yX4_isPanelSize wsX4_isPanelSize) := goodIn_app (goodIn_of _ (by decide +kernel)) ggX4_change_X4_isPanelSize
set_option maxRecDepth 20000 in
theorem ggX4_change_X0_save : GoodIn wsX4_change wsX0_save := goodIn_r _ [23, 24, 25, 26, 27, 21, 28, 29, 30, 31, 32, 33, 34, 9, 35, 36, 37, 38, 39, 40, 41, 42, 43, 12, 44, 138, 139, 118, 119, 120, 121, 122] (by decide +kernel) (by decide +kernel)
set_option maxRecDepth 20000 in
theorem gX4_change_X0_save_n72 : GoodIn wsX4_change (wsX0_save) := ggX4_change_X0_save
set_option maxRecDepth 20000 in
theorem ggX4_change_X4_write : GoodIn wsX4_change wsX4_write := goodIn_r _ [47] (by decide +kernel) (by decide +kernel)
set_option maxRecDepth 20000 in
theorem gX4_change_X4_write : GoodIn wsX4_change (va_wsS RX4 99 yX4_write wsX4_write) := goodIn_app (goodIn_of _ (by decide +kernel)) ggX4_change_X4_write
set_option maxRecDepth 20000 in
theorem ggX4_change_X1_pour : GoodIn wsX4_change wsX1_pour := goodIn_r _ [51, 52, 53, 54, 55, 49, 56, 57, 58, 59, 60, 61, 62, 63, 64, 65, 66, 67, 68, 69, 70, 71, 72, 73, 74, 75, 76, 15, 77, 78, 79, 80, 81, 82, 83, 84, 85, 86, 87, 88, 89, 90, 91, 92, 93, 94, 95, 96, 97, 98, 99, 100, 101, 102, 103, 104, 105, 106, 107, 108, 109, 110, 111, 46, 47, 118, 119, 120, 121, 122, 123, 124, 125, 126, 127, 128, 129, 130, 131, 132, 133, 134, 135, 136, 137] (by decide +kernel) (by decide +kernel)
set_option maxRecDepth 20000 in
theorem gX4_change_X1_pour_n80 : GoodIn wsX4_change (wsX1_pour) := ggX4_change_X1_pour
theorem dX4_change_0 : decode cX4_change 0 = .ok (.aload_n 0, 1) := by decide +kernel
theorem dX4_change_1 : decode cX4_change 1 = .ok (.getfield 12, 3) := by decide +kernel
theorem dX4_change_4 : decode cX4_change 4 = .ok (.iload_n 1, 1) := by decide +kernel
theorem dX4_change_5 : decode cX4_change 5 = .ok (.invokevirtual 83, 3) := by decide +kernel
theorem dX4_change_8 : decode cX4_change 8 = .ok (.ifCond .ne 13, 3) := by decide +kernel
theorem dX4_change_11 : decode cX4_change 11 = .ok (.new 51, 3) := by decide +kernel
theorem dX4_change_14 : decode cX4_change 14 = .ok (.dup, 1) := by decide +kernel
theorem dX4_change_15 : decode cX4_change 15 = .ok (.ldc 87, 2) := by decide +kernel
theorem dX4_change_17 : decode cX4_change 17 = .ok (.invokespecial 55, 3) := by decide +kernel
theorem dX4_change_20 : decode cX4_change 20 = .ok (.athrow, 1) := by decide +kernel
theorem dX4_change_21 : decode cX4_change 21 = .ok (.iload_n 2, 1) := by decide +kernel
theorem dX4_change_22 : decode cX4_change 22 = .ok (.iload_n 3, 1) := by decide +kernel
theorem dX4_change_23 : decode cX4_change 23 = .ok (.invokestatic 58, 3) := by decide +kernel
theorem dX4_change_26 : decode cX4_change 26 = .ok (.ifCond .ne 13, 3) := by decide +kernel
theorem dX4_change_29 : decode cX4_change 29 = .ok (.new 62, 3) := by decide +kernel
theorem dX4_change_32 : decode cX4_change 32 = .ok (.dup, 1) := by decide +kernel
theorem dX4_change_33 : decode cX4_change 33 = .ok (.ldc 93, 2) := by decide +kernel
theorem dX4_change_35 : decode cX4_change 35 = .ok (.invokespecial 66, 3) := by decide +kernel
theorem dX4_change_38 : decode cX4_change 38 = .ok (.athrow, 1) := by decide +kernel
theorem dX4_change_39 : decode cX4_change 39 = .ok (.aload_n 0, 1) := by decide +kernel
theorem dX4_change_40 : decode cX4_change 40 = .ok (.getfield 32, 3) := by decide +kernel
theorem dX4_change_43 : decode cX4_change 43 = .ok (.aload_n 0, 1) := by decide +kernel
theorem dX4_change_44 : decode cX4_change 44 = .ok (.getfield 12, 3) := by decide +kernel
theorem dX4_change_47 : decode cX4_change 47 = .ok (.invokevirtual 72, 3) := by decide +kernel
theorem dX4_change_50 : decode cX4_change 50 = .ok (.aload_n 0, 1) := by decide +kernel
theorem dX4_change_51 : decode cX4_change 51 = .ok (.getfield 12, 3) := by decide +kernel
theorem dX4_change_54 : decode cX4_change 54 = .ok (.getfield 95, 3) := by decide +kernel
theorem dX4_change_57 : decode cX4_change 57 = .ok (.iload_n 1, 1) := by decide +kernel
theorem dX4_change_58 : decode cX4_change 58 = .ok (.iload_n 2, 1) := by decide +kernel
theorem dX4_change_59 : decode cX4_change 59 = .ok (.invokestatic 99, 3) := by decide +kernel
theorem dX4_change_62 : decode cX4_change 62 = .ok (.aload_n 0, 1) := by decide +kernel
theorem dX4_change_63 : decode cX4_change 63 = .ok (.getfield 12, 3) := by decide +kernel
theorem dX4_change_66 : decode cX4_change 66 = .ok (.getfield 103, 3) := by decide +kernel
theorem dX4_change_69 : decode cX4_change 69 = .ok (.iload_n 1, 1) := by decide +kernel
theorem dX4_change_70 : decode cX4_change 70 = .ok (.iload_n 3, 1) := by decide +kernel
theorem dX4_change_71 : decode cX4_change 71 = .ok (.invokestatic 99, 3) := by decide +kernel
theorem dX4_change_74 : decode cX4_change 74 = .ok (.aload_n 0, 1) := by decide +kernel
theorem dX4_change_75 : decode cX4_change 75 = .ok (.getfield 19, 3) := by decide +kernel
theorem dX4_change_78 : decode cX4_change 78 = .ok (.aload_n 0, 1) := by decide +kernel
theorem dX4_change_79 : decode cX4_change 79 = .ok (.getfield 12, 3) := by decide +kernel
theorem dX4_change_82 : decode cX4_change 82 = .ok (.invokevirtual 80, 3) := by decide +kernel
theorem dX4_change_85 : decode cX4_change 85 = .ok (.aload_n 0, 1) := by decide +kernel
theorem dX4_change_86 : decode cX4_change 86 = .ok (.getfield 19, 3) := by decide +kernel
theorem dX4_change_89 : decode cX4_change 89 = .ok (.getfield 106, 3) := by decide +kernel
theorem dX4_change_92 : decode cX4_change 92 = .ok (.ireturn, 1) := by decide +kernel
set_option maxRecDepth 20000 in
theorem ggX4_set_X4_isWithin : GoodIn wsX4_set wsX4_isWithin := goodIn_r _ [9] (by decide +kernel) (by decide +kernel)
set_option maxRecDepth 20000 in
theorem gX4_set_X4_isWithin : GoodIn wsX4_set (va_wsS RX4 47 yX4_isWithin wsX4_isWithin) := goodIn_app (goodIn_of _ (by decide +kernel)) ggX4_set_X4_isWithin
set_option maxRecDepth 20000 in
theorem ggX4_set_X0_save : GoodIn wsX4_set wsX0_save := goodIn_r _ [13, 14, 15, 16, 17, 11, 18, 19, 20, 21, 22, 23, 24, 25, 26, 27, 28, 29, 30, 31, 32, 33, 34, 35, 36, 114, 115, 109, 110, 111, 112, 113] (by decide +kernel) (by decide +kernel)
set_option maxRecDepth 20000 in
theorem gX4_set_X0_save_n72 : GoodIn wsX4_set (wsX0_save) := ggX4_set_X0_save
set_option maxRecDepth 20000 in
theorem ggX4_set_X1_pour : GoodIn wsX4_set wsX1_pour := goodIn_r _ [40, 41, 42, 43, 44, 38, 45, 46, 47, 48, 49, 50, 51, 52, 53, 54, 55, 56, 57, 58, 59, 60, 61, 62, 63, 64, 65, 8, 66, 67, 68, 69, 70, 71, 72, 73, 74, 75, 76, 77, 78, 79, 80, 81, 82, 83, 84, 85, 86, 87, 88, 89, 90, 91, 92, 93, 94, 95, 96, 97, 98, 99, 100, 101, 102, 109, 110, 111, 112, 113, 116, 117, 118, 119, 120, 121, 122, 123, 124, 125, 126, 127, 128, 129, 130] (by decide +kernel) (by decide +kernel)
set_option maxRecDepth 20000 in
theorem gX4_set_X1_pour_n80 : GoodIn wsX4_set (wsX1_pour) := ggX4_set_X1_pour
theorem dX4_set_0 : decode cX4_set 0 = .ok (.iload_n 1, 1) := by decide +kernel
theorem dX4_set_1 : decode cX4_set 1 = .ok (.bipush 9, 2) := by decide +kernel
theorem dX4_set_3 : decode cX4_set 3 = .ok (.bipush 60, 2) := by decide +kernel
theorem dX4_set_5 : decode cX4_set 5 = .ok (.invokestatic 47, 3) := by decide +kernel
theorem dX4_set_8 : decode cX4_set 8 = .ok (.ifCond .ne 13, 3) := by decide +kernel
theorem dX4_set_11 : decode cX4_set 11 = .ok (.new 62, 3) := by decide +kernel
theorem dX4_set_14 : decode cX4_set 14 = .ok (.dup, 1) := by decide +kernel
theorem dX4_set_15 : decode cX4_set 15 = .ok (.ldc 109, 2) := by decide +kernel
theorem dX4_set_17 : decode cX4_set 17 = .ok (.invokespecial 66, 3) := by decide +kernel
theorem dX4_set_20 : decode cX4_set 20 = .ok (.athrow, 1) := by decide +kernel
theorem dX4_set_21 : decode cX4_set 21 = .ok (.aload_n 0, 1) := by decide +kernel
theorem dX4_set_22 : decode cX4_set 22 = .ok (.getfield 12, 3) := by decide +kernel
theorem dX4_set_25 : decode cX4_set 25 = .ok (.getfield 111, 3) := by decide +kernel
theorem dX4_set_28 : decode cX4_set 28 = .ok (.istore_n 2, 1) := by decide +kernel
theorem dX4_set_29 : decode cX4_set 29 = .ok (.aload_n 0, 1) := by decide +kernel
theorem dX4_set_30 : decode cX4_set 30 = .ok (.getfield 32, 3) := by decide +kernel
theorem dX4_set_33 : decode cX4_set 33 = .ok (.aload_n 0, 1) := by decide +kernel
theorem dX4_set_34 : decode cX4_set 34 = .ok (.getfield 12, 3) := by decide +kernel
theorem dX4_set_37 : decode cX4_set 37 = .ok (.invokevirtual 72, 3) := by decide +kernel
theorem dX4_set_40 : decode cX4_set 40 = .ok (.aload_n 0, 1) := by decide +kernel
theorem dX4_set_41 : decode cX4_set 41 = .ok (.getfield 12, 3) := by decide +kernel
theorem dX4_set_44 : decode cX4_set 44 = .ok (.iload_n 1, 1) := by decide +kernel
theorem dX4_set_45 : decode cX4_set 45 = .ok (.putfield 111, 3) := by decide +kernel
theorem dX4_set_48 : decode cX4_set 48 = .ok (.aload_n 0, 1) := by decide +kernel
theorem dX4_set_49 : decode cX4_set 49 = .ok (.getfield 19, 3) := by decide +kernel
theorem dX4_set_52 : decode cX4_set 52 = .ok (.aload_n 0, 1) := by decide +kernel
theorem dX4_set_53 : decode cX4_set 53 = .ok (.getfield 12, 3) := by decide +kernel
theorem dX4_set_56 : decode cX4_set 56 = .ok (.invokevirtual 80, 3) := by decide +kernel
theorem dX4_set_59 : decode cX4_set 59 = .ok (.iload_n 2, 1) := by decide +kernel
theorem dX4_set_60 : decode cX4_set 60 = .ok (.ireturn, 1) := by decide +kernel
set_option maxRecDepth 20000 in
theorem ggX4_panel_X2_has : GoodIn wsX4_panel wsX2_has := goodIn_r _ [9, 10, 29, 30, 31, 32, 33] (by decide +kernel) (by decide +kernel)
set_option maxRecDepth 20000 in
theorem gX4_panel_X2_has_n83 : GoodIn wsX4_panel (wsX2_has) := ggX4_panel_X2_has
set_option maxRecDepth 20000 in
theorem ggX4_panel_X4_isWithin : GoodIn wsX4_panel wsX4_isWithin := goodIn_r _ [14] (by decide +kernel) (by decide +kernel)
set_option maxRecDepth 20000 in
theorem gX4_panel_X4_isWithin : GoodIn wsX4_panel (va_wsS RX4 47 yX4_isWithin wsX4_isWithin) := goodIn_app (goodIn_of _ (by decide +kernel)) ggX4_panel_X4_isWithin
set_option maxRecDepth 20000 in
theorem ggX4_panel_X4_numberOfPanel : GoodIn wsX4_panel wsX4_numberOfPanel := goodIn_r _ [18, 5, 19, 20, 21, 13, 22, 23, 24, 25, 26, 27, 28, 29, 30, 31, 32, 33, 34, 35, 36, 37, 38, 39, 40, 41, 42, 43, 44, 45, 46, 47, 48] (by decide +kernel) (by decide +kernel)
set_option maxRecDepth 20000 in
theorem gX4_panel_X4_numberOfPanel : GoodIn wsX4_panel (wsV RX4 145 RX4 yX4_numberOfPanel wsX4_numberOfPanel) := goodIn_app (goodIn_of _ (by decide +kernel)) ggX4_panel_X4_numberOfPanel
theorem dX4_panel_0 : decode cX4_panel 0 = .ok (.aload_n 0, 1) := by decide +kernel
theorem dX4_panel_1 : decode cX4_panel 1 = .ok (.getfield 12, 3) := by decide +kernel
theorem dX4_panel_4 : decode cX4_panel 4 = .ok (.iload_n 1, 1) := by decide +kernel
theorem dX4_panel_5 : decode cX4_panel 5 = .ok (.invokevirtual 83, 3) := by decide +kernel
theorem dX4_panel_8 : decode cX4_panel 8 = .ok (.ifCond .ne 13, 3) := by decide +kernel
theorem dX4_panel_11 : decode cX4_panel 11 = .ok (.new 51, 3) := by decide +kernel
theorem dX4_panel_14 : decode cX4_panel 14 = .ok (.dup, 1) := by decide +kernel
theorem dX4_panel_15 : decode cX4_panel 15 = .ok (.ldc 87, 2) := by decide +kernel
theorem dX4_panel_17 : decode cX4_panel 17 = .ok (.invokespecial 55, 3) := by decide +kernel
theorem dX4_panel_20 : decode cX4_panel 20 = .ok (.athrow, 1) := by decide +kernel
theorem dX4_panel_21 : decode cX4_panel 21 = .ok (.iload_n 2, 1) := by decide +kernel
theorem dX4_panel_22 : decode cX4_panel 22 = .ok (.iconst 0, 1) := by decide +kernel
theorem dX4_panel_23 : decode cX4_panel 23 = .ok (.iconst 5, 1) := by decide +kernel
theorem dX4_panel_24 : decode cX4_panel 24 = .ok (.invokestatic 47, 3) := by decide +kernel
theorem dX4_panel_27 : decode cX4_panel 27 = .ok (.ifCond .ne 13, 3) := by decide +kernel
theorem dX4_panel_30 : decode cX4_panel 30 = .ok (.new 62, 3) := by decide +kernel
theorem dX4_panel_33 : decode cX4_panel 33 = .ok (.dup, 1) := by decide +kernel
theorem dX4_panel_34 : decode cX4_panel 34 = .ok (.ldc 143, 2) := by decide +kernel
theorem dX4_panel_36 : decode cX4_panel 36 = .ok (.invokespecial 66, 3) := by decide +kernel
theorem dX4_panel_39 : decode cX4_panel 39 = .ok (.athrow, 1) := by decide +kernel
theorem dX4_panel_40 : decode cX4_panel 40 = .ok (.aload_n 0, 1) := by decide +kernel
theorem dX4_panel_41 : decode cX4_panel 41 = .ok (.iload_n 1, 1) := by decide +kernel
theorem dX4_panel_42 : decode cX4_panel 42 = .ok (.iload_n 2, 1) := by decide +kernel
theorem dX4_panel_43 : decode cX4_panel 43 = .ok (.invokevirtual 145, 3) := by decide +kernel
theorem dX4_panel_46 : decode cX4_panel 46 = .ok (.ireturn, 1) := by decide +kernel
set_option maxRecDepth 20000 in
theorem ggX4_page_X4_isWithin : GoodIn wsX4_page wsX4_isWithin := goodIn_r _ [9] (by decide +kernel) (by decide +kernel)
set_option maxRecDepth 20000 in
theorem gX4_page_X4_isWithin : GoodIn wsX4_page (va_wsS RX4 47 yX4_isWithin wsX4_isWithin) := goodIn_app (goodIn_of _ (by decide +kernel)) ggX4_page_X4_isWithin
set_option maxRecDepth 20000 in
theorem ggX4_page_X1_numberOfPage : GoodIn wsX4_page wsX1_numberOfPage := goodIn_r _ [13, 14, 15, 16, 17, 18, 19, 20, 8, 21, 22, 23, 24, 11, 25, 32, 33, 34, 35, 36, 37, 38, 39, 40, 41, 42, 43, 44, 45, 46] (by decide +kernel) (by decide +kernel)
set_option maxRecDepth 20000 in
theorem gX4_page_X1_numberOfPage_n151 : GoodIn wsX4_page (wsX1_numberOfPage) := ggX4_page_X1_numberOfPage
theorem dX4_page_0 : decode cX4_page 0 = .ok (.iload_n 1, 1) := by decide +kernel
theorem dX4_page_1 : decode cX4_page 1 = .ok (.iconst 0, 1) := by decide +kernel
theorem dX4_page_2 : decode cX4_page 2 = .ok (.bipush 15, 2) := by decide +kernel
theorem dX4_page_4 : decode cX4_page 4 = .ok (.invokestatic 47, 3) := by decide +kernel
theorem dX4_page_7 : decode cX4_page 7 = .ok (.ifCond .ne 13, 3) := by decide +kernel
theorem dX4_page_10 : decode cX4_page 10 = .ok (.new 51, 3) := by decide +kernel
theorem dX4_page_13 : decode cX4_page 13 = .ok (.dup, 1) := by decide +kernel
theorem dX4_page_14 : decode cX4_page 14 = .ok (.ldc 149, 2) := by decide +kernel
theorem dX4_page_16 : decode cX4_page 16 = .ok (.invokespecial 55, 3) := by decide +kernel
theorem dX4_page_19 : decode cX4_page 19 = .ok (.athrow, 1) := by decide +kernel
theorem dX4_page_20 : decode cX4_page 20 = .ok (.iload_n 2, 1) := by decide +kernel
theorem dX4_page_21 : decode cX4_page 21 = .ok (.iconst 0, 1) := by decide +kernel
theorem dX4_page_22 : decode cX4_page 22 = .ok (.iconst 5, 1) := by decide +kernel
theorem dX4_page_23 : decode cX4_page 23 = .ok (.invokestatic 47, 3) := by decide +kernel
theorem dX4_page_26 : decode cX4_page 26 = .ok (.ifCond .ne 13, 3) := by decide +kernel
theorem dX4_page_29 : decode cX4_page 29 = .ok (.new 62, 3) := by decide +kernel
theorem dX4_page_32 : decode cX4_page 32 = .ok (.dup, 1) := by decide +kernel
theorem dX4_page_33 : decode cX4_page 33 = .ok (.ldc 143, 2) := by decide +kernel
theorem dX4_page_35 : decode cX4_page 35 = .ok (.invokespecial 66, 3) := by decide +kernel
theorem dX4_page_38 : decode cX4_page 38 = .ok (.athrow, 1) := by decide +kernel
theorem dX4_page_39 : decode cX4_page 39 = .ok (.aload_n 0, 1) := by decide +kernel
theorem dX4_page_40 : decode cX4_page 40 = .ok (.getfield 19, 3) := by decide +kernel
theorem dX4_page_43 : decode cX4_page 43 = .ok (.iload_n 1, 1) := by decide +kernel
theorem dX4_page_44 : decode cX4_page 44 = .ok (.iload_n 2, 1) := by decide +kernel
theorem dX4_page_45 : decode cX4_page 45 = .ok (.invokevirtual 151, 3) := by decide +kernel
theorem dX4_page_48 : decode cX4_page 48 = .ok (.ireturn, 1) := by decide +kernel
set_option maxRecDepth 20000 in
theorem ggX4_at_X4_isWithin : GoodIn wsX4_at wsX4_isWithin := goodIn_r _ [6] (by decide +kernel) (by decide +kernel)
set_option maxRecDepth 20000 in
theorem gX4_at_X4_isWithin : GoodIn wsX4_at (va_wsS RX4 47 yX4_isWithin wsX4_isWithin) := goodIn_app (goodIn_of _ (by decide +kernel)) ggX4_at_X4_isWithin
set_option maxRecDepth 20000 in
theorem ggX4_at_X4_panelAt : GoodIn wsX4_at wsX4_panelAt := goodIn_r _ [10, 11, 12, 13, 14, 5, 15, 16, 17, 18, 19, 20, 21, 22, 23, 24, 25, 26, 27, 28, 29, 30, 31, 32, 33, 34, 35, 36, 37, 38, 39, 40, 41] (by decide +kernel) (by decide +kernel)
set_option maxRecDepth 20000 in
theorem gX4_at_X4_panelAt : GoodIn wsX4_at (wsV RX4 156 RX4 yX4_panelAt wsX4_panelAt) := goodIn_app (goodIn_of _ (by decide +kernel)) ggX4_at_X4_panelAt
theorem dX4_at_0 : decode cX4_at 0 = .ok (.iload_n 1, 1) := by decide +kernel
theorem dX4_at_1 : decode cX4_at 1 = .ok (.iconst 0, 1) := by decide +kernel
theorem dX4_at_2 : decode cX4_at 2 = .ok (.bipush 15, 2) := by decide +kernel
theorem dX4_at_4 : decode cX4_at 4 = .ok (.invokestatic 47, 3) := by decide +kernel
theorem dX4_at_7 : decode cX4_at 7 = .ok (.ifCond .eq 21, 3) := by decide +kernel
theorem dX4_at_10 : decode cX4_at 10 = .ok (.iload_n 2, 1) := by decide +kernel
theorem dX4_at_11 : decode cX4_at 11 = .ok (.iconst 0, 1) := by decide +kernel
theorem dX4_at_12 : decode cX4_at 12 = .ok (.iconst 3, 1) := by decide +kernel
theorem dX4_at_13 : decode cX4_at 13 = .ok (.invokestatic 47, 3) := by decide +kernel
theorem dX4_at_16 : decode cX4_at 16 = .ok (.ifCond .eq 12, 3) := by decide +kernel
theorem dX4_at_19 : decode cX4_at 19 = .ok (.iload_n 3, 1) := by decide +kernel
theorem dX4_at_20 : decode cX4_at 20 = .ok (.iconst 0, 1) := by decide +kernel
theorem dX4_at_21 : decode cX4_at 21 = .ok (.iconst 5, 1) := by decide +kernel
theorem dX4_at_22 : decode cX4_at 22 = .ok (.invokestatic 47, 3) := by decide +kernel
theorem dX4_at_25 : decode cX4_at 25 = .ok (.ifCond .ne 13, 3) := by decide +kernel
theorem dX4_at_28 : decode cX4_at 28 = .ok (.new 51, 3) := by decide +kernel
theorem dX4_at_31 : decode cX4_at 31 = .ok (.dup, 1) := by decide +kernel
theorem dX4_at_32 : decode cX4_at 32 = .ok (.ldc 154, 2) := by decide +kernel
theorem dX4_at_34 : decode cX4_at 34 = .ok (.invokespecial 55, 3) := by decide +kernel
theorem dX4_at_37 : decode cX4_at 37 = .ok (.athrow, 1) := by decide +kernel
theorem dX4_at_38 : decode cX4_at 38 = .ok (.aload_n 0, 1) := by decide +kernel
theorem dX4_at_39 : decode cX4_at 39 = .ok (.iload_n 1, 1) := by decide +kernel
theorem dX4_at_40 : decode cX4_at 40 = .ok (.iload_n 2, 1) := by decide +kernel
theorem dX4_at_41 : decode cX4_at 41 = .ok (.iload_n 3, 1) := by decide +kernel
theorem dX4_at_42 : decode cX4_at 42 = .ok (.invokevirtual 156, 3) := by decide +kernel
theorem dX4_at_45 : decode cX4_at 45 = .ok (.ireturn, 1) := by decide +kernel
set_option maxRecDepth 20000 in
theorem ggX4_count_X4_isWithin : GoodIn wsX4_count wsX4_isWithin := goodIn_r _ [6] (by decide +kernel) (by decide +kernel)
set_option maxRecDepth 20000 in
theorem gX4_count_X4_isWithin : GoodIn wsX4_count (va_wsS RX4 47 yX4_isWithin wsX4_isWithin) := goodIn_app (goodIn_of _ (by decide +kernel)) ggX4_count_X4_isWithin
set_option maxRecDepth 20000 in
theorem ggX4_count_X4_numberInAll : GoodIn wsX4_count wsX4_numberInAll := goodIn_r _ [10, 11, 12, 13, 14, 15, 16, 17, 18, 19, 20, 21, 22, 23, 24, 25, 26, 27, 28, 29, 30, 31, 32, 33, 34, 35, 36, 37, 38, 39, 40, 41, 42, 43, 44, 45, 46, 47, 48, 49, 50, 51, 52, 53, 54, 55, 56, 57, 58, 59, 60, 61] (by decide +kernel) (by decide +kernel)
set_option maxRecDepth 20000 in
theorem gX4_count_X4_numberInAll : GoodIn wsX4_count (wsV RX4 162 RX4 yX4_numberInAll wsX4_numberInAll) := goodIn_app (goodIn_of _ (by decide +kernel)) ggX4_count_X4_numberInAll
theorem dX4_count_0 : decode cX4_count 0 = .ok (.iload_n 1, 1) := by decide +kernel
theorem dX4_count_1 : decode cX4_count 1 = .ok (.iconst 0, 1) := by decide +kernel
theorem dX4_count_2 : decode cX4_count 2 = .ok (.bipush 8, 2) := by decide +kernel
theorem dX4_count_4 : decode cX4_count 4 = .ok (.invokestatic 47, 3) := by decide +kernel
theorem dX4_count_7 : decode cX4_count 7 = .ok (.ifCond .ne 13, 3) := by decide +kernel
theorem dX4_count_10 : decode cX4_count 10 = .ok (.new 62, 3) := by decide +kernel
theorem dX4_count_13 : decode cX4_count 13 = .ok (.dup, 1) := by decide +kernel
theorem dX4_count_14 : decode cX4_count 14 = .ok (.ldc 160, 2) := by decide +kernel
theorem dX4_count_16 : decode cX4_count 16 = .ok (.invokespecial 66, 3) := by decide +kernel
theorem dX4_count_19 : decode cX4_count 19 = .ok (.athrow, 1) := by decide +kernel
theorem dX4_count_20 : decode cX4_count 20 = .ok (.aload_n 0, 1) := by decide +kernel
theorem dX4_count_21 : decode cX4_count 21 = .ok (.iload_n 1, 1) := by decide +kernel
theorem dX4_count_22 : decode cX4_count 22 = .ok (.invokevirtual 162, 3) := by decide +kernel
theorem dX4_count_25 : decode cX4_count 25 = .ok (.ireturn, 1) := by decide +kernel
set_option maxRecDepth 20000 in
theorem ggX4_ifExchanged_X2_has : GoodIn wsX4_ifExchanged wsX2_has := goodIn_r _ [9, 10, 113, 114, 115, 116, 117] (by decide +kernel) (by decide +kernel)
set_option maxRecDepth 20000 in
theorem gX4_ifExchanged_X2_has_n83 : GoodIn wsX4_ifExchanged (wsX2_has) := ggX4_ifExchanged_X2_has
set_option maxRecDepth 20000 in
theorem ggX4_ifExchanged_X4_isWithin : GoodIn wsX4_ifExchanged wsX4_isWithin := goodIn_r _ [14] (by decide +kernel) (by decide +kernel)
set_option maxRecDepth 20000 in
theorem gX4_ifExchanged_X4_isWithin : GoodIn wsX4_ifExchanged (va_wsS RX4 47 yX4_isWithin wsX4_isWithin) := goodIn_app (goodIn_of _ (by decide +kernel)) ggX4_ifExchanged_X4_isWithin
set_option maxRecDepth 20000 in
theorem ggX4_ifExchanged_X4_afterExchange : GoodIn wsX4_ifExchanged wsX4_afterExchange := goodIn_r _ [18, 19, 5, 20, 21, 7, 22, 23, 24, 25, 26, 27, 28, 29, 30, 10, 31, 32, 33, 34, 35, 36, 37, 38, 13, 39, 40, 41, 42, 43, 44, 45, 46, 47, 48, 49, 50, 51, 52, 53, 54, 55, 56, 57, 58, 59, 60, 61, 62, 63, 64, 65, 66, 67, 68, 69, 70, 71, 72, 73, 74, 75, 76, 77, 78, 79, 80, 81, 82, 83, 84, 85, 86, 87, 88, 89, 90, 91, 92, 93, 94, 95, 96, 97, 98, 99, 100, 101, 102, 103, 104, 105, 106, 107, 108, 109, 110, 111, 112, 118, 119, 120, 121, 122, 123, 124, 125, 126, 127, 128, 129, 130, 131, 132, 113, 114, 115, 116, 117] (by decide +kernel) (by decide +kernel)
set_option maxRecDepth 20000 in
theorem gX4_ifExchanged_X4_afterExchange : GoodIn wsX4_ifExchanged (wsV RX4 170 RX4 yX4_afterExchange wsX4_afterExchange) := goodIn_app (goodIn_of _ (by decide +kernel)) ggX4_ifExchanged_X4_afterExchange
theorem dX4_ifExchanged_0 : decode cX4_ifExchanged 0 = .ok (.aload_n 0, 1) := by decide +kernel
theorem dX4_ifExchanged_1 : decode cX4_ifExchanged 1 = .ok (.getfield 12, 3) := by decide +kernel
theorem dX4_ifExchanged_4 : decode cX4_ifExchanged 4 = .ok (.iload_n 1, 1) := by decide +kernel
theorem dX4_ifExchanged_5 : decode cX4_ifExchanged 5 = .ok (.invokevirtual 83, 3) := by decide +kernel
theorem dX4_ifExchanged_8 : decode cX4_ifExchanged 8 = .ok (.ifCond .eq 16, 3) := by decide +kernel
theorem dX4_ifExchanged_11 : decode cX4_ifExchanged 11 = .ok (.aload_n 0, 1) := by decide +kernel
theorem dX4_ifExchanged_12 : decode cX4_ifExchanged 12 = .ok (.getfield 12, 3) := by decide +kernel
theorem dX4_ifExchanged_15 : decode cX4_ifExchanged 15 = .ok (.iload_n 1, 1) := by decide +kernel
theorem dX4_ifExchanged_16 : decode cX4_ifExchanged 16 = .ok (.iconst 1, 1) := by decide +kernel
theorem dX4_ifExchanged_17 : decode cX4_ifExchanged 17 = .ok (.iadd, 1) := by decide +kernel
theorem dX4_ifExchanged_18 : decode cX4_ifExchanged 18 = .ok (.invokevirtual 83, 3) := by decide +kernel
theorem dX4_ifExchanged_21 : decode cX4_ifExchanged 21 = .ok (.ifCond .ne 13, 3) := by decide +kernel
theorem dX4_ifExchanged_24 : decode cX4_ifExchanged 24 = .ok (.new 51, 3) := by decide +kernel
theorem dX4_ifExchanged_27 : decode cX4_ifExchanged 27 = .ok (.dup, 1) := by decide +kernel
theorem dX4_ifExchanged_28 : decode cX4_ifExchanged 28 = .ok (.ldc 166, 2) := by decide +kernel
theorem dX4_ifExchanged_30 : decode cX4_ifExchanged 30 = .ok (.invokespecial 55, 3) := by decide +kernel
theorem dX4_ifExchanged_33 : decode cX4_ifExchanged 33 = .ok (.athrow, 1) := by decide +kernel
theorem dX4_ifExchanged_34 : decode cX4_ifExchanged 34 = .ok (.iload_n 2, 1) := by decide +kernel
theorem dX4_ifExchanged_35 : decode cX4_ifExchanged 35 = .ok (.iconst 0, 1) := by decide +kernel
theorem dX4_ifExchanged_36 : decode cX4_ifExchanged 36 = .ok (.iconst 1, 1) := by decide +kernel
theorem dX4_ifExchanged_37 : decode cX4_ifExchanged 37 = .ok (.invokestatic 47, 3) := by decide +kernel
theorem dX4_ifExchanged_40 : decode cX4_ifExchanged 40 = .ok (.ifCond .ne 13, 3) := by decide +kernel
theorem dX4_ifExchanged_43 : decode cX4_ifExchanged 43 = .ok (.new 62, 3) := by decide +kernel
theorem dX4_ifExchanged_46 : decode cX4_ifExchanged 46 = .ok (.dup, 1) := by decide +kernel
theorem dX4_ifExchanged_47 : decode cX4_ifExchanged 47 = .ok (.ldc 168, 2) := by decide +kernel
theorem dX4_ifExchanged_49 : decode cX4_ifExchanged 49 = .ok (.invokespecial 66, 3) := by decide +kernel
theorem dX4_ifExchanged_52 : decode cX4_ifExchanged 52 = .ok (.athrow, 1) := by decide +kernel
theorem dX4_ifExchanged_53 : decode cX4_ifExchanged 53 = .ok (.aload_n 0, 1) := by decide +kernel
theorem dX4_ifExchanged_54 : decode cX4_ifExchanged 54 = .ok (.iload_n 1, 1) := by decide +kernel
theorem dX4_ifExchanged_55 : decode cX4_ifExchanged 55 = .ok (.iload_n 2, 1) := by decide +kernel
theorem dX4_ifExchanged_56 : decode cX4_ifExchanged 56 = .ok (.invokevirtual 170, 3) := by decide +kernel
theorem dX4_ifExchanged_59 : decode cX4_ifExchanged 59 = .ok (.ireturn, 1) := by decide +kernel
set_option maxRecDepth 20000 in
theorem ggX4_leastSetting_X4_leastThatServes : GoodIn wsX4_leastSetting wsX4_leastThatServes := goodIn_r _ [5, 6, 7, 8, 9, 10, 11, 12, 13, 14, 15, 16, 17, 18, 19, 20, 21, 22, 23, 24, 25, 26, 27, 28, 29, 30, 31, 32, 33, 34, 35, 36, 37, 38, 39, 40, 41, 42, 43, 44, 45, 46, 47, 48, 49, 50, 51, 4, 52, 53, 54, 55, 56, 57, 58, 59, 60, 61, 62, 63, 64, 65, 66, 67, 68, 69, 70, 71, 72, 73, 74, 75, 76, 77, 78, 79, 80, 81, 82, 83, 84, 85, 86, 87, 88, 89, 90, 91, 92, 93, 94, 95, 96, 97, 98, 99, 100, 101, 102, 103, 104, 105, 106, 107, 108, 109, 110, 111, 112, 113, 114] (by decide +kernel) (by decide +kernel)
set_option maxRecDepth 20000 in
theorem gX4_leastSetting_X4_leastThatServes : GoodIn wsX4_leastSetting (wsV RX4 173 RX4 yX4_leastThatServes wsX4_leastThatServes) := goodIn_app (goodIn_of _ (by decide +kernel)) ggX4_leastSetting_X4_leastThatServes
theorem dX4_leastSetting_0 : decode cX4_leastSetting 0 = .ok (.aload_n 0, 1) := by decide +kernel
theorem dX4_leastSetting_1 : decode cX4_leastSetting 1 = .ok (.invokevirtual 173, 3) := by decide +kernel
theorem dX4_leastSetting_4 : decode cX4_leastSetting 4 = .ok (.ireturn, 1) := by decide +kernel
set_option maxRecDepth 20000 in
theorem ggX4_bestWidth_X2_has : GoodIn wsX4_bestWidth wsX2_has := goodIn_r _ [7, 8, 107, 108, 109, 110, 111] (by decide +kernel) (by decide +kernel)
set_option maxRecDepth 20000 in
theorem gX4_bestWidth_X2_has_n83 : GoodIn wsX4_bestWidth (wsX2_has) := ggX4_bestWidth_X2_has
set_option maxRecDepth 20000 in
theorem ggX4_bestWidth_X4_widthOfLeastCost : GoodIn wsX4_bestWidth wsX4_widthOfLeastCost := goodIn_r _ [13, 14, 3, 15, 16, 5, 17, 18, 19, 20, 21, 22, 23, 24, 25, 8, 26, 27, 28, 12, 29, 30, 31, 32, 33, 34, 35, 36, 37, 38, 39, 40, 41, 42, 43, 44, 45, 46, 47, 48, 49, 50, 51, 52, 53, 54, 55, 56, 57, 58, 59, 60, 61, 62, 63, 64, 65, 66, 67, 68, 69, 70, 71, 72, 73, 74, 75, 76, 77, 78, 79, 80, 81, 82, 83, 84, 85, 86, 87, 88, 89, 90, 91, 92, 93, 94, 95, 96, 97, 98, 99, 100, 101, 102, 103, 104, 105, 106, 107, 108, 109, 110, 111, 112, 113, 114, 115, 116, 117, 118, 119, 120, 121, 122, 123, 124, 125, 126] (by decide +kernel) (by decide +kernel)
set_option maxRecDepth 20000 in
theorem gX4_bestWidth_X4_widthOfLeastCost : GoodIn wsX4_bestWidth (wsV RX4 176 RX4 yX4_widthOfLeastCost wsX4_widthOfLeastCost) := goodIn_app (goodIn_of _ (by decide +kernel)) ggX4_bestWidth_X4_widthOfLeastCost
theorem dX4_bestWidth_0 : decode cX4_bestWidth 0 = .ok (.aload_n 0, 1) := by decide +kernel
theorem dX4_bestWidth_1 : decode cX4_bestWidth 1 = .ok (.getfield 12, 3) := by decide +kernel
theorem dX4_bestWidth_4 : decode cX4_bestWidth 4 = .ok (.iload_n 1, 1) := by decide +kernel
theorem dX4_bestWidth_5 : decode cX4_bestWidth 5 = .ok (.invokevirtual 83, 3) := by decide +kernel
theorem dX4_bestWidth_8 : decode cX4_bestWidth 8 = .ok (.ifCond .ne 13, 3) := by decide +kernel
theorem dX4_bestWidth_11 : decode cX4_bestWidth 11 = .ok (.new 51, 3) := by decide +kernel
theorem dX4_bestWidth_14 : decode cX4_bestWidth 14 = .ok (.dup, 1) := by decide +kernel
theorem dX4_bestWidth_15 : decode cX4_bestWidth 15 = .ok (.ldc 87, 2) := by decide +kernel
theorem dX4_bestWidth_17 : decode cX4_bestWidth 17 = .ok (.invokespecial 55, 3) := by decide +kernel
theorem dX4_bestWidth_20 : decode cX4_bestWidth 20 = .ok (.athrow, 1) := by decide +kernel
theorem dX4_bestWidth_21 : decode cX4_bestWidth 21 = .ok (.aload_n 0, 1) := by decide +kernel
theorem dX4_bestWidth_22 : decode cX4_bestWidth 22 = .ok (.iload_n 1, 1) := by decide +kernel
theorem dX4_bestWidth_23 : decode cX4_bestWidth 23 = .ok (.invokevirtual 176, 3) := by decide +kernel
theorem dX4_bestWidth_26 : decode cX4_bestWidth 26 = .ok (.ireturn, 1) := by decide +kernel
set_option maxRecDepth 20000 in
theorem ggX4_fullness_X4_shareOfFilled : GoodIn wsX4_fullness wsX4_shareOfFilled := goodIn_r _ [5, 6, 7, 8, 9, 10, 11, 12, 13, 14, 15, 16, 17, 18, 19, 20, 21, 22, 23, 24, 25, 26, 27] (by decide +kernel) (by decide +kernel)
set_option maxRecDepth 20000 in
theorem gX4_fullness_X4_shareOfFilled : GoodIn wsX4_fullness (wsV RX4 179 RX4 yX4_shareOfFilled wsX4_shareOfFilled) := goodIn_app (goodIn_of _ (by decide +kernel)) ggX4_fullness_X4_shareOfFilled
theorem dX4_fullness_0 : decode cX4_fullness 0 = .ok (.aload_n 0, 1) := by decide +kernel
theorem dX4_fullness_1 : decode cX4_fullness 1 = .ok (.invokevirtual 179, 3) := by decide +kernel
theorem dX4_fullness_4 : decode cX4_fullness 4 = .ok (.dreturn, 1) := by decide +kernel
theorem dX4_isWithin_0 : decode cX4_isWithin 0 = .ok (.iload_n 0, 1) := by decide +kernel
theorem dX4_isWithin_1 : decode cX4_isWithin 1 = .ok (.iload_n 1, 1) := by decide +kernel
theorem dX4_isWithin_2 : decode cX4_isWithin 2 = .ok (.if_icmp .lt 12, 3) := by decide +kernel
theorem dX4_isWithin_5 : decode cX4_isWithin 5 = .ok (.iload_n 0, 1) := by decide +kernel
theorem dX4_isWithin_6 : decode cX4_isWithin 6 = .ok (.iload_n 2, 1) := by decide +kernel
theorem dX4_isWithin_7 : decode cX4_isWithin 7 = .ok (.if_icmp .gt 7, 3) := by decide +kernel
theorem dX4_isWithin_10 : decode cX4_isWithin 10 = .ok (.iconst 1, 1) := by decide +kernel
theorem dX4_isWithin_11 : decode cX4_isWithin 11 = .ok (.goto 4, 3) := by decide +kernel
theorem dX4_isWithin_14 : decode cX4_isWithin 14 = .ok (.iconst 0, 1) := by decide +kernel
theorem dX4_isWithin_15 : decode cX4_isWithin 15 = .ok (.ireturn, 1) := by decide +kernel
set_option maxRecDepth 20000 in
theorem ggX4_isPanelSize_X4_isWithin : GoodIn wsX4_isPanelSize wsX4_isWithin := goodIn_r _ [4] (by decide +kernel) (by decide +kernel)
set_option maxRecDepth 20000 in
theorem gX4_isPanelSize_X4_isWithin : GoodIn wsX4_isPanelSize (va_wsS RX4 47 yX4_isWithin wsX4_isWithin) := goodIn_app (goodIn_of _ (by decide +kernel)) ggX4_isPanelSize_X4_isWithin
theorem dX4_isPanelSize_0 : decode cX4_isPanelSize 0 = .ok (.iload_n 0, 1) := by decide +kernel
theorem dX4_isPanelSize_1 : decode cX4_isPanelSize 1 = .ok (.iconst 1, 1) := by decide +kernel
theorem dX4_isPanelSize_2 : decode cX4_isPanelSize 2 = .ok (.bipush 6, 2) := by decide +kernel
theorem dX4_isPanelSize_4 : decode cX4_isPanelSize 4 = .ok (.invokestatic 47, 3) := by decide +kernel
theorem dX4_isPanelSize_7 : decode cX4_isPanelSize 7 = .ok (.ifCond .eq 17, 3) := by decide +kernel
theorem dX4_isPanelSize_10 : decode cX4_isPanelSize 10 = .ok (.iload_n 1, 1) := by decide +kernel
theorem dX4_isPanelSize_11 : decode cX4_isPanelSize 11 = .ok (.iconst 1, 1) := by decide +kernel
theorem dX4_isPanelSize_12 : decode cX4_isPanelSize 12 = .ok (.bipush 9, 2) := by decide +kernel
theorem dX4_isPanelSize_14 : decode cX4_isPanelSize 14 = .ok (.invokestatic 47, 3) := by decide +kernel
theorem dX4_isPanelSize_17 : decode cX4_isPanelSize 17 = .ok (.ifCond .eq 7, 3) := by decide +kernel
theorem dX4_isPanelSize_20 : decode cX4_isPanelSize 20 = .ok (.iconst 1, 1) := by decide +kernel
theorem dX4_isPanelSize_21 : decode cX4_isPanelSize 21 = .ok (.goto 4, 3) := by decide +kernel
theorem dX4_isPanelSize_24 : decode cX4_isPanelSize 24 = .ok (.iconst 0, 1) := by decide +kernel
theorem dX4_isPanelSize_25 : decode cX4_isPanelSize 25 = .ok (.ireturn, 1) := by decide +kernel
theorem dX4_read_0 : decode cX4_read 0 = .ok (.iload_n 1, 1) := by decide +kernel
theorem dX4_read_1 : decode cX4_read 1 = .ok (.ifCond .lt 15, 3) := by decide +kernel
theorem dX4_read_4 : decode cX4_read 4 = .ok (.iload_n 1, 1) := by decide +kernel
theorem dX4_read_5 : decode cX4_read 5 = .ok (.aload_n 0, 1) := by decide +kernel
theorem dX4_read_6 : decode cX4_read 6 = .ok (.arraylength, 1) := by decide +kernel
theorem dX4_read_7 : decode cX4_read 7 = .ok (.if_icmp .ge 9, 3) := by decide +kernel
theorem dX4_read_10 : decode cX4_read 10 = .ok (.aload_n 0, 1) := by decide +kernel
theorem dX4_read_11 : decode cX4_read 11 = .ok (.iload_n 1, 1) := by decide +kernel
theorem dX4_read_12 : decode cX4_read 12 = .ok (.iaload, 1) := by decide +kernel
theorem dX4_read_13 : decode cX4_read 13 = .ok (.goto 4, 3) := by decide +kernel
theorem dX4_read_16 : decode cX4_read 16 = .ok (.iconst (-1), 1) := by decide +kernel
theorem dX4_read_17 : decode cX4_read 17 = .ok (.ireturn, 1) := by decide +kernel
theorem dX4_write_0 : decode cX4_write 0 = .ok (.iload_n 1, 1) := by decide +kernel
theorem dX4_write_1 : decode cX4_write 1 = .ok (.ifCond .lt 13, 3) := by decide +kernel
theorem dX4_write_4 : decode cX4_write 4 = .ok (.iload_n 1, 1) := by decide +kernel
theorem dX4_write_5 : decode cX4_write 5 = .ok (.aload_n 0, 1) := by decide +kernel
theorem dX4_write_6 : decode cX4_write 6 = .ok (.arraylength, 1) := by decide +kernel
theorem dX4_write_7 : decode cX4_write 7 = .ok (.if_icmp .ge 7, 3) := by decide +kernel
theorem dX4_write_10 : decode cX4_write 10 = .ok (.aload_n 0, 1) := by decide +kernel
theorem dX4_write_11 : decode cX4_write 11 = .ok (.iload_n 1, 1) := by decide +kernel
theorem dX4_write_12 : decode cX4_write 12 = .ok (.iload_n 2, 1) := by decide +kernel
theorem dX4_write_13 : decode cX4_write 13 = .ok (.iastore, 1) := by decide +kernel
theorem dX4_write_14 : decode cX4_write 14 = .ok (.return_, 1) := by decide +kernel
set_option maxRecDepth 20000 in
theorem ggX4_numberOfPanel_X4_read : GoodIn wsX4_numberOfPanel wsX4_read := goodIn_r _ [6] (by decide +kernel) (by decide +kernel)
set_option maxRecDepth 20000 in
theorem gX4_numberOfPanel_X4_read : GoodIn wsX4_numberOfPanel (va_wsS RX4 201 yX4_read wsX4_read) := goodIn_app (goodIn_of _ (by decide +kernel)) ggX4_numberOfPanel_X4_read
theorem dX4_numberOfPanel_0 : decode cX4_numberOfPanel 0 = .ok (.iload_n 2, 1) := by decide +kernel
theorem dX4_numberOfPanel_1 : decode cX4_numberOfPanel 1 = .ok (.tableswitch 95 0 4 #[35, 47, 59, 71, 83], 35) := by decide +kernel
theorem dX4_numberOfPanel_36 : decode cX4_numberOfPanel 36 = .ok (.aload_n 0, 1) := by decide +kernel
theorem dX4_numberOfPanel_37 : decode cX4_numberOfPanel 37 = .ok (.getfield 12, 3) := by decide +kernel
theorem dX4_numberOfPanel_40 : decode cX4_numberOfPanel 40 = .ok (.getfield 205, 3) := by decide +kernel
theorem dX4_numberOfPanel_43 : decode cX4_numberOfPanel 43 = .ok (.iload_n 1, 1) := by decide +kernel
theorem dX4_numberOfPanel_44 : decode cX4_numberOfPanel 44 = .ok (.invokestatic 201, 3) := by decide +kernel
theorem dX4_numberOfPanel_47 : decode cX4_numberOfPanel 47 = .ok (.ireturn, 1) := by decide +kernel
theorem dX4_numberOfPanel_48 : decode cX4_numberOfPanel 48 = .ok (.aload_n 0, 1) := by decide +kernel
theorem dX4_numberOfPanel_49 : decode cX4_numberOfPanel 49 = .ok (.getfield 12, 3) := by decide +kernel
theorem dX4_numberOfPanel_52 : decode cX4_numberOfPanel 52 = .ok (.getfield 95, 3) := by decide +kernel
theorem dX4_numberOfPanel_55 : decode cX4_numberOfPanel 55 = .ok (.iload_n 1, 1) := by decide +kernel
theorem dX4_numberOfPanel_56 : decode cX4_numberOfPanel 56 = .ok (.invokestatic 201, 3) := by decide +kernel
theorem dX4_numberOfPanel_59 : decode cX4_numberOfPanel 59 = .ok (.ireturn, 1) := by decide +kernel
theorem dX4_numberOfPanel_60 : decode cX4_numberOfPanel 60 = .ok (.aload_n 0, 1) := by decide +kernel
theorem dX4_numberOfPanel_61 : decode cX4_numberOfPanel 61 = .ok (.getfield 12, 3) := by decide +kernel
theorem dX4_numberOfPanel_64 : decode cX4_numberOfPanel 64 = .ok (.getfield 103, 3) := by decide +kernel
theorem dX4_numberOfPanel_67 : decode cX4_numberOfPanel 67 = .ok (.iload_n 1, 1) := by decide +kernel
theorem dX4_numberOfPanel_68 : decode cX4_numberOfPanel 68 = .ok (.invokestatic 201, 3) := by decide +kernel
theorem dX4_numberOfPanel_71 : decode cX4_numberOfPanel 71 = .ok (.ireturn, 1) := by decide +kernel
theorem dX4_numberOfPanel_72 : decode cX4_numberOfPanel 72 = .ok (.aload_n 0, 1) := by decide +kernel
theorem dX4_numberOfPanel_73 : decode cX4_numberOfPanel 73 = .ok (.getfield 19, 3) := by decide +kernel
theorem dX4_numberOfPanel_76 : decode cX4_numberOfPanel 76 = .ok (.getfield 208, 3) := by decide +kernel
theorem dX4_numberOfPanel_79 : decode cX4_numberOfPanel 79 = .ok (.iload_n 1, 1) := by decide +kernel
theorem dX4_numberOfPanel_80 : decode cX4_numberOfPanel 80 = .ok (.invokestatic 201, 3) := by decide +kernel
theorem dX4_numberOfPanel_83 : decode cX4_numberOfPanel 83 = .ok (.ireturn, 1) := by decide +kernel
theorem dX4_numberOfPanel_84 : decode cX4_numberOfPanel 84 = .ok (.aload_n 0, 1) := by decide +kernel
theorem dX4_numberOfPanel_85 : decode cX4_numberOfPanel 85 = .ok (.getfield 19, 3) := by decide +kernel
theorem dX4_numberOfPanel_88 : decode cX4_numberOfPanel 88 = .ok (.getfield 211, 3) := by decide +kernel
theorem dX4_numberOfPanel_91 : decode cX4_numberOfPanel 91 = .ok (.iload_n 1, 1) := by decide +kernel
theorem dX4_numberOfPanel_92 : decode cX4_numberOfPanel 92 = .ok (.invokestatic 201, 3) := by decide +kernel
theorem dX4_numberOfPanel_95 : decode cX4_numberOfPanel 95 = .ok (.ireturn, 1) := by decide +kernel
theorem dX4_numberOfPanel_96 : decode cX4_numberOfPanel 96 = .ok (.aload_n 0, 1) := by decide +kernel
theorem dX4_numberOfPanel_97 : decode cX4_numberOfPanel 97 = .ok (.getfield 19, 3) := by decide +kernel
theorem dX4_numberOfPanel_100 : decode cX4_numberOfPanel 100 = .ok (.getfield 214, 3) := by decide +kernel
theorem dX4_numberOfPanel_103 : decode cX4_numberOfPanel 103 = .ok (.iload_n 1, 1) := by decide +kernel
theorem dX4_numberOfPanel_104 : decode cX4_numberOfPanel 104 = .ok (.invokestatic 201, 3) := by decide +kernel
theorem dX4_numberOfPanel_107 : decode cX4_numberOfPanel 107 = .ok (.ireturn, 1) := by decide +kernel
set_option maxRecDepth 20000 in
theorem ggX4_numberInAll_X1_greatestBeats : GoodIn wsX4_numberInAll wsX1_greatestBeats := goodIn_r _ [7, 8, 9, 10, 11, 12, 35, 36, 37, 38, 39, 40, 41, 42, 43, 44, 45, 46, 47, 48, 49] (by decide +kernel) (by decide +kernel)
set_option maxRecDepth 20000 in
theorem gX4_numberInAll_X1_greatestBeats_n223 : GoodIn wsX4_numberInAll (wsX1_greatestBeats) := ggX4_numberInAll_X1_greatestBeats
set_option maxRecDepth 20000 in
theorem ggX4_numberInAll_X1_emptyUnits : GoodIn wsX4_numberInAll wsX1_emptyUnits := goodIn_r _ [15, 16, 17, 35, 36, 37, 38, 39, 40, 41, 42, 43, 44, 45, 46, 47, 48, 49] (by decide +kernel) (by decide +kernel)
set_option maxRecDepth 20000 in
theorem gX4_numberInAll_X1_emptyUnits_n226 : GoodIn wsX4_numberInAll (wsX1_emptyUnits) := ggX4_numberInAll_X1_emptyUnits
set_option maxRecDepth 20000 in
theorem ggX4_numberInAll_X1_greatestDifference : GoodIn wsX4_numberInAll wsX1_greatestDifference := goodIn_r _ [20, 8, 21, 22, 11, 23, 9, 10, 12, 35, 36, 37, 38, 39, 40, 41, 42, 43, 44, 45, 46, 47, 48, 49] (by decide +kernel) (by decide +kernel)
set_option maxRecDepth 20000 in
theorem gX4_numberInAll_X1_greatestDifference_n229 : GoodIn wsX4_numberInAll (wsX1_greatestDifference) := ggX4_numberInAll_X1_greatestDifference
theorem dX4_numberInAll_0 : decode cX4_numberInAll 0 = .ok (.iload_n 1, 1) := by decide +kernel
theorem dX4_numberInAll_1 : decode cX4_numberInAll 1 = .ok (.tableswitch 119 0 7 #[47, 55, 63, 79, 87, 95, 103, 111], 47) := by decide +kernel
theorem dX4_numberInAll_48 : decode cX4_numberInAll 48 = .ok (.aload_n 0, 1) := by decide +kernel
theorem dX4_numberInAll_49 : decode cX4_numberInAll 49 = .ok (.getfield 12, 3) := by decide +kernel
theorem dX4_numberInAll_52 : decode cX4_numberInAll 52 = .ok (.getfield 43, 3) := by decide +kernel
theorem dX4_numberInAll_55 : decode cX4_numberInAll 55 = .ok (.ireturn, 1) := by decide +kernel
theorem dX4_numberInAll_56 : decode cX4_numberInAll 56 = .ok (.aload_n 0, 1) := by decide +kernel
theorem dX4_numberInAll_57 : decode cX4_numberInAll 57 = .ok (.getfield 19, 3) := by decide +kernel
theorem dX4_numberInAll_60 : decode cX4_numberInAll 60 = .ok (.getfield 106, 3) := by decide +kernel
theorem dX4_numberInAll_63 : decode cX4_numberInAll 63 = .ok (.ireturn, 1) := by decide +kernel
theorem dX4_numberInAll_64 : decode cX4_numberInAll 64 = .ok (.aload_n 0, 1) := by decide +kernel
theorem dX4_numberInAll_65 : decode cX4_numberInAll 65 = .ok (.getfield 19, 3) := by decide +kernel
theorem dX4_numberInAll_68 : decode cX4_numberInAll 68 = .ok (.getfield 106, 3) := by decide +kernel
theorem dX4_numberInAll_71 : decode cX4_numberInAll 71 = .ok (.aload_n 0, 1) := by decide +kernel
theorem dX4_numberInAll_72 : decode cX4_numberInAll 72 = .ok (.getfield 19, 3) := by decide +kernel
theorem dX4_numberInAll_75 : decode cX4_numberInAll 75 = .ok (.getfield 217, 3) := by decide +kernel
theorem dX4_numberInAll_78 : decode cX4_numberInAll 78 = .ok (.isub, 1) := by decide +kernel
theorem dX4_numberInAll_79 : decode cX4_numberInAll 79 = .ok (.ireturn, 1) := by decide +kernel
theorem dX4_numberInAll_80 : decode cX4_numberInAll 80 = .ok (.aload_n 0, 1) := by decide +kernel
theorem dX4_numberInAll_81 : decode cX4_numberInAll 81 = .ok (.getfield 19, 3) := by decide +kernel
theorem dX4_numberInAll_84 : decode cX4_numberInAll 84 = .ok (.getfield 220, 3) := by decide +kernel
theorem dX4_numberInAll_87 : decode cX4_numberInAll 87 = .ok (.ireturn, 1) := by decide +kernel
theorem dX4_numberInAll_88 : decode cX4_numberInAll 88 = .ok (.aload_n 0, 1) := by decide +kernel
theorem dX4_numberInAll_89 : decode cX4_numberInAll 89 = .ok (.getfield 19, 3) := by decide +kernel
theorem dX4_numberInAll_92 : decode cX4_numberInAll 92 = .ok (.invokevirtual 223, 3) := by decide +kernel
theorem dX4_numberInAll_95 : decode cX4_numberInAll 95 = .ok (.ireturn, 1) := by decide +kernel
theorem dX4_numberInAll_96 : decode cX4_numberInAll 96 = .ok (.aload_n 0, 1) := by decide +kernel
theorem dX4_numberInAll_97 : decode cX4_numberInAll 97 = .ok (.getfield 19, 3) := by decide +kernel
theorem dX4_numberInAll_100 : decode cX4_numberInAll 100 = .ok (.invokevirtual 226, 3) := by decide +kernel
theorem dX4_numberInAll_103 : decode cX4_numberInAll 103 = .ok (.ireturn, 1) := by decide +kernel
theorem dX4_numberInAll_104 : decode cX4_numberInAll 104 = .ok (.aload_n 0, 1) := by decide +kernel
theorem dX4_numberInAll_105 : decode cX4_numberInAll 105 = .ok (.getfield 19, 3) := by decide +kernel
theorem dX4_numberInAll_108 : decode cX4_numberInAll 108 = .ok (.invokevirtual 229, 3) := by decide +kernel
theorem dX4_numberInAll_111 : decode cX4_numberInAll 111 = .ok (.ireturn, 1) := by decide +kernel
theorem dX4_numberInAll_112 : decode cX4_numberInAll 112 = .ok (.aload_n 0, 1) := by decide +kernel
theorem dX4_numberInAll_113 : decode cX4_numberInAll 113 = .ok (.getfield 12, 3) := by decide +kernel
theorem dX4_numberInAll_116 : decode cX4_numberInAll 116 = .ok (.getfield 111, 3) := by decide +kernel
theorem dX4_numberInAll_119 : decode cX4_numberInAll 119 = .ok (.ireturn, 1) := by decide +kernel
theorem dX4_numberInAll_120 : decode cX4_numberInAll 120 = .ok (.aload_n 0, 1) := by decide +kernel
theorem dX4_numberInAll_121 : decode cX4_numberInAll 121 = .ok (.getfield 32, 3) := by decide +kernel
theorem dX4_numberInAll_124 : decode cX4_numberInAll 124 = .ok (.getfield 137, 3) := by decide +kernel
theorem dX4_numberInAll_127 : decode cX4_numberInAll 127 = .ok (.ireturn, 1) := by decide +kernel
set_option maxRecDepth 20000 in
theorem ggX4_panelAt_X4_read : GoodIn wsX4_panelAt wsX4_read := goodIn_r _ [6] (by decide +kernel) (by decide +kernel)
set_option maxRecDepth 20000 in
theorem gX4_panelAt_X4_read : GoodIn wsX4_panelAt (va_wsS RX4 201 yX4_read wsX4_read) := goodIn_app (goodIn_of _ (by decide +kernel)) ggX4_panelAt_X4_read
theorem dX4_panelAt_0 : decode cX4_panelAt 0 = .ok (.aload_n 0, 1) := by decide +kernel
theorem dX4_panelAt_1 : decode cX4_panelAt 1 = .ok (.getfield 19, 3) := by decide +kernel
theorem dX4_panelAt_4 : decode cX4_panelAt 4 = .ok (.getfield 232, 3) := by decide +kernel
theorem dX4_panelAt_7 : decode cX4_panelAt 7 = .ok (.iload_n 1, 1) := by decide +kernel
theorem dX4_panelAt_8 : decode cX4_panelAt 8 = .ok (.invokestatic 201, 3) := by decide +kernel
theorem dX4_panelAt_11 : decode cX4_panelAt 11 = .ok (.istore 4, 2) := by decide +kernel
theorem dX4_panelAt_13 : decode cX4_panelAt 13 = .ok (.iload 4, 2) := by decide +kernel
theorem dX4_panelAt_15 : decode cX4_panelAt 15 = .ok (.aload_n 0, 1) := by decide +kernel
theorem dX4_panelAt_16 : decode cX4_panelAt 16 = .ok (.getfield 19, 3) := by decide +kernel
theorem dX4_panelAt_19 : decode cX4_panelAt 19 = .ok (.getfield 235, 3) := by decide +kernel
theorem dX4_panelAt_22 : decode cX4_panelAt 22 = .ok (.iload_n 1, 1) := by decide +kernel
theorem dX4_panelAt_23 : decode cX4_panelAt 23 = .ok (.invokestatic 201, 3) := by decide +kernel
theorem dX4_panelAt_26 : decode cX4_panelAt 26 = .ok (.iadd, 1) := by decide +kernel
theorem dX4_panelAt_27 : decode cX4_panelAt 27 = .ok (.istore 5, 2) := by decide +kernel
theorem dX4_panelAt_29 : decode cX4_panelAt 29 = .ok (.iload 4, 2) := by decide +kernel
theorem dX4_panelAt_31 : decode cX4_panelAt 31 = .ok (.istore 6, 2) := by decide +kernel
theorem dX4_panelAt_33 : decode cX4_panelAt 33 = .ok (.iload 6, 2) := by decide +kernel
theorem dX4_panelAt_35 : decode cX4_panelAt 35 = .ok (.iload 5, 2) := by decide +kernel
theorem dX4_panelAt_37 : decode cX4_panelAt 37 = .ok (.if_icmp .ge 80, 3) := by decide +kernel
theorem dX4_panelAt_40 : decode cX4_panelAt 40 = .ok (.aload_n 0, 1) := by decide +kernel
theorem dX4_panelAt_41 : decode cX4_panelAt 41 = .ok (.getfield 19, 3) := by decide +kernel
theorem dX4_panelAt_44 : decode cX4_panelAt 44 = .ok (.getfield 211, 3) := by decide +kernel
theorem dX4_panelAt_47 : decode cX4_panelAt 47 = .ok (.iload 6, 2) := by decide +kernel
theorem dX4_panelAt_49 : decode cX4_panelAt 49 = .ok (.invokestatic 201, 3) := by decide +kernel
theorem dX4_panelAt_52 : decode cX4_panelAt 52 = .ok (.istore 7, 2) := by decide +kernel
theorem dX4_panelAt_54 : decode cX4_panelAt 54 = .ok (.aload_n 0, 1) := by decide +kernel
theorem dX4_panelAt_55 : decode cX4_panelAt 55 = .ok (.getfield 19, 3) := by decide +kernel
theorem dX4_panelAt_58 : decode cX4_panelAt 58 = .ok (.getfield 214, 3) := by decide +kernel
theorem dX4_panelAt_61 : decode cX4_panelAt 61 = .ok (.iload 6, 2) := by decide +kernel
theorem dX4_panelAt_63 : decode cX4_panelAt 63 = .ok (.invokestatic 201, 3) := by decide +kernel
theorem dX4_panelAt_66 : decode cX4_panelAt 66 = .ok (.istore 8, 2) := by decide +kernel
theorem dX4_panelAt_68 : decode cX4_panelAt 68 = .ok (.iload 7, 2) := by decide +kernel
theorem dX4_panelAt_70 : decode cX4_panelAt 70 = .ok (.iconst (-1), 1) := by decide +kernel
theorem dX4_panelAt_71 : decode cX4_panelAt 71 = .ok (.if_icmp .ne 6, 3) := by decide +kernel
theorem dX4_panelAt_74 : decode cX4_panelAt 74 = .ok (.iload 6, 2) := by decide +kernel
theorem dX4_panelAt_76 : decode cX4_panelAt 76 = .ok (.ireturn, 1) := by decide +kernel
theorem dX4_panelAt_77 : decode cX4_panelAt 77 = .ok (.iload 7, 2) := by decide +kernel
theorem dX4_panelAt_79 : decode cX4_panelAt 79 = .ok (.iload_n 2, 1) := by decide +kernel
theorem dX4_panelAt_80 : decode cX4_panelAt 80 = .ok (.if_icmp .ne 31, 3) := by decide +kernel
theorem dX4_panelAt_83 : decode cX4_panelAt 83 = .ok (.iload_n 3, 1) := by decide +kernel
theorem dX4_panelAt_84 : decode cX4_panelAt 84 = .ok (.iload 8, 2) := by decide +kernel
theorem dX4_panelAt_86 : decode cX4_panelAt 86 = .ok (.if_icmp .lt 25, 3) := by decide +kernel
theorem dX4_panelAt_89 : decode cX4_panelAt 89 = .ok (.iload_n 3, 1) := by decide +kernel
theorem dX4_panelAt_90 : decode cX4_panelAt 90 = .ok (.iload 8, 2) := by decide +kernel
theorem dX4_panelAt_92 : decode cX4_panelAt 92 = .ok (.aload_n 0, 1) := by decide +kernel
theorem dX4_panelAt_93 : decode cX4_panelAt 93 = .ok (.getfield 12, 3) := by decide +kernel
theorem dX4_panelAt_96 : decode cX4_panelAt 96 = .ok (.getfield 95, 3) := by decide +kernel
theorem dX4_panelAt_99 : decode cX4_panelAt 99 = .ok (.iload 6, 2) := by decide +kernel
theorem dX4_panelAt_101 : decode cX4_panelAt 101 = .ok (.invokestatic 201, 3) := by decide +kernel
theorem dX4_panelAt_104 : decode cX4_panelAt 104 = .ok (.iadd, 1) := by decide +kernel
theorem dX4_panelAt_105 : decode cX4_panelAt 105 = .ok (.if_icmp .ge 6, 3) := by decide +kernel
theorem dX4_panelAt_108 : decode cX4_panelAt 108 = .ok (.iload 6, 2) := by decide +kernel
theorem dX4_panelAt_110 : decode cX4_panelAt 110 = .ok (.ireturn, 1) := by decide +kernel
theorem dX4_panelAt_111 : decode cX4_panelAt 111 = .ok (.iinc 6 1, 3) := by decide +kernel
theorem dX4_panelAt_114 : decode cX4_panelAt 114 = .ok (.goto (-81), 3) := by decide +kernel
theorem dX4_panelAt_117 : decode cX4_panelAt 117 = .ok (.iconst (-1), 1) := by decide +kernel
theorem dX4_panelAt_118 : decode cX4_panelAt 118 = .ok (.ireturn, 1) := by decide +kernel
theorem dX4_shareOfFilled_0 : decode cX4_shareOfFilled 0 = .ok (.aload_n 0, 1) := by decide +kernel
theorem dX4_shareOfFilled_1 : decode cX4_shareOfFilled 1 = .ok (.getfield 19, 3) := by decide +kernel
theorem dX4_shareOfFilled_4 : decode cX4_shareOfFilled 4 = .ok (.getfield 217, 3) := by decide +kernel
theorem dX4_shareOfFilled_7 : decode cX4_shareOfFilled 7 = .ok (.bipush 24, 2) := by decide +kernel
theorem dX4_shareOfFilled_9 : decode cX4_shareOfFilled 9 = .ok (.imul, 1) := by decide +kernel
theorem dX4_shareOfFilled_10 : decode cX4_shareOfFilled 10 = .ok (.istore_n 1, 1) := by decide +kernel
theorem dX4_shareOfFilled_11 : decode cX4_shareOfFilled 11 = .ok (.iload_n 1, 1) := by decide +kernel
theorem dX4_shareOfFilled_12 : decode cX4_shareOfFilled 12 = .ok (.ifCond .gt 5, 3) := by decide +kernel
theorem dX4_shareOfFilled_15 : decode cX4_shareOfFilled 15 = .ok (.dconst 1, 1) := by decide +kernel
theorem dX4_shareOfFilled_16 : decode cX4_shareOfFilled 16 = .ok (.dreturn, 1) := by decide +kernel
theorem dX4_shareOfFilled_17 : decode cX4_shareOfFilled 17 = .ok (.aload_n 0, 1) := by decide +kernel
theorem dX4_shareOfFilled_18 : decode cX4_shareOfFilled 18 = .ok (.getfield 19, 3) := by decide +kernel
theorem dX4_shareOfFilled_21 : decode cX4_shareOfFilled 21 = .ok (.getfield 238, 3) := by decide +kernel
theorem dX4_shareOfFilled_24 : decode cX4_shareOfFilled 24 = .ok (.i2d, 1) := by decide +kernel
theorem dX4_shareOfFilled_25 : decode cX4_shareOfFilled 25 = .ok (.iload_n 1, 1) := by decide +kernel
theorem dX4_shareOfFilled_26 : decode cX4_shareOfFilled 26 = .ok (.i2d, 1) := by decide +kernel
theorem dX4_shareOfFilled_27 : decode cX4_shareOfFilled 27 = .ok (.ddiv, 1) := by decide +kernel
theorem dX4_shareOfFilled_28 : decode cX4_shareOfFilled 28 = .ok (.dreturn, 1) := by decide +kernel
set_option maxRecDepth 20000 in
theorem ggX4_afterExchange_X2_copyFrom : GoodIn wsX4_afterExchange wsX2_copyFrom := goodIn_r _ [7, 8, 9, 10, 11, 12, 13, 14, 15, 16, 114, 115, 116, 117, 118] (by decide +kernel) (by decide +kernel)
set_option maxRecDepth 20000 in
theorem gX4_afterExchange_X2_copyFrom_n241 : GoodIn wsX4_afterExchange (wsX2_copyFrom) := ggX4_afterExchange_X2_copyFrom
set_option maxRecDepth 20000 in
theorem ggX4_afterExchange_X2_exchangeWithNext : GoodIn wsX4_afterExchange wsX2_exchangeWithNext := goodIn_r _ [19, 8, 13, 14, 20, 21, 5, 22, 23, 24, 25, 26, 27, 114, 115, 116, 117, 118] (by decide +kernel) (by decide +kernel)
set_option maxRecDepth 20000 in
theorem gX4_afterExchange_X2_exchangeWithNext_n244 : GoodIn wsX4_afterExchange (wsX2_exchangeWithNext) := ggX4_afterExchange_X2_exchangeWithNext
set_option maxRecDepth 20000 in
theorem ggX4_afterExchange_X1_pour : GoodIn wsX4_afterExchange wsX1_pour := goodIn_r _ [31, 32, 33, 34, 35, 29, 36, 37, 38, 39, 40, 41, 42, 43, 44, 45, 46, 47, 48, 49, 50, 51, 52, 53, 54, 55, 23, 24, 25, 56, 57, 58, 59, 60, 61, 62, 63, 64, 65, 66, 67, 68, 69, 70, 71, 72, 73, 74, 75, 76, 77, 78, 79, 80, 81, 82, 83, 84, 85, 86, 87, 88, 89, 26, 27, 114, 115, 116, 117, 118, 99, 100, 101, 102, 103, 104, 105, 106, 107, 108, 109, 110, 111, 112, 113] (by decide +kernel) (by decide +kernel)
set_option maxRecDepth 20000 in
theorem gX4_afterExchange_X1_pour_n80 : GoodIn wsX4_afterExchange (wsX1_pour) := ggX4_afterExchange_X1_pour
set_option maxRecDepth 20000 in
theorem ggX4_afterExchange_X1_emptyUnits : GoodIn wsX4_afterExchange wsX1_emptyUnits := goodIn_r _ [92, 43, 44, 99, 100, 101, 102, 103, 104, 105, 106, 107, 108, 109, 110, 111, 112, 113] (by decide +kernel) (by decide +kernel)
set_option maxRecDepth 20000 in
theorem gX4_afterExchange_X1_emptyUnits_n226 : GoodIn wsX4_afterExchange (wsX1_emptyUnits) := ggX4_afterExchange_X1_emptyUnits
theorem dX4_afterExchange_0 : decode cX4_afterExchange 0 = .ok (.aload_n 0, 1) := by decide +kernel
theorem dX4_afterExchange_1 : decode cX4_afterExchange 1 = .ok (.getfield 23, 3) := by decide +kernel
theorem dX4_afterExchange_4 : decode cX4_afterExchange 4 = .ok (.aload_n 0, 1) := by decide +kernel
theorem dX4_afterExchange_5 : decode cX4_afterExchange 5 = .ok (.getfield 12, 3) := by decide +kernel
theorem dX4_afterExchange_8 : decode cX4_afterExchange 8 = .ok (.invokevirtual 241, 3) := by decide +kernel
theorem dX4_afterExchange_11 : decode cX4_afterExchange 11 = .ok (.aload_n 0, 1) := by decide +kernel
theorem dX4_afterExchange_12 : decode cX4_afterExchange 12 = .ok (.getfield 23, 3) := by decide +kernel
theorem dX4_afterExchange_15 : decode cX4_afterExchange 15 = .ok (.iload_n 1, 1) := by decide +kernel
theorem dX4_afterExchange_16 : decode cX4_afterExchange 16 = .ok (.invokevirtual 244, 3) := by decide +kernel
theorem dX4_afterExchange_19 : decode cX4_afterExchange 19 = .ok (.aload_n 0, 1) := by decide +kernel
theorem dX4_afterExchange_20 : decode cX4_afterExchange 20 = .ok (.getfield 26, 3) := by decide +kernel
theorem dX4_afterExchange_23 : decode cX4_afterExchange 23 = .ok (.aload_n 0, 1) := by decide +kernel
theorem dX4_afterExchange_24 : decode cX4_afterExchange 24 = .ok (.getfield 23, 3) := by decide +kernel
theorem dX4_afterExchange_27 : decode cX4_afterExchange 27 = .ok (.invokevirtual 80, 3) := by decide +kernel
theorem dX4_afterExchange_30 : decode cX4_afterExchange 30 = .ok (.iload_n 2, 1) := by decide +kernel
theorem dX4_afterExchange_31 : decode cX4_afterExchange 31 = .ok (.ifCond .ne 13, 3) := by decide +kernel
theorem dX4_afterExchange_34 : decode cX4_afterExchange 34 = .ok (.aload_n 0, 1) := by decide +kernel
theorem dX4_afterExchange_35 : decode cX4_afterExchange 35 = .ok (.getfield 26, 3) := by decide +kernel
theorem dX4_afterExchange_38 : decode cX4_afterExchange 38 = .ok (.getfield 106, 3) := by decide +kernel
theorem dX4_afterExchange_41 : decode cX4_afterExchange 41 = .ok (.goto 10, 3) := by decide +kernel
theorem dX4_afterExchange_44 : decode cX4_afterExchange 44 = .ok (.aload_n 0, 1) := by decide +kernel
theorem dX4_afterExchange_45 : decode cX4_afterExchange 45 = .ok (.getfield 26, 3) := by decide +kernel
theorem dX4_afterExchange_48 : decode cX4_afterExchange 48 = .ok (.invokevirtual 226, 3) := by decide +kernel
theorem dX4_afterExchange_51 : decode cX4_afterExchange 51 = .ok (.ireturn, 1) := by decide +kernel
set_option maxRecDepth 20000 in
theorem ggX4_leastThatServes_X2_copyFrom : GoodIn wsX4_leastThatServes wsX2_copyFrom := goodIn_r _ [8, 9, 10, 11, 12, 13, 14, 15, 16, 17, 91, 92, 93, 94, 95] (by decide +kernel) (by decide +kernel)
set_option maxRecDepth 20000 in
theorem gX4_leastThatServes_X2_copyFrom_n241 : GoodIn wsX4_leastThatServes (wsX2_copyFrom) := ggX4_leastThatServes_X2_copyFrom
set_option maxRecDepth 20000 in
theorem ggX4_leastThatServes_X1_pour : GoodIn wsX4_leastThatServes wsX1_pour := goodIn_r _ [21, 22, 23, 24, 25, 19, 26, 27, 28, 29, 30, 31, 32, 33, 34, 35, 36, 37, 38, 39, 40, 41, 42, 43, 44, 45, 46, 47, 48, 49, 50, 51, 52, 53, 54, 55, 56, 57, 58, 59, 60, 61, 62, 63, 64, 65, 66, 67, 68, 69, 70, 71, 72, 73, 74, 75, 76, 77, 78, 79, 80, 81, 82, 83, 84, 91, 92, 93, 94, 95, 96, 97, 98, 99, 100, 101, 102, 103, 104, 105, 106, 107, 108, 109, 110] (by decide +kernel) (by decide +kernel)
set_option maxRecDepth 20000 in
theorem gX4_leastThatServes_X1_pour_n80 : GoodIn wsX4_leastThatServes (wsX1_pour) := ggX4_leastThatServes_X1_pour
theorem dX4_leastThatServes_0 : decode cX4_leastThatServes 0 = .ok (.aload_n 0, 1) := by decide +kernel
theorem dX4_leastThatServes_1 : decode cX4_leastThatServes 1 = .ok (.getfield 23, 3) := by decide +kernel
theorem dX4_leastThatServes_4 : decode cX4_leastThatServes 4 = .ok (.aload_n 0, 1) := by decide +kernel
theorem dX4_leastThatServes_5 : decode cX4_leastThatServes 5 = .ok (.getfield 12, 3) := by decide +kernel
theorem dX4_leastThatServes_8 : decode cX4_leastThatServes 8 = .ok (.invokevirtual 241, 3) := by decide +kernel
theorem dX4_leastThatServes_11 : decode cX4_leastThatServes 11 = .ok (.bipush 9, 2) := by decide +kernel
theorem dX4_leastThatServes_13 : decode cX4_leastThatServes 13 = .ok (.istore_n 1, 1) := by decide +kernel
theorem dX4_leastThatServes_14 : decode cX4_leastThatServes 14 = .ok (.iload_n 1, 1) := by decide +kernel
theorem dX4_leastThatServes_15 : decode cX4_leastThatServes 15 = .ok (.aload_n 0, 1) := by decide +kernel
theorem dX4_leastThatServes_16 : decode cX4_leastThatServes 16 = .ok (.getfield 12, 3) := by decide +kernel
theorem dX4_leastThatServes_19 : decode cX4_leastThatServes 19 = .ok (.getfield 111, 3) := by decide +kernel
theorem dX4_leastThatServes_22 : decode cX4_leastThatServes 22 = .ok (.if_icmp .ge 64, 3) := by decide +kernel
theorem dX4_leastThatServes_25 : decode cX4_leastThatServes 25 = .ok (.aload_n 0, 1) := by decide +kernel
theorem dX4_leastThatServes_26 : decode cX4_leastThatServes 26 = .ok (.getfield 23, 3) := by decide +kernel
theorem dX4_leastThatServes_29 : decode cX4_leastThatServes 29 = .ok (.iload_n 1, 1) := by decide +kernel
theorem dX4_leastThatServes_30 : decode cX4_leastThatServes 30 = .ok (.putfield 111, 3) := by decide +kernel
theorem dX4_leastThatServes_33 : decode cX4_leastThatServes 33 = .ok (.aload_n 0, 1) := by decide +kernel
theorem dX4_leastThatServes_34 : decode cX4_leastThatServes 34 = .ok (.getfield 26, 3) := by decide +kernel
theorem dX4_leastThatServes_37 : decode cX4_leastThatServes 37 = .ok (.aload_n 0, 1) := by decide +kernel
theorem dX4_leastThatServes_38 : decode cX4_leastThatServes 38 = .ok (.getfield 23, 3) := by decide +kernel
theorem dX4_leastThatServes_41 : decode cX4_leastThatServes 41 = .ok (.invokevirtual 80, 3) := by decide +kernel
theorem dX4_leastThatServes_44 : decode cX4_leastThatServes 44 = .ok (.aload_n 0, 1) := by decide +kernel
theorem dX4_leastThatServes_45 : decode cX4_leastThatServes 45 = .ok (.getfield 26, 3) := by decide +kernel
theorem dX4_leastThatServes_48 : decode cX4_leastThatServes 48 = .ok (.getfield 106, 3) := by decide +kernel
theorem dX4_leastThatServes_51 : decode cX4_leastThatServes 51 = .ok (.aload_n 0, 1) := by decide +kernel
theorem dX4_leastThatServes_52 : decode cX4_leastThatServes 52 = .ok (.getfield 19, 3) := by decide +kernel
theorem dX4_leastThatServes_55 : decode cX4_leastThatServes 55 = .ok (.getfield 106, 3) := by decide +kernel
theorem dX4_leastThatServes_58 : decode cX4_leastThatServes 58 = .ok (.if_icmp .gt 22, 3) := by decide +kernel
theorem dX4_leastThatServes_61 : decode cX4_leastThatServes 61 = .ok (.aload_n 0, 1) := by decide +kernel
theorem dX4_leastThatServes_62 : decode cX4_leastThatServes 62 = .ok (.getfield 26, 3) := by decide +kernel
theorem dX4_leastThatServes_65 : decode cX4_leastThatServes 65 = .ok (.getfield 220, 3) := by decide +kernel
theorem dX4_leastThatServes_68 : decode cX4_leastThatServes 68 = .ok (.aload_n 0, 1) := by decide +kernel
theorem dX4_leastThatServes_69 : decode cX4_leastThatServes 69 = .ok (.getfield 19, 3) := by decide +kernel
theorem dX4_leastThatServes_72 : decode cX4_leastThatServes 72 = .ok (.getfield 220, 3) := by decide +kernel
theorem dX4_leastThatServes_75 : decode cX4_leastThatServes 75 = .ok (.if_icmp .gt 5, 3) := by decide +kernel
theorem dX4_leastThatServes_78 : decode cX4_leastThatServes 78 = .ok (.iload_n 1, 1) := by decide +kernel
theorem dX4_leastThatServes_79 : decode cX4_leastThatServes 79 = .ok (.ireturn, 1) := by decide +kernel
theorem dX4_leastThatServes_80 : decode cX4_leastThatServes 80 = .ok (.iinc 1 1, 3) := by decide +kernel
theorem dX4_leastThatServes_83 : decode cX4_leastThatServes 83 = .ok (.goto (-69), 3) := by decide +kernel
theorem dX4_leastThatServes_86 : decode cX4_leastThatServes 86 = .ok (.aload_n 0, 1) := by decide +kernel
theorem dX4_leastThatServes_87 : decode cX4_leastThatServes 87 = .ok (.getfield 12, 3) := by decide +kernel
theorem dX4_leastThatServes_90 : decode cX4_leastThatServes 90 = .ok (.getfield 111, 3) := by decide +kernel
theorem dX4_leastThatServes_93 : decode cX4_leastThatServes 93 = .ok (.ireturn, 1) := by decide +kernel
set_option maxRecDepth 20000 in
theorem ggX4_widthOfLeastCost_X2_copyFrom : GoodIn wsX4_widthOfLeastCost wsX2_copyFrom := goodIn_r _ [7, 8, 9, 10, 11, 12, 13, 14, 15, 16, 98, 99, 100, 101, 102] (by decide +kernel) (by decide +kernel)
set_option maxRecDepth 20000 in
theorem gX4_widthOfLeastCost_X2_copyFrom_n241 : GoodIn wsX4_widthOfLeastCost (wsX2_copyFrom) := ggX4_widthOfLeastCost_X2_copyFrom
set_option maxRecDepth 20000 in
theorem ggX4_widthOfLeastCost_X4_write : GoodIn wsX4_widthOfLeastCost wsX4_write := goodIn_r _ [20] (by decide +kernel) (by decide +kernel)
set_option maxRecDepth 20000 in
theorem gX4_widthOfLeastCost_X4_write : GoodIn wsX4_widthOfLeastCost (va_wsS RX4 99 yX4_write wsX4_write) := goodIn_app (goodIn_of _ (by decide +kernel)) ggX4_widthOfLeastCost_X4_write
set_option maxRecDepth 20000 in
theorem ggX4_widthOfLeastCost_X1_pour : GoodIn wsX4_widthOfLeastCost wsX1_pour := goodIn_r _ [24, 25, 26, 27, 28, 22, 29, 30, 31, 32, 33, 34, 35, 36, 37, 38, 39, 40, 41, 42, 43, 44, 45, 46, 47, 48, 49, 19, 50, 51, 52, 53, 54, 55, 56, 57, 58, 59, 60, 61, 62, 63, 64, 65, 66, 67, 68, 69, 70, 71, 72, 73, 74, 75, 76, 77, 78, 79, 80, 81, 82, 83, 84, 18, 20, 98, 99, 100, 101, 102, 103, 104, 105, 106, 107, 108, 109, 110, 111, 112, 113, 114, 115, 116, 117] (by decide +kernel) (by decide +kernel)
set_option maxRecDepth 20000 in
theorem gX4_widthOfLeastCost_X1_pour_n80 : GoodIn wsX4_widthOfLeastCost (wsX1_pour) := ggX4_widthOfLeastCost_X1_pour
set_option maxRecDepth 20000 in
theorem ggX4_widthOfLeastCost_X1_cost : GoodIn wsX4_widthOfLeastCost wsX1_cost := goodIn_r _ [87, 25, 35, 88, 89, 90, 22, 91, 36, 37, 103, 104, 105, 106, 107, 108, 109, 110, 111, 112, 113, 114, 115, 116, 117] (by decide +kernel) (by decide +kernel)
set_option maxRecDepth 20000 in
theorem gX4_widthOfLeastCost_X1_cost_n247 : GoodIn wsX4_widthOfLeastCost (wsX1_cost) := ggX4_widthOfLeastCost_X1_cost
theorem dX4_widthOfLeastCost_0 : decode cX4_widthOfLeastCost 0 = .ok (.aload_n 0, 1) := by decide +kernel
theorem dX4_widthOfLeastCost_1 : decode cX4_widthOfLeastCost 1 = .ok (.getfield 23, 3) := by decide +kernel
theorem dX4_widthOfLeastCost_4 : decode cX4_widthOfLeastCost 4 = .ok (.aload_n 0, 1) := by decide +kernel
theorem dX4_widthOfLeastCost_5 : decode cX4_widthOfLeastCost 5 = .ok (.getfield 12, 3) := by decide +kernel
theorem dX4_widthOfLeastCost_8 : decode cX4_widthOfLeastCost 8 = .ok (.invokevirtual 241, 3) := by decide +kernel
theorem dX4_widthOfLeastCost_11 : decode cX4_widthOfLeastCost 11 = .ok (.iconst (-1), 1) := by decide +kernel
theorem dX4_widthOfLeastCost_12 : decode cX4_widthOfLeastCost 12 = .ok (.istore_n 2, 1) := by decide +kernel
theorem dX4_widthOfLeastCost_13 : decode cX4_widthOfLeastCost 13 = .ok (.iconst 0, 1) := by decide +kernel
theorem dX4_widthOfLeastCost_14 : decode cX4_widthOfLeastCost 14 = .ok (.istore_n 3, 1) := by decide +kernel
theorem dX4_widthOfLeastCost_15 : decode cX4_widthOfLeastCost 15 = .ok (.iconst 1, 1) := by decide +kernel
theorem dX4_widthOfLeastCost_16 : decode cX4_widthOfLeastCost 16 = .ok (.istore 4, 2) := by decide +kernel
theorem dX4_widthOfLeastCost_18 : decode cX4_widthOfLeastCost 18 = .ok (.iload 4, 2) := by decide +kernel
theorem dX4_widthOfLeastCost_20 : decode cX4_widthOfLeastCost 20 = .ok (.bipush 6, 2) := by decide +kernel
theorem dX4_widthOfLeastCost_22 : decode cX4_widthOfLeastCost 22 = .ok (.if_icmp .gt 59, 3) := by decide +kernel
theorem dX4_widthOfLeastCost_25 : decode cX4_widthOfLeastCost 25 = .ok (.aload_n 0, 1) := by decide +kernel
theorem dX4_widthOfLeastCost_26 : decode cX4_widthOfLeastCost 26 = .ok (.getfield 23, 3) := by decide +kernel
theorem dX4_widthOfLeastCost_29 : decode cX4_widthOfLeastCost 29 = .ok (.getfield 95, 3) := by decide +kernel
theorem dX4_widthOfLeastCost_32 : decode cX4_widthOfLeastCost 32 = .ok (.iload_n 1, 1) := by decide +kernel
theorem dX4_widthOfLeastCost_33 : decode cX4_widthOfLeastCost 33 = .ok (.iload 4, 2) := by decide +kernel
theorem dX4_widthOfLeastCost_35 : decode cX4_widthOfLeastCost 35 = .ok (.invokestatic 99, 3) := by decide +kernel
theorem dX4_widthOfLeastCost_38 : decode cX4_widthOfLeastCost 38 = .ok (.aload_n 0, 1) := by decide +kernel
theorem dX4_widthOfLeastCost_39 : decode cX4_widthOfLeastCost 39 = .ok (.getfield 26, 3) := by decide +kernel
theorem dX4_widthOfLeastCost_42 : decode cX4_widthOfLeastCost 42 = .ok (.aload_n 0, 1) := by decide +kernel
theorem dX4_widthOfLeastCost_43 : decode cX4_widthOfLeastCost 43 = .ok (.getfield 23, 3) := by decide +kernel
theorem dX4_widthOfLeastCost_46 : decode cX4_widthOfLeastCost 46 = .ok (.invokevirtual 80, 3) := by decide +kernel
theorem dX4_widthOfLeastCost_49 : decode cX4_widthOfLeastCost 49 = .ok (.aload_n 0, 1) := by decide +kernel
theorem dX4_widthOfLeastCost_50 : decode cX4_widthOfLeastCost 50 = .ok (.getfield 26, 3) := by decide +kernel
theorem dX4_widthOfLeastCost_53 : decode cX4_widthOfLeastCost 53 = .ok (.invokevirtual 247, 3) := by decide +kernel
theorem dX4_widthOfLeastCost_56 : decode cX4_widthOfLeastCost 56 = .ok (.istore 5, 2) := by decide +kernel
theorem dX4_widthOfLeastCost_58 : decode cX4_widthOfLeastCost 58 = .ok (.iload_n 2, 1) := by decide +kernel
theorem dX4_widthOfLeastCost_59 : decode cX4_widthOfLeastCost 59 = .ok (.iconst (-1), 1) := by decide +kernel
theorem dX4_widthOfLeastCost_60 : decode cX4_widthOfLeastCost 60 = .ok (.if_icmp .eq 9, 3) := by decide +kernel
theorem dX4_widthOfLeastCost_63 : decode cX4_widthOfLeastCost 63 = .ok (.iload 5, 2) := by decide +kernel
theorem dX4_widthOfLeastCost_65 : decode cX4_widthOfLeastCost 65 = .ok (.iload_n 3, 1) := by decide +kernel
theorem dX4_widthOfLeastCost_66 : decode cX4_widthOfLeastCost 66 = .ok (.if_icmp .ge 9, 3) := by decide +kernel
theorem dX4_widthOfLeastCost_69 : decode cX4_widthOfLeastCost 69 = .ok (.iload 4, 2) := by decide +kernel
theorem dX4_widthOfLeastCost_71 : decode cX4_widthOfLeastCost 71 = .ok (.istore_n 2, 1) := by decide +kernel
theorem dX4_widthOfLeastCost_72 : decode cX4_widthOfLeastCost 72 = .ok (.iload 5, 2) := by decide +kernel
theorem dX4_widthOfLeastCost_74 : decode cX4_widthOfLeastCost 74 = .ok (.istore_n 3, 1) := by decide +kernel
theorem dX4_widthOfLeastCost_75 : decode cX4_widthOfLeastCost 75 = .ok (.iinc 4 1, 3) := by decide +kernel
theorem dX4_widthOfLeastCost_78 : decode cX4_widthOfLeastCost 78 = .ok (.goto (-60), 3) := by decide +kernel
theorem dX4_widthOfLeastCost_81 : decode cX4_widthOfLeastCost 81 = .ok (.iload_n 2, 1) := by decide +kernel
theorem dX4_widthOfLeastCost_82 : decode cX4_widthOfLeastCost 82 = .ok (.ireturn, 1) := by decide +kernel

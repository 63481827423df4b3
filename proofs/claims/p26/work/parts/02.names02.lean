theorem dX0_init_0 : decode cX0_init 0 = .ok (.aload_n 0, 1) := by decide +kernel
theorem dX0_init_1 : decode cX0_init 1 = .ok (.invokespecial 3, 3) := by decide +kernel
theorem dX0_init_4 : decode cX0_init 4 = .ok (.aload_n 0, 1) := by decide +kernel
theorem dX0_init_5 : decode cX0_init 5 = .ok (.iconst 1, 1) := by decide +kernel
theorem dX0_init_6 : decode cX0_init 6 = .ok (.putfield 9, 3) := by decide +kernel
theorem dX0_init_9 : decode cX0_init 9 = .ok (.aload_n 0, 1) := by decide +kernel
theorem dX0_init_10 : decode cX0_init 10 = .ok (.iconst 0, 1) := by decide +kernel
theorem dX0_init_11 : decode cX0_init 11 = .ok (.putfield 15, 3) := by decide +kernel
theorem dX0_init_14 : decode cX0_init 14 = .ok (.aload_n 0, 1) := by decide +kernel
theorem dX0_init_15 : decode cX0_init 15 = .ok (.bipush 6, 2) := by decide +kernel
theorem dX0_init_17 : decode cX0_init 17 = .ok (.putfield 18, 3) := by decide +kernel
theorem dX0_init_20 : decode cX0_init 20 = .ok (.aload_n 0, 1) := by decide +kernel
theorem dX0_init_21 : decode cX0_init 21 = .ok (.iconst 0, 1) := by decide +kernel
theorem dX0_init_22 : decode cX0_init 22 = .ok (.putfield 21, 3) := by decide +kernel
theorem dX0_init_25 : decode cX0_init 25 = .ok (.aload_n 0, 1) := by decide +kernel
theorem dX0_init_26 : decode cX0_init 26 = .ok (.bipush 40, 2) := by decide +kernel
theorem dX0_init_28 : decode cX0_init 28 = .ok (.newarray .long, 2) := by decide +kernel
theorem dX0_init_30 : decode cX0_init 30 = .ok (.putfield 24, 3) := by decide +kernel
theorem dX0_init_33 : decode cX0_init 33 = .ok (.return_, 1) := by decide +kernel
theorem dX0_copyFrom_0 : decode cX0_copyFrom 0 = .ok (.aload_n 0, 1) := by decide +kernel
theorem dX0_copyFrom_1 : decode cX0_copyFrom 1 = .ok (.aload_n 1, 1) := by decide +kernel
theorem dX0_copyFrom_2 : decode cX0_copyFrom 2 = .ok (.getfield 9, 3) := by decide +kernel
theorem dX0_copyFrom_5 : decode cX0_copyFrom 5 = .ok (.putfield 9, 3) := by decide +kernel
theorem dX0_copyFrom_8 : decode cX0_copyFrom 8 = .ok (.aload_n 0, 1) := by decide +kernel
theorem dX0_copyFrom_9 : decode cX0_copyFrom 9 = .ok (.aload_n 1, 1) := by decide +kernel
theorem dX0_copyFrom_10 : decode cX0_copyFrom 10 = .ok (.getfield 15, 3) := by decide +kernel
theorem dX0_copyFrom_13 : decode cX0_copyFrom 13 = .ok (.putfield 15, 3) := by decide +kernel
theorem dX0_copyFrom_16 : decode cX0_copyFrom 16 = .ok (.aload_n 0, 1) := by decide +kernel
theorem dX0_copyFrom_17 : decode cX0_copyFrom 17 = .ok (.aload_n 1, 1) := by decide +kernel
theorem dX0_copyFrom_18 : decode cX0_copyFrom 18 = .ok (.getfield 18, 3) := by decide +kernel
theorem dX0_copyFrom_21 : decode cX0_copyFrom 21 = .ok (.putfield 18, 3) := by decide +kernel
theorem dX0_copyFrom_24 : decode cX0_copyFrom 24 = .ok (.aload_n 0, 1) := by decide +kernel
theorem dX0_copyFrom_25 : decode cX0_copyFrom 25 = .ok (.aload_n 1, 1) := by decide +kernel
theorem dX0_copyFrom_26 : decode cX0_copyFrom 26 = .ok (.getfield 21, 3) := by decide +kernel
theorem dX0_copyFrom_29 : decode cX0_copyFrom 29 = .ok (.putfield 21, 3) := by decide +kernel
theorem dX0_copyFrom_32 : decode cX0_copyFrom 32 = .ok (.aload_n 1, 1) := by decide +kernel
theorem dX0_copyFrom_33 : decode cX0_copyFrom 33 = .ok (.getfield 24, 3) := by decide +kernel
theorem dX0_copyFrom_36 : decode cX0_copyFrom 36 = .ok (.iconst 0, 1) := by decide +kernel
theorem dX0_copyFrom_37 : decode cX0_copyFrom 37 = .ok (.aload_n 0, 1) := by decide +kernel
theorem dX0_copyFrom_38 : decode cX0_copyFrom 38 = .ok (.getfield 24, 3) := by decide +kernel
theorem dX0_copyFrom_41 : decode cX0_copyFrom 41 = .ok (.iconst 0, 1) := by decide +kernel
theorem dX0_copyFrom_42 : decode cX0_copyFrom 42 = .ok (.bipush 40, 2) := by decide +kernel
theorem dX0_copyFrom_44 : decode cX0_copyFrom 44 = .ok (.invokestatic 28, 3) := by decide +kernel
theorem dX0_copyFrom_47 : decode cX0_copyFrom 47 = .ok (.return_, 1) := by decide +kernel
theorem dX0_coveredAngles_0 : decode cX0_coveredAngles 0 = .ok (.sipush 720, 3) := by decide +kernel
theorem dX0_coveredAngles_3 : decode cX0_coveredAngles 3 = .ok (.aload_n 0, 1) := by decide +kernel
theorem dX0_coveredAngles_4 : decode cX0_coveredAngles 4 = .ok (.getfield 9, 3) := by decide +kernel
theorem dX0_coveredAngles_7 : decode cX0_coveredAngles 7 = .ok (.aload_n 0, 1) := by decide +kernel
theorem dX0_coveredAngles_8 : decode cX0_coveredAngles 8 = .ok (.getfield 18, 3) := by decide +kernel
theorem dX0_coveredAngles_11 : decode cX0_coveredAngles 11 = .ok (.imul, 1) := by decide +kernel
theorem dX0_coveredAngles_12 : decode cX0_coveredAngles 12 = .ok (.invokestatic 34, 3) := by decide +kernel
theorem dX0_coveredAngles_15 : decode cX0_coveredAngles 15 = .ok (.ireturn, 1) := by decide +kernel
set_option maxRecDepth 20000 in
theorem ggX0_covers_J9_floorMod_7cf53 : GoodIn wsX0_covers wsJ9_floorMod_7cf53 := goodIn_r _ [5] (by decide +kernel) (by decide +kernel)
set_option maxRecDepth 20000 in
theorem gX0_covers_J9_floorMod_7cf53 : GoodIn wsX0_covers (va_wsS RX0 40 yJ9_floorMod_7cf53 wsJ9_floorMod_7cf53) := goodIn_app (goodIn_of _ (by decide +kernel)) ggX0_covers_J9_floorMod_7cf53
set_option maxRecDepth 20000 in
theorem ggX0_covers_X0_coveredAngles : GoodIn wsX0_covers wsX0_coveredAngles := goodIn_r _ [10, 11, 12, 13, 14, 15, 16, 17, 18, 19, 20, 21] (by decide +kernel) (by decide +kernel)
set_option maxRecDepth 20000 in
theorem gX0_covers_X0_coveredAngles : GoodIn wsX0_covers (wsV RX0 43 RX0 yX0_coveredAngles wsX0_coveredAngles) := goodIn_app (goodIn_of _ (by decide +kernel)) ggX0_covers_X0_coveredAngles
theorem dX0_covers_0 : decode cX0_covers 0 = .ok (.iload_n 1, 1) := by decide +kernel
theorem dX0_covers_1 : decode cX0_covers 1 = .ok (.aload_n 0, 1) := by decide +kernel
theorem dX0_covers_2 : decode cX0_covers 2 = .ok (.getfield 15, 3) := by decide +kernel
theorem dX0_covers_5 : decode cX0_covers 5 = .ok (.isub, 1) := by decide +kernel
theorem dX0_covers_6 : decode cX0_covers 6 = .ok (.sipush 720, 3) := by decide +kernel
theorem dX0_covers_9 : decode cX0_covers 9 = .ok (.invokestatic 40, 3) := by decide +kernel
theorem dX0_covers_12 : decode cX0_covers 12 = .ok (.aload_n 0, 1) := by decide +kernel
theorem dX0_covers_13 : decode cX0_covers 13 = .ok (.invokevirtual 43, 3) := by decide +kernel
theorem dX0_covers_16 : decode cX0_covers 16 = .ok (.if_icmp .ge 7, 3) := by decide +kernel
theorem dX0_covers_19 : decode cX0_covers 19 = .ok (.iconst 1, 1) := by decide +kernel
theorem dX0_covers_20 : decode cX0_covers 20 = .ok (.goto 4, 3) := by decide +kernel
theorem dX0_covers_23 : decode cX0_covers 23 = .ok (.iconst 0, 1) := by decide +kernel
theorem dX0_covers_24 : decode cX0_covers 24 = .ok (.ireturn, 1) := by decide +kernel
set_option maxRecDepth 20000 in
theorem ggX0_columnOf_J9_floorMod_7cf53 : GoodIn wsX0_columnOf wsJ9_floorMod_7cf53 := goodIn_r _ [8] (by decide +kernel) (by decide +kernel)
set_option maxRecDepth 20000 in
theorem gX0_columnOf_J9_floorMod_7cf53 : GoodIn wsX0_columnOf (va_wsS RX0 40 yJ9_floorMod_7cf53 wsJ9_floorMod_7cf53) := goodIn_app (goodIn_of _ (by decide +kernel)) ggX0_columnOf_J9_floorMod_7cf53
theorem dX0_columnOf_0 : decode cX0_columnOf 0 = .ok (.iload_n 1, 1) := by decide +kernel
theorem dX0_columnOf_1 : decode cX0_columnOf 1 = .ok (.aload_n 0, 1) := by decide +kernel
theorem dX0_columnOf_2 : decode cX0_columnOf 2 = .ok (.getfield 15, 3) := by decide +kernel
theorem dX0_columnOf_5 : decode cX0_columnOf 5 = .ok (.isub, 1) := by decide +kernel
theorem dX0_columnOf_6 : decode cX0_columnOf 6 = .ok (.sipush 720, 3) := by decide +kernel
theorem dX0_columnOf_9 : decode cX0_columnOf 9 = .ok (.invokestatic 40, 3) := by decide +kernel
theorem dX0_columnOf_12 : decode cX0_columnOf 12 = .ok (.aload_n 0, 1) := by decide +kernel
theorem dX0_columnOf_13 : decode cX0_columnOf 13 = .ok (.getfield 18, 3) := by decide +kernel
theorem dX0_columnOf_16 : decode cX0_columnOf 16 = .ok (.idiv, 1) := by decide +kernel
theorem dX0_columnOf_17 : decode cX0_columnOf 17 = .ok (.istore_n 2, 1) := by decide +kernel
theorem dX0_columnOf_18 : decode cX0_columnOf 18 = .ok (.aload_n 0, 1) := by decide +kernel
theorem dX0_columnOf_19 : decode cX0_columnOf 19 = .ok (.getfield 21, 3) := by decide +kernel
theorem dX0_columnOf_22 : decode cX0_columnOf 22 = .ok (.iconst 1, 1) := by decide +kernel
theorem dX0_columnOf_23 : decode cX0_columnOf 23 = .ok (.if_icmp .ne 14, 3) := by decide +kernel
theorem dX0_columnOf_26 : decode cX0_columnOf 26 = .ok (.aload_n 0, 1) := by decide +kernel
theorem dX0_columnOf_27 : decode cX0_columnOf 27 = .ok (.getfield 9, 3) := by decide +kernel
theorem dX0_columnOf_30 : decode cX0_columnOf 30 = .ok (.iconst 1, 1) := by decide +kernel
theorem dX0_columnOf_31 : decode cX0_columnOf 31 = .ok (.isub, 1) := by decide +kernel
theorem dX0_columnOf_32 : decode cX0_columnOf 32 = .ok (.iload_n 2, 1) := by decide +kernel
theorem dX0_columnOf_33 : decode cX0_columnOf 33 = .ok (.isub, 1) := by decide +kernel
theorem dX0_columnOf_34 : decode cX0_columnOf 34 = .ok (.goto 4, 3) := by decide +kernel
theorem dX0_columnOf_37 : decode cX0_columnOf 37 = .ok (.iload_n 2, 1) := by decide +kernel
theorem dX0_columnOf_38 : decode cX0_columnOf 38 = .ok (.ireturn, 1) := by decide +kernel
set_option maxRecDepth 20000 in
theorem ggX0_wantedAt_X0_covers : GoodIn wsX0_wantedAt wsX0_covers := goodIn_r _ [7, 8, 9, 10, 11, 12, 13, 14, 15, 6, 16, 17, 18, 19, 20, 21, 22, 27, 28, 29, 30, 31] (by decide +kernel) (by decide +kernel)
set_option maxRecDepth 20000 in
theorem gX0_wantedAt_X0_covers : GoodIn wsX0_wantedAt (wsV RX0 47 RX0 yX0_covers wsX0_covers) := goodIn_app (goodIn_of _ (by decide +kernel)) ggX0_wantedAt_X0_covers
set_option maxRecDepth 20000 in
theorem ggX0_wantedAt_X0_columnOf : GoodIn wsX0_wantedAt wsX0_columnOf := goodIn_r _ [26, 8, 18, 1, 17, 9, 10, 11, 12, 27, 28, 29, 30, 31] (by decide +kernel) (by decide +kernel)
set_option maxRecDepth 20000 in
theorem gX0_wantedAt_X0_columnOf : GoodIn wsX0_wantedAt (wsV RX0 51 RX0 yX0_columnOf wsX0_columnOf) := goodIn_app (goodIn_of _ (by decide +kernel)) ggX0_wantedAt_X0_columnOf
theorem dX0_wantedAt_0 : decode cX0_wantedAt 0 = .ok (.aload_n 0, 1) := by decide +kernel
theorem dX0_wantedAt_1 : decode cX0_wantedAt 1 = .ok (.getfield 21, 3) := by decide +kernel
theorem dX0_wantedAt_4 : decode cX0_wantedAt 4 = .ok (.iconst 2, 1) := by decide +kernel
theorem dX0_wantedAt_5 : decode cX0_wantedAt 5 = .ok (.if_icmp .eq 24, 3) := by decide +kernel
theorem dX0_wantedAt_8 : decode cX0_wantedAt 8 = .ok (.aload_n 0, 1) := by decide +kernel
theorem dX0_wantedAt_9 : decode cX0_wantedAt 9 = .ok (.iload_n 1, 1) := by decide +kernel
theorem dX0_wantedAt_10 : decode cX0_wantedAt 10 = .ok (.invokevirtual 47, 3) := by decide +kernel
theorem dX0_wantedAt_13 : decode cX0_wantedAt 13 = .ok (.ifCond .eq 16, 3) := by decide +kernel
theorem dX0_wantedAt_16 : decode cX0_wantedAt 16 = .ok (.aload_n 0, 1) := by decide +kernel
theorem dX0_wantedAt_17 : decode cX0_wantedAt 17 = .ok (.getfield 24, 3) := by decide +kernel
theorem dX0_wantedAt_20 : decode cX0_wantedAt 20 = .ok (.aload_n 0, 1) := by decide +kernel
theorem dX0_wantedAt_21 : decode cX0_wantedAt 21 = .ok (.iload_n 1, 1) := by decide +kernel
theorem dX0_wantedAt_22 : decode cX0_wantedAt 22 = .ok (.invokevirtual 51, 3) := by decide +kernel
theorem dX0_wantedAt_25 : decode cX0_wantedAt 25 = .ok (.laload, 1) := by decide +kernel
theorem dX0_wantedAt_26 : decode cX0_wantedAt 26 = .ok (.goto 4, 3) := by decide +kernel
theorem dX0_wantedAt_29 : decode cX0_wantedAt 29 = .ok (.lconst 0, 1) := by decide +kernel
theorem dX0_wantedAt_30 : decode cX0_wantedAt 30 = .ok (.lreturn, 1) := by decide +kernel
set_option maxRecDepth 20000 in
theorem ggX0_countNotDark_X4_notDark : GoodIn wsX0_countNotDark wsX4_notDark := goodIn_r _ [5, 6] (by decide +kernel) (by decide +kernel)
set_option maxRecDepth 20000 in
theorem gX0_countNotDark_X4_notDark_n55 : GoodIn wsX0_countNotDark (wsX4_notDark) := ggX0_countNotDark_X4_notDark
set_option maxRecDepth 20000 in
theorem ggX0_countNotDark_J13_bitCount_95d88 : GoodIn wsX0_countNotDark wsJ13_bitCount_95d88 := goodIn_r _ [10, 11, 12, 13] (by decide +kernel) (by decide +kernel)
set_option maxRecDepth 20000 in
theorem gX0_countNotDark_J13_bitCount_95d88 : GoodIn wsX0_countNotDark (va_wsS RX0 59 yJ13_bitCount_95d88 wsJ13_bitCount_95d88) := goodIn_app (goodIn_of _ (by decide +kernel)) ggX0_countNotDark_J13_bitCount_95d88
theorem dX0_countNotDark_0 : decode cX0_countNotDark 0 = .ok (.iconst 0, 1) := by decide +kernel
theorem dX0_countNotDark_1 : decode cX0_countNotDark 1 = .ok (.istore_n 1, 1) := by decide +kernel
theorem dX0_countNotDark_2 : decode cX0_countNotDark 2 = .ok (.iconst 0, 1) := by decide +kernel
theorem dX0_countNotDark_3 : decode cX0_countNotDark 3 = .ok (.istore_n 2, 1) := by decide +kernel
theorem dX0_countNotDark_4 : decode cX0_countNotDark 4 = .ok (.iload_n 2, 1) := by decide +kernel
theorem dX0_countNotDark_5 : decode cX0_countNotDark 5 = .ok (.aload_n 0, 1) := by decide +kernel
theorem dX0_countNotDark_6 : decode cX0_countNotDark 6 = .ok (.getfield 9, 3) := by decide +kernel
theorem dX0_countNotDark_9 : decode cX0_countNotDark 9 = .ok (.if_icmp .ge 24, 3) := by decide +kernel
theorem dX0_countNotDark_12 : decode cX0_countNotDark 12 = .ok (.iload_n 1, 1) := by decide +kernel
theorem dX0_countNotDark_13 : decode cX0_countNotDark 13 = .ok (.aload_n 0, 1) := by decide +kernel
theorem dX0_countNotDark_14 : decode cX0_countNotDark 14 = .ok (.getfield 24, 3) := by decide +kernel
theorem dX0_countNotDark_17 : decode cX0_countNotDark 17 = .ok (.iload_n 2, 1) := by decide +kernel
theorem dX0_countNotDark_18 : decode cX0_countNotDark 18 = .ok (.laload, 1) := by decide +kernel
theorem dX0_countNotDark_19 : decode cX0_countNotDark 19 = .ok (.invokestatic 55, 3) := by decide +kernel
theorem dX0_countNotDark_22 : decode cX0_countNotDark 22 = .ok (.invokestatic 59, 3) := by decide +kernel
theorem dX0_countNotDark_25 : decode cX0_countNotDark 25 = .ok (.iadd, 1) := by decide +kernel
theorem dX0_countNotDark_26 : decode cX0_countNotDark 26 = .ok (.istore_n 1, 1) := by decide +kernel
theorem dX0_countNotDark_27 : decode cX0_countNotDark 27 = .ok (.iinc 2 1, 3) := by decide +kernel
theorem dX0_countNotDark_30 : decode cX0_countNotDark 30 = .ok (.goto (-26), 3) := by decide +kernel
theorem dX0_countNotDark_33 : decode cX0_countNotDark 33 = .ok (.iload_n 1, 1) := by decide +kernel
theorem dX0_countNotDark_34 : decode cX0_countNotDark 34 = .ok (.ireturn, 1) := by decide +kernel
theorem dX1_init_0 : decode cX1_init 0 = .ok (.aload_n 0, 1) := by decide +kernel
theorem dX1_init_1 : decode cX1_init 1 = .ok (.invokespecial 3, 3) := by decide +kernel
theorem dX1_init_4 : decode cX1_init 4 = .ok (.aload_n 0, 1) := by decide +kernel
theorem dX1_init_5 : decode cX1_init 5 = .ok (.bipush 40, 2) := by decide +kernel
theorem dX1_init_7 : decode cX1_init 7 = .ok (.newarray .long, 2) := by decide +kernel
theorem dX1_init_9 : decode cX1_init 9 = .ok (.putfield 9, 3) := by decide +kernel
theorem dX1_init_12 : decode cX1_init 12 = .ok (.return_, 1) := by decide +kernel
set_option maxRecDepth 20000 in
theorem ggX1_read_X1_take : GoodIn wsX1_read wsX1_take := goodIn_r _ [9, 2, 10, 11, 12, 13, 14, 8, 15, 3, 16, 17, 18, 19, 20, 21, 22, 23, 4, 1, 24, 25, 26, 27, 28, 29, 30, 31, 32, 33, 34, 35, 36, 37, 38, 39, 40, 41, 42] (by decide +kernel) (by decide +kernel)
set_option maxRecDepth 20000 in
theorem gX1_read_X1_take : GoodIn wsX1_read (wsV RX1 25 RX1 yX1_take wsX1_take) := goodIn_app (goodIn_of _ (by decide +kernel)) ggX1_read_X1_take
theorem dX1_read_0 : decode cX1_read 0 = .ok (.aload_n 0, 1) := by decide +kernel
theorem dX1_read_1 : decode cX1_read 1 = .ok (.iconst 1, 1) := by decide +kernel
theorem dX1_read_2 : decode cX1_read 2 = .ok (.putfield 15, 3) := by decide +kernel
theorem dX1_read_5 : decode cX1_read 5 = .ok (.aload_n 0, 1) := by decide +kernel
theorem dX1_read_6 : decode cX1_read 6 = .ok (.iconst 0, 1) := by decide +kernel
theorem dX1_read_7 : decode cX1_read 7 = .ok (.putfield 19, 3) := by decide +kernel
theorem dX1_read_10 : decode cX1_read 10 = .ok (.aload_n 0, 1) := by decide +kernel
theorem dX1_read_11 : decode cX1_read 11 = .ok (.iconst 0, 1) := by decide +kernel
theorem dX1_read_12 : decode cX1_read 12 = .ok (.putfield 22, 3) := by decide +kernel
theorem dX1_read_15 : decode cX1_read 15 = .ok (.iconst 0, 1) := by decide +kernel
theorem dX1_read_16 : decode cX1_read 16 = .ok (.istore_n 3, 1) := by decide +kernel
theorem dX1_read_17 : decode cX1_read 17 = .ok (.iload_n 3, 1) := by decide +kernel
theorem dX1_read_18 : decode cX1_read 18 = .ok (.bipush 40, 2) := by decide +kernel
theorem dX1_read_20 : decode cX1_read 20 = .ok (.if_icmp .ge 16, 3) := by decide +kernel
theorem dX1_read_23 : decode cX1_read 23 = .ok (.aload_n 0, 1) := by decide +kernel
theorem dX1_read_24 : decode cX1_read 24 = .ok (.getfield 9, 3) := by decide +kernel
theorem dX1_read_27 : decode cX1_read 27 = .ok (.iload_n 3, 1) := by decide +kernel
theorem dX1_read_28 : decode cX1_read 28 = .ok (.lconst 0, 1) := by decide +kernel
theorem dX1_read_29 : decode cX1_read 29 = .ok (.lastore, 1) := by decide +kernel
theorem dX1_read_30 : decode cX1_read 30 = .ok (.iinc 3 1, 3) := by decide +kernel
theorem dX1_read_33 : decode cX1_read 33 = .ok (.goto (-16), 3) := by decide +kernel
theorem dX1_read_36 : decode cX1_read 36 = .ok (.iconst 0, 1) := by decide +kernel
theorem dX1_read_37 : decode cX1_read 37 = .ok (.istore_n 3, 1) := by decide +kernel
theorem dX1_read_38 : decode cX1_read 38 = .ok (.iload_n 3, 1) := by decide +kernel
theorem dX1_read_39 : decode cX1_read 39 = .ok (.iload_n 2, 1) := by decide +kernel
theorem dX1_read_40 : decode cX1_read 40 = .ok (.if_icmp .ge 33, 3) := by decide +kernel
theorem dX1_read_43 : decode cX1_read 43 = .ok (.iload_n 3, 1) := by decide +kernel
theorem dX1_read_44 : decode cX1_read 44 = .ok (.aload_n 1, 1) := by decide +kernel
theorem dX1_read_45 : decode cX1_read 45 = .ok (.arraylength, 1) := by decide +kernel
theorem dX1_read_46 : decode cX1_read 46 = .ok (.if_icmp .ge 27, 3) := by decide +kernel
theorem dX1_read_49 : decode cX1_read 49 = .ok (.aload_n 0, 1) := by decide +kernel
theorem dX1_read_50 : decode cX1_read 50 = .ok (.aload_n 1, 1) := by decide +kernel
theorem dX1_read_51 : decode cX1_read 51 = .ok (.iload_n 3, 1) := by decide +kernel
theorem dX1_read_52 : decode cX1_read 52 = .ok (.caload, 1) := by decide +kernel
theorem dX1_read_53 : decode cX1_read 53 = .ok (.iload_n 3, 1) := by decide +kernel
theorem dX1_read_54 : decode cX1_read 54 = .ok (.invokevirtual 25, 3) := by decide +kernel
theorem dX1_read_57 : decode cX1_read 57 = .ok (.istore 4, 2) := by decide +kernel
theorem dX1_read_59 : decode cX1_read 59 = .ok (.iload 4, 2) := by decide +kernel
theorem dX1_read_61 : decode cX1_read 61 = .ok (.ifCond .lt 6, 3) := by decide +kernel
theorem dX1_read_64 : decode cX1_read 64 = .ok (.iload 4, 2) := by decide +kernel
theorem dX1_read_66 : decode cX1_read 66 = .ok (.ireturn, 1) := by decide +kernel
theorem dX1_read_67 : decode cX1_read 67 = .ok (.iinc 3 1, 3) := by decide +kernel
theorem dX1_read_70 : decode cX1_read 70 = .ok (.goto (-32), 3) := by decide +kernel
theorem dX1_read_73 : decode cX1_read 73 = .ok (.aload_n 0, 1) := by decide +kernel
theorem dX1_read_74 : decode cX1_read 74 = .ok (.getfield 19, 3) := by decide +kernel
theorem dX1_read_77 : decode cX1_read 77 = .ok (.ifCond .ne 7, 3) := by decide +kernel
theorem dX1_read_80 : decode cX1_read 80 = .ok (.iconst (-1), 1) := by decide +kernel
theorem dX1_read_81 : decode cX1_read 81 = .ok (.goto 4, 3) := by decide +kernel
theorem dX1_read_84 : decode cX1_read 84 = .ok (.iload_n 2, 1) := by decide +kernel
theorem dX1_read_85 : decode cX1_read 85 = .ok (.ireturn, 1) := by decide +kernel
set_option maxRecDepth 20000 in
theorem ggX1_take_X1_takeDigit : GoodIn wsX1_take wsX1_takeDigit := goodIn_r _ [8, 3, 9, 2, 1, 33, 34, 35, 36, 37, 38] (by decide +kernel) (by decide +kernel)
set_option maxRecDepth 20000 in
theorem gX1_take_X1_takeDigit : GoodIn wsX1_take (wsV RX1 35 RX1 yX1_takeDigit wsX1_takeDigit) := goodIn_app (goodIn_of _ (by decide +kernel)) ggX1_take_X1_takeDigit
set_option maxRecDepth 20000 in
theorem ggX1_take_X1_takeBracket : GoodIn wsX1_take wsX1_takeBracket := goodIn_r _ [13, 1, 33, 34, 35, 36, 37, 38] (by decide +kernel) (by decide +kernel)
set_option maxRecDepth 20000 in
theorem gX1_take_X1_takeBracket : GoodIn wsX1_take (wsV RX1 38 RX1 yX1_takeBracket wsX1_takeBracket) := goodIn_app (goodIn_of _ (by decide +kernel)) ggX1_take_X1_takeBracket
set_option maxRecDepth 20000 in
theorem ggX1_take_X1_takeColor : GoodIn wsX1_take wsX1_takeColor := goodIn_r _ [17, 9, 18, 19, 1, 20, 21, 22, 23, 24, 33, 34, 35, 36, 37, 38] (by decide +kernel) (by decide +kernel)
set_option maxRecDepth 20000 in
theorem gX1_take_X1_takeColor : GoodIn wsX1_take (wsV RX1 41 RX1 yX1_takeColor wsX1_takeColor) := goodIn_app (goodIn_of _ (by decide +kernel)) ggX1_take_X1_takeColor
set_option maxRecDepth 20000 in
theorem ggX1_take_X1_takePart : GoodIn wsX1_take wsX1_takePart := goodIn_r _ [28, 1, 29, 30, 31, 7, 32, 19, 9, 14, 15, 16, 17, 18, 20, 21, 22, 23, 24, 33, 34, 35, 36, 37, 38] (by decide +kernel) (by decide +kernel)
set_option maxRecDepth 20000 in
theorem gX1_take_X1_takePart : GoodIn wsX1_take (wsV RX1 45 RX1 yX1_takePart wsX1_takePart) := goodIn_app (goodIn_of _ (by decide +kernel)) ggX1_take_X1_takePart
theorem dX1_take_0 : decode cX1_take 0 = .ok (.iload_n 1, 1) := by decide +kernel
theorem dX1_take_1 : decode cX1_take 1 = .ok (.bipush 32, 2) := by decide +kernel
theorem dX1_take_3 : decode cX1_take 3 = .ok (.if_icmp .ne 18, 3) := by decide +kernel
theorem dX1_take_6 : decode cX1_take 6 = .ok (.aload_n 0, 1) := by decide +kernel
theorem dX1_take_7 : decode cX1_take 7 = .ok (.getfield 19, 3) := by decide +kernel
theorem dX1_take_10 : decode cX1_take 10 = .ok (.iconst 2, 1) := by decide +kernel
theorem dX1_take_11 : decode cX1_take 11 = .ok (.if_icmp .ne 8, 3) := by decide +kernel
theorem dX1_take_14 : decode cX1_take 14 = .ok (.aload_n 0, 1) := by decide +kernel
theorem dX1_take_15 : decode cX1_take 15 = .ok (.iconst 3, 1) := by decide +kernel
theorem dX1_take_16 : decode cX1_take 16 = .ok (.putfield 19, 3) := by decide +kernel
theorem dX1_take_19 : decode cX1_take 19 = .ok (.iconst (-1), 1) := by decide +kernel
theorem dX1_take_20 : decode cX1_take 20 = .ok (.ireturn, 1) := by decide +kernel
theorem dX1_take_21 : decode cX1_take 21 = .ok (.aload_n 0, 1) := by decide +kernel
theorem dX1_take_22 : decode cX1_take 22 = .ok (.getfield 19, 3) := by decide +kernel
theorem dX1_take_25 : decode cX1_take 25 = .ok (.tableswitch 88 1 4 #[31, 48, 70, 77], 31) := by decide +kernel
theorem dX1_take_56 : decode cX1_take 56 = .ok (.aload_n 0, 1) := by decide +kernel
theorem dX1_take_57 : decode cX1_take 57 = .ok (.iload_n 2, 1) := by decide +kernel
theorem dX1_take_58 : decode cX1_take 58 = .ok (.putfield 29, 3) := by decide +kernel
theorem dX1_take_61 : decode cX1_take 61 = .ok (.aload_n 0, 1) := by decide +kernel
theorem dX1_take_62 : decode cX1_take 62 = .ok (.iconst 0, 1) := by decide +kernel
theorem dX1_take_63 : decode cX1_take 63 = .ok (.putfield 32, 3) := by decide +kernel
theorem dX1_take_66 : decode cX1_take 66 = .ok (.aload_n 0, 1) := by decide +kernel
theorem dX1_take_67 : decode cX1_take 67 = .ok (.iload_n 1, 1) := by decide +kernel
theorem dX1_take_68 : decode cX1_take 68 = .ok (.iload_n 2, 1) := by decide +kernel
theorem dX1_take_69 : decode cX1_take 69 = .ok (.invokevirtual 35, 3) := by decide +kernel
theorem dX1_take_72 : decode cX1_take 72 = .ok (.ireturn, 1) := by decide +kernel
theorem dX1_take_73 : decode cX1_take 73 = .ok (.iload_n 1, 1) := by decide +kernel
theorem dX1_take_74 : decode cX1_take 74 = .ok (.bipush 41, 2) := by decide +kernel
theorem dX1_take_76 : decode cX1_take 76 = .ok (.if_icmp .ne 12, 3) := by decide +kernel
theorem dX1_take_79 : decode cX1_take 79 = .ok (.aload_n 0, 1) := by decide +kernel
theorem dX1_take_80 : decode cX1_take 80 = .ok (.iload_n 1, 1) := by decide +kernel
theorem dX1_take_81 : decode cX1_take 81 = .ok (.iload_n 2, 1) := by decide +kernel
theorem dX1_take_82 : decode cX1_take 82 = .ok (.invokevirtual 38, 3) := by decide +kernel
theorem dX1_take_85 : decode cX1_take 85 = .ok (.goto 9, 3) := by decide +kernel
theorem dX1_take_88 : decode cX1_take 88 = .ok (.aload_n 0, 1) := by decide +kernel
theorem dX1_take_89 : decode cX1_take 89 = .ok (.iload_n 1, 1) := by decide +kernel
theorem dX1_take_90 : decode cX1_take 90 = .ok (.iload_n 2, 1) := by decide +kernel
theorem dX1_take_91 : decode cX1_take 91 = .ok (.invokevirtual 35, 3) := by decide +kernel
theorem dX1_take_94 : decode cX1_take 94 = .ok (.ireturn, 1) := by decide +kernel
theorem dX1_take_95 : decode cX1_take 95 = .ok (.aload_n 0, 1) := by decide +kernel
theorem dX1_take_96 : decode cX1_take 96 = .ok (.iload_n 1, 1) := by decide +kernel
theorem dX1_take_97 : decode cX1_take 97 = .ok (.iload_n 2, 1) := by decide +kernel
theorem dX1_take_98 : decode cX1_take 98 = .ok (.invokevirtual 38, 3) := by decide +kernel
theorem dX1_take_101 : decode cX1_take 101 = .ok (.ireturn, 1) := by decide +kernel
theorem dX1_take_102 : decode cX1_take 102 = .ok (.aload_n 0, 1) := by decide +kernel
theorem dX1_take_103 : decode cX1_take 103 = .ok (.iload_n 1, 1) := by decide +kernel
theorem dX1_take_104 : decode cX1_take 104 = .ok (.iload_n 2, 1) := by decide +kernel
theorem dX1_take_105 : decode cX1_take 105 = .ok (.aload_n 0, 1) := by decide +kernel
theorem dX1_take_106 : decode cX1_take 106 = .ok (.getfield 32, 3) := by decide +kernel
theorem dX1_take_109 : decode cX1_take 109 = .ok (.invokevirtual 41, 3) := by decide +kernel
theorem dX1_take_112 : decode cX1_take 112 = .ok (.ireturn, 1) := by decide +kernel
theorem dX1_take_113 : decode cX1_take 113 = .ok (.aload_n 0, 1) := by decide +kernel
theorem dX1_take_114 : decode cX1_take 114 = .ok (.iload_n 1, 1) := by decide +kernel
theorem dX1_take_115 : decode cX1_take 115 = .ok (.iload_n 2, 1) := by decide +kernel
theorem dX1_take_116 : decode cX1_take 116 = .ok (.invokevirtual 45, 3) := by decide +kernel
theorem dX1_take_119 : decode cX1_take 119 = .ok (.ireturn, 1) := by decide +kernel
set_option maxRecDepth 20000 in
theorem ggX1_takePart_X1_takeSemicolon : GoodIn wsX1_takePart wsX1_takeSemicolon := goodIn_r _ [6, 7, 8, 19, 20, 21, 22, 23, 24] (by decide +kernel) (by decide +kernel)
set_option maxRecDepth 20000 in
theorem gX1_takePart_X1_takeSemicolon : GoodIn wsX1_takePart (wsV RX1 48 RX1 yX1_takeSemicolon wsX1_takeSemicolon) := goodIn_app (goodIn_of _ (by decide +kernel)) ggX1_takePart_X1_takeSemicolon
set_option maxRecDepth 20000 in
theorem ggX1_takePart_X1_takeColor : GoodIn wsX1_takePart wsX1_takeColor := goodIn_r _ [12, 8, 13, 7, 1, 14, 15, 16, 17, 18, 19, 20, 21, 22, 23, 24] (by decide +kernel) (by decide +kernel)
set_option maxRecDepth 20000 in
theorem gX1_takePart_X1_takeColor : GoodIn wsX1_takePart (wsV RX1 41 RX1 yX1_takeColor wsX1_takeColor) := goodIn_app (goodIn_of _ (by decide +kernel)) ggX1_takePart_X1_takeColor
theorem dX1_takePart_0 : decode cX1_takePart 0 = .ok (.iload_n 1, 1) := by decide +kernel
theorem dX1_takePart_1 : decode cX1_takePart 1 = .ok (.bipush 59, 2) := by decide +kernel
theorem dX1_takePart_3 : decode cX1_takePart 3 = .ok (.if_icmp .ne 9, 3) := by decide +kernel
theorem dX1_takePart_6 : decode cX1_takePart 6 = .ok (.aload_n 0, 1) := by decide +kernel
theorem dX1_takePart_7 : decode cX1_takePart 7 = .ok (.iload_n 2, 1) := by decide +kernel
theorem dX1_takePart_8 : decode cX1_takePart 8 = .ok (.invokevirtual 48, 3) := by decide +kernel
theorem dX1_takePart_11 : decode cX1_takePart 11 = .ok (.ireturn, 1) := by decide +kernel
theorem dX1_takePart_12 : decode cX1_takePart 12 = .ok (.iload_n 1, 1) := by decide +kernel
theorem dX1_takePart_13 : decode cX1_takePart 13 = .ok (.bipush 40, 2) := by decide +kernel
theorem dX1_takePart_15 : decode cX1_takePart 15 = .ok (.if_icmp .ne 10, 3) := by decide +kernel
theorem dX1_takePart_18 : decode cX1_takePart 18 = .ok (.aload_n 0, 1) := by decide +kernel
theorem dX1_takePart_19 : decode cX1_takePart 19 = .ok (.iconst 1, 1) := by decide +kernel
theorem dX1_takePart_20 : decode cX1_takePart 20 = .ok (.putfield 19, 3) := by decide +kernel
theorem dX1_takePart_23 : decode cX1_takePart 23 = .ok (.iconst (-1), 1) := by decide +kernel
theorem dX1_takePart_24 : decode cX1_takePart 24 = .ok (.ireturn, 1) := by decide +kernel
theorem dX1_takePart_25 : decode cX1_takePart 25 = .ok (.aload_n 0, 1) := by decide +kernel
theorem dX1_takePart_26 : decode cX1_takePart 26 = .ok (.iload_n 1, 1) := by decide +kernel
theorem dX1_takePart_27 : decode cX1_takePart 27 = .ok (.iload_n 2, 1) := by decide +kernel
theorem dX1_takePart_28 : decode cX1_takePart 28 = .ok (.iconst 1, 1) := by decide +kernel
theorem dX1_takePart_29 : decode cX1_takePart 29 = .ok (.invokevirtual 41, 3) := by decide +kernel
theorem dX1_takePart_32 : decode cX1_takePart 32 = .ok (.ireturn, 1) := by decide +kernel
theorem dX1_takeSemicolon_0 : decode cX1_takeSemicolon 0 = .ok (.aload_n 0, 1) := by decide +kernel
theorem dX1_takeSemicolon_1 : decode cX1_takeSemicolon 1 = .ok (.getfield 15, 3) := by decide +kernel
theorem dX1_takeSemicolon_4 : decode cX1_takeSemicolon 4 = .ok (.bipush 40, 2) := by decide +kernel
theorem dX1_takeSemicolon_6 : decode cX1_takeSemicolon 6 = .ok (.if_icmp .lt 5, 3) := by decide +kernel
theorem dX1_takeSemicolon_9 : decode cX1_takeSemicolon 9 = .ok (.iload_n 1, 1) := by decide +kernel
theorem dX1_takeSemicolon_10 : decode cX1_takeSemicolon 10 = .ok (.ireturn, 1) := by decide +kernel
theorem dX1_takeSemicolon_11 : decode cX1_takeSemicolon 11 = .ok (.aload_n 0, 1) := by decide +kernel
theorem dX1_takeSemicolon_12 : decode cX1_takeSemicolon 12 = .ok (.dup, 1) := by decide +kernel
theorem dX1_takeSemicolon_13 : decode cX1_takeSemicolon 13 = .ok (.getfield 15, 3) := by decide +kernel
theorem dX1_takeSemicolon_16 : decode cX1_takeSemicolon 16 = .ok (.iconst 1, 1) := by decide +kernel
theorem dX1_takeSemicolon_17 : decode cX1_takeSemicolon 17 = .ok (.iadd, 1) := by decide +kernel
theorem dX1_takeSemicolon_18 : decode cX1_takeSemicolon 18 = .ok (.putfield 15, 3) := by decide +kernel
theorem dX1_takeSemicolon_21 : decode cX1_takeSemicolon 21 = .ok (.aload_n 0, 1) := by decide +kernel
theorem dX1_takeSemicolon_22 : decode cX1_takeSemicolon 22 = .ok (.iconst 0, 1) := by decide +kernel
theorem dX1_takeSemicolon_23 : decode cX1_takeSemicolon 23 = .ok (.putfield 22, 3) := by decide +kernel
theorem dX1_takeSemicolon_26 : decode cX1_takeSemicolon 26 = .ok (.iconst (-1), 1) := by decide +kernel
theorem dX1_takeSemicolon_27 : decode cX1_takeSemicolon 27 = .ok (.ireturn, 1) := by decide +kernel
theorem dX1_takeDigit_0 : decode cX1_takeDigit 0 = .ok (.iload_n 1, 1) := by decide +kernel
theorem dX1_takeDigit_1 : decode cX1_takeDigit 1 = .ok (.bipush 48, 2) := by decide +kernel
theorem dX1_takeDigit_3 : decode cX1_takeDigit 3 = .ok (.if_icmp .lt 9, 3) := by decide +kernel
theorem dX1_takeDigit_6 : decode cX1_takeDigit 6 = .ok (.iload_n 1, 1) := by decide +kernel
theorem dX1_takeDigit_7 : decode cX1_takeDigit 7 = .ok (.bipush 57, 2) := by decide +kernel
theorem dX1_takeDigit_9 : decode cX1_takeDigit 9 = .ok (.if_icmp .le 5, 3) := by decide +kernel
theorem dX1_takeDigit_12 : decode cX1_takeDigit 12 = .ok (.iload_n 2, 1) := by decide +kernel
theorem dX1_takeDigit_13 : decode cX1_takeDigit 13 = .ok (.ireturn, 1) := by decide +kernel
theorem dX1_takeDigit_14 : decode cX1_takeDigit 14 = .ok (.aload_n 0, 1) := by decide +kernel
theorem dX1_takeDigit_15 : decode cX1_takeDigit 15 = .ok (.aload_n 0, 1) := by decide +kernel
theorem dX1_takeDigit_16 : decode cX1_takeDigit 16 = .ok (.getfield 32, 3) := by decide +kernel
theorem dX1_takeDigit_19 : decode cX1_takeDigit 19 = .ok (.bipush 10, 2) := by decide +kernel
theorem dX1_takeDigit_21 : decode cX1_takeDigit 21 = .ok (.imul, 1) := by decide +kernel
theorem dX1_takeDigit_22 : decode cX1_takeDigit 22 = .ok (.iload_n 1, 1) := by decide +kernel
theorem dX1_takeDigit_23 : decode cX1_takeDigit 23 = .ok (.bipush 48, 2) := by decide +kernel
theorem dX1_takeDigit_25 : decode cX1_takeDigit 25 = .ok (.isub, 1) := by decide +kernel
theorem dX1_takeDigit_26 : decode cX1_takeDigit 26 = .ok (.iadd, 1) := by decide +kernel
theorem dX1_takeDigit_27 : decode cX1_takeDigit 27 = .ok (.putfield 32, 3) := by decide +kernel
theorem dX1_takeDigit_30 : decode cX1_takeDigit 30 = .ok (.aload_n 0, 1) := by decide +kernel
theorem dX1_takeDigit_31 : decode cX1_takeDigit 31 = .ok (.getfield 32, 3) := by decide +kernel
theorem dX1_takeDigit_34 : decode cX1_takeDigit 34 = .ok (.iconst 1, 1) := by decide +kernel
theorem dX1_takeDigit_35 : decode cX1_takeDigit 35 = .ok (.if_icmp .lt 17, 3) := by decide +kernel
theorem dX1_takeDigit_38 : decode cX1_takeDigit 38 = .ok (.aload_n 0, 1) := by decide +kernel
theorem dX1_takeDigit_39 : decode cX1_takeDigit 39 = .ok (.getfield 22, 3) := by decide +kernel
theorem dX1_takeDigit_42 : decode cX1_takeDigit 42 = .ok (.aload_n 0, 1) := by decide +kernel
theorem dX1_takeDigit_43 : decode cX1_takeDigit 43 = .ok (.getfield 32, 3) := by decide +kernel
theorem dX1_takeDigit_46 : decode cX1_takeDigit 46 = .ok (.iadd, 1) := by decide +kernel
theorem dX1_takeDigit_47 : decode cX1_takeDigit 47 = .ok (.bipush 12, 2) := by decide +kernel
theorem dX1_takeDigit_49 : decode cX1_takeDigit 49 = .ok (.if_icmp .le 8, 3) := by decide +kernel
theorem dX1_takeDigit_52 : decode cX1_takeDigit 52 = .ok (.aload_n 0, 1) := by decide +kernel
theorem dX1_takeDigit_53 : decode cX1_takeDigit 53 = .ok (.getfield 29, 3) := by decide +kernel
theorem dX1_takeDigit_56 : decode cX1_takeDigit 56 = .ok (.ireturn, 1) := by decide +kernel
theorem dX1_takeDigit_57 : decode cX1_takeDigit 57 = .ok (.aload_n 0, 1) := by decide +kernel
theorem dX1_takeDigit_58 : decode cX1_takeDigit 58 = .ok (.iconst 2, 1) := by decide +kernel
theorem dX1_takeDigit_59 : decode cX1_takeDigit 59 = .ok (.putfield 19, 3) := by decide +kernel
theorem dX1_takeDigit_62 : decode cX1_takeDigit 62 = .ok (.iconst (-1), 1) := by decide +kernel
theorem dX1_takeDigit_63 : decode cX1_takeDigit 63 = .ok (.ireturn, 1) := by decide +kernel
theorem dX1_takeBracket_0 : decode cX1_takeBracket 0 = .ok (.iload_n 1, 1) := by decide +kernel
theorem dX1_takeBracket_1 : decode cX1_takeBracket 1 = .ok (.bipush 41, 2) := by decide +kernel
theorem dX1_takeBracket_3 : decode cX1_takeBracket 3 = .ok (.if_icmp .eq 5, 3) := by decide +kernel
theorem dX1_takeBracket_6 : decode cX1_takeBracket 6 = .ok (.iload_n 2, 1) := by decide +kernel
theorem dX1_takeBracket_7 : decode cX1_takeBracket 7 = .ok (.ireturn, 1) := by decide +kernel
theorem dX1_takeBracket_8 : decode cX1_takeBracket 8 = .ok (.aload_n 0, 1) := by decide +kernel
theorem dX1_takeBracket_9 : decode cX1_takeBracket 9 = .ok (.iconst 4, 1) := by decide +kernel
theorem dX1_takeBracket_10 : decode cX1_takeBracket 10 = .ok (.putfield 19, 3) := by decide +kernel
theorem dX1_takeBracket_13 : decode cX1_takeBracket 13 = .ok (.iconst (-1), 1) := by decide +kernel
theorem dX1_takeBracket_14 : decode cX1_takeBracket 14 = .ok (.ireturn, 1) := by decide +kernel
set_option maxRecDepth 20000 in
theorem ggX1_takeColor_X4_withColor : GoodIn wsX1_takeColor wsX4_withColor := goodIn_r _ [7, 8, 9] (by decide +kernel) (by decide +kernel)
set_option maxRecDepth 20000 in
theorem gX1_takeColor_X4_withColor_n52 : GoodIn wsX1_takeColor (wsX4_withColor) := ggX1_takeColor_X4_withColor
theorem dX1_takeColor_0 : decode cX1_takeColor 0 = .ok (.iload_n 1, 1) := by decide +kernel
theorem dX1_takeColor_1 : decode cX1_takeColor 1 = .ok (.bipush 48, 2) := by decide +kernel
theorem dX1_takeColor_3 : decode cX1_takeColor 3 = .ok (.if_icmp .lt 20, 3) := by decide +kernel
theorem dX1_takeColor_6 : decode cX1_takeColor 6 = .ok (.iload_n 1, 1) := by decide +kernel
theorem dX1_takeColor_7 : decode cX1_takeColor 7 = .ok (.bipush 55, 2) := by decide +kernel
theorem dX1_takeColor_9 : decode cX1_takeColor 9 = .ok (.if_icmp .gt 14, 3) := by decide +kernel
theorem dX1_takeColor_12 : decode cX1_takeColor 12 = .ok (.aload_n 0, 1) := by decide +kernel
theorem dX1_takeColor_13 : decode cX1_takeColor 13 = .ok (.getfield 22, 3) := by decide +kernel
theorem dX1_takeColor_16 : decode cX1_takeColor 16 = .ok (.iload_n 3, 1) := by decide +kernel
theorem dX1_takeColor_17 : decode cX1_takeColor 17 = .ok (.iadd, 1) := by decide +kernel
theorem dX1_takeColor_18 : decode cX1_takeColor 18 = .ok (.bipush 12, 2) := by decide +kernel
theorem dX1_takeColor_20 : decode cX1_takeColor 20 = .ok (.if_icmp .le 5, 3) := by decide +kernel
theorem dX1_takeColor_23 : decode cX1_takeColor 23 = .ok (.iload_n 2, 1) := by decide +kernel
theorem dX1_takeColor_24 : decode cX1_takeColor 24 = .ok (.ireturn, 1) := by decide +kernel
theorem dX1_takeColor_25 : decode cX1_takeColor 25 = .ok (.iload_n 1, 1) := by decide +kernel
theorem dX1_takeColor_26 : decode cX1_takeColor 26 = .ok (.bipush 48, 2) := by decide +kernel
theorem dX1_takeColor_28 : decode cX1_takeColor 28 = .ok (.isub, 1) := by decide +kernel
theorem dX1_takeColor_29 : decode cX1_takeColor 29 = .ok (.istore 4, 2) := by decide +kernel
theorem dX1_takeColor_31 : decode cX1_takeColor 31 = .ok (.iconst 0, 1) := by decide +kernel
theorem dX1_takeColor_32 : decode cX1_takeColor 32 = .ok (.istore 5, 2) := by decide +kernel
theorem dX1_takeColor_34 : decode cX1_takeColor 34 = .ok (.iload 5, 2) := by decide +kernel
theorem dX1_takeColor_36 : decode cX1_takeColor 36 = .ok (.iload_n 3, 1) := by decide +kernel
theorem dX1_takeColor_37 : decode cX1_takeColor 37 = .ok (.if_icmp .ge 50, 3) := by decide +kernel
theorem dX1_takeColor_40 : decode cX1_takeColor 40 = .ok (.aload_n 0, 1) := by decide +kernel
theorem dX1_takeColor_41 : decode cX1_takeColor 41 = .ok (.getfield 9, 3) := by decide +kernel
theorem dX1_takeColor_44 : decode cX1_takeColor 44 = .ok (.aload_n 0, 1) := by decide +kernel
theorem dX1_takeColor_45 : decode cX1_takeColor 45 = .ok (.getfield 15, 3) := by decide +kernel
theorem dX1_takeColor_48 : decode cX1_takeColor 48 = .ok (.iconst 1, 1) := by decide +kernel
theorem dX1_takeColor_49 : decode cX1_takeColor 49 = .ok (.isub, 1) := by decide +kernel
theorem dX1_takeColor_50 : decode cX1_takeColor 50 = .ok (.aload_n 0, 1) := by decide +kernel
theorem dX1_takeColor_51 : decode cX1_takeColor 51 = .ok (.getfield 9, 3) := by decide +kernel
theorem dX1_takeColor_54 : decode cX1_takeColor 54 = .ok (.aload_n 0, 1) := by decide +kernel
theorem dX1_takeColor_55 : decode cX1_takeColor 55 = .ok (.getfield 15, 3) := by decide +kernel
theorem dX1_takeColor_58 : decode cX1_takeColor 58 = .ok (.iconst 1, 1) := by decide +kernel
theorem dX1_takeColor_59 : decode cX1_takeColor 59 = .ok (.isub, 1) := by decide +kernel
theorem dX1_takeColor_60 : decode cX1_takeColor 60 = .ok (.laload, 1) := by decide +kernel
theorem dX1_takeColor_61 : decode cX1_takeColor 61 = .ok (.aload_n 0, 1) := by decide +kernel
theorem dX1_takeColor_62 : decode cX1_takeColor 62 = .ok (.getfield 22, 3) := by decide +kernel
theorem dX1_takeColor_65 : decode cX1_takeColor 65 = .ok (.iload 4, 2) := by decide +kernel
theorem dX1_takeColor_67 : decode cX1_takeColor 67 = .ok (.invokestatic 52, 3) := by decide +kernel
theorem dX1_takeColor_70 : decode cX1_takeColor 70 = .ok (.lastore, 1) := by decide +kernel
theorem dX1_takeColor_71 : decode cX1_takeColor 71 = .ok (.aload_n 0, 1) := by decide +kernel
theorem dX1_takeColor_72 : decode cX1_takeColor 72 = .ok (.dup, 1) := by decide +kernel
theorem dX1_takeColor_73 : decode cX1_takeColor 73 = .ok (.getfield 22, 3) := by decide +kernel
theorem dX1_takeColor_76 : decode cX1_takeColor 76 = .ok (.iconst 1, 1) := by decide +kernel
theorem dX1_takeColor_77 : decode cX1_takeColor 77 = .ok (.iadd, 1) := by decide +kernel
theorem dX1_takeColor_78 : decode cX1_takeColor 78 = .ok (.putfield 22, 3) := by decide +kernel
theorem dX1_takeColor_81 : decode cX1_takeColor 81 = .ok (.iinc 5 1, 3) := by decide +kernel
theorem dX1_takeColor_84 : decode cX1_takeColor 84 = .ok (.goto (-50), 3) := by decide +kernel
theorem dX1_takeColor_87 : decode cX1_takeColor 87 = .ok (.aload_n 0, 1) := by decide +kernel
theorem dX1_takeColor_88 : decode cX1_takeColor 88 = .ok (.iconst 0, 1) := by decide +kernel
theorem dX1_takeColor_89 : decode cX1_takeColor 89 = .ok (.putfield 19, 3) := by decide +kernel
theorem dX1_takeColor_92 : decode cX1_takeColor 92 = .ok (.iconst (-1), 1) := by decide +kernel
theorem dX1_takeColor_93 : decode cX1_takeColor 93 = .ok (.ireturn, 1) := by decide +kernel
set_option maxRecDepth 20000 in
theorem ggX2_init_X0_init : GoodIn wsX2_init wsX0_init := goodIn_r _ [22, 23, 2, 3, 24, 25, 26, 27, 14, 28, 40, 41, 42, 43, 44] (by decide +kernel) (by decide +kernel)
set_option maxRecDepth 20000 in
theorem gX2_init_X0_init_n52 : GoodIn wsX2_init (wsX0_init) := ggX2_init_X0_init
theorem dX2_init_0 : decode cX2_init 0 = .ok (.aload_n 0, 1) := by decide +kernel
theorem dX2_init_1 : decode cX2_init 1 = .ok (.invokespecial 3, 3) := by decide +kernel
theorem dX2_init_4 : decode cX2_init 4 = .ok (.aload_n 0, 1) := by decide +kernel
theorem dX2_init_5 : decode cX2_init 5 = .ok (.iconst 0, 1) := by decide +kernel
theorem dX2_init_6 : decode cX2_init 6 = .ok (.putfield 9, 3) := by decide +kernel
theorem dX2_init_9 : decode cX2_init 9 = .ok (.aload_n 0, 1) := by decide +kernel
theorem dX2_init_10 : decode cX2_init 10 = .ok (.iconst 4, 1) := by decide +kernel
theorem dX2_init_11 : decode cX2_init 11 = .ok (.anewarray 15, 3) := by decide +kernel
theorem dX2_init_14 : decode cX2_init 14 = .ok (.putfield 17, 3) := by decide +kernel
theorem dX2_init_17 : decode cX2_init 17 = .ok (.aload_n 0, 1) := by decide +kernel
theorem dX2_init_18 : decode cX2_init 18 = .ok (.iconst 0, 1) := by decide +kernel
theorem dX2_init_19 : decode cX2_init 19 = .ok (.putfield 21, 3) := by decide +kernel
theorem dX2_init_22 : decode cX2_init 22 = .ok (.aload_n 0, 1) := by decide +kernel
theorem dX2_init_23 : decode cX2_init 23 = .ok (.bipush 10, 2) := by decide +kernel
theorem dX2_init_25 : decode cX2_init 25 = .ok (.putfield 24, 3) := by decide +kernel
theorem dX2_init_28 : decode cX2_init 28 = .ok (.aload_n 0, 1) := by decide +kernel
theorem dX2_init_29 : decode cX2_init 29 = .ok (.iconst 0, 1) := by decide +kernel
theorem dX2_init_30 : decode cX2_init 30 = .ok (.putfield 27, 3) := by decide +kernel
theorem dX2_init_33 : decode cX2_init 33 = .ok (.aload_n 0, 1) := by decide +kernel
theorem dX2_init_34 : decode cX2_init 34 = .ok (.iconst 0, 1) := by decide +kernel
theorem dX2_init_35 : decode cX2_init 35 = .ok (.putfield 30, 3) := by decide +kernel
theorem dX2_init_38 : decode cX2_init 38 = .ok (.aload_n 0, 1) := by decide +kernel
theorem dX2_init_39 : decode cX2_init 39 = .ok (.iconst 0, 1) := by decide +kernel
theorem dX2_init_40 : decode cX2_init 40 = .ok (.putfield 33, 3) := by decide +kernel
theorem dX2_init_43 : decode cX2_init 43 = .ok (.aload_n 0, 1) := by decide +kernel
theorem dX2_init_44 : decode cX2_init 44 = .ok (.iconst 4, 1) := by decide +kernel
theorem dX2_init_45 : decode cX2_init 45 = .ok (.newarray .int, 2) := by decide +kernel
theorem dX2_init_47 : decode cX2_init 47 = .ok (.dup, 1) := by decide +kernel
theorem dX2_init_48 : decode cX2_init 48 = .ok (.iconst 0, 1) := by decide +kernel
theorem dX2_init_49 : decode cX2_init 49 = .ok (.bipush 10, 2) := by decide +kernel
theorem dX2_init_51 : decode cX2_init 51 = .ok (.iastore, 1) := by decide +kernel
theorem dX2_init_52 : decode cX2_init 52 = .ok (.dup, 1) := by decide +kernel
theorem dX2_init_53 : decode cX2_init 53 = .ok (.iconst 1, 1) := by decide +kernel
theorem dX2_init_54 : decode cX2_init 54 = .ok (.iconst 5, 1) := by decide +kernel
theorem dX2_init_55 : decode cX2_init 55 = .ok (.iastore, 1) := by decide +kernel
theorem dX2_init_56 : decode cX2_init 56 = .ok (.dup, 1) := by decide +kernel
theorem dX2_init_57 : decode cX2_init 57 = .ok (.iconst 2, 1) := by decide +kernel
theorem dX2_init_58 : decode cX2_init 58 = .ok (.sipush 9999, 3) := by decide +kernel
theorem dX2_init_61 : decode cX2_init 61 = .ok (.iastore, 1) := by decide +kernel
theorem dX2_init_62 : decode cX2_init 62 = .ok (.dup, 1) := by decide +kernel
theorem dX2_init_63 : decode cX2_init 63 = .ok (.iconst 3, 1) := by decide +kernel
theorem dX2_init_64 : decode cX2_init 64 = .ok (.bipush 20, 2) := by decide +kernel
theorem dX2_init_66 : decode cX2_init 66 = .ok (.iastore, 1) := by decide +kernel
theorem dX2_init_67 : decode cX2_init 67 = .ok (.putfield 36, 3) := by decide +kernel
theorem dX2_init_70 : decode cX2_init 70 = .ok (.aload_n 0, 1) := by decide +kernel
theorem dX2_init_71 : decode cX2_init 71 = .ok (.iconst 2, 1) := by decide +kernel
theorem dX2_init_72 : decode cX2_init 72 = .ok (.newarray .long, 2) := by decide +kernel
theorem dX2_init_74 : decode cX2_init 74 = .ok (.dup, 1) := by decide +kernel
theorem dX2_init_75 : decode cX2_init 75 = .ok (.iconst 0, 1) := by decide +kernel
theorem dX2_init_76 : decode cX2_init 76 = .ok (.ldc2_w 40, 3) := by decide +kernel
theorem dX2_init_79 : decode cX2_init 79 = .ok (.lastore, 1) := by decide +kernel
theorem dX2_init_80 : decode cX2_init 80 = .ok (.dup, 1) := by decide +kernel
theorem dX2_init_81 : decode cX2_init 81 = .ok (.iconst 1, 1) := by decide +kernel
theorem dX2_init_82 : decode cX2_init 82 = .ok (.ldc2_w 40, 3) := by decide +kernel
theorem dX2_init_85 : decode cX2_init 85 = .ok (.lastore, 1) := by decide +kernel
theorem dX2_init_86 : decode cX2_init 86 = .ok (.putfield 42, 3) := by decide +kernel
theorem dX2_init_89 : decode cX2_init 89 = .ok (.aload_n 0, 1) := by decide +kernel
theorem dX2_init_90 : decode cX2_init 90 = .ok (.sipush 720, 3) := by decide +kernel
theorem dX2_init_93 : decode cX2_init 93 = .ok (.newarray .long, 2) := by decide +kernel
theorem dX2_init_95 : decode cX2_init 95 = .ok (.putfield 46, 3) := by decide +kernel
theorem dX2_init_98 : decode cX2_init 98 = .ok (.aload_n 0, 1) := by decide +kernel
theorem dX2_init_99 : decode cX2_init 99 = .ok (.sipush 8640, 3) := by decide +kernel
theorem dX2_init_102 : decode cX2_init 102 = .ok (.newarray .int, 2) := by decide +kernel
theorem dX2_init_104 : decode cX2_init 104 = .ok (.putfield 49, 3) := by decide +kernel
theorem dX2_init_107 : decode cX2_init 107 = .ok (.iconst 0, 1) := by decide +kernel
theorem dX2_init_108 : decode cX2_init 108 = .ok (.istore_n 1, 1) := by decide +kernel
theorem dX2_init_109 : decode cX2_init 109 = .ok (.iload_n 1, 1) := by decide +kernel
theorem dX2_init_110 : decode cX2_init 110 = .ok (.iconst 4, 1) := by decide +kernel
theorem dX2_init_111 : decode cX2_init 111 = .ok (.if_icmp .ge 22, 3) := by decide +kernel
theorem dX2_init_114 : decode cX2_init 114 = .ok (.aload_n 0, 1) := by decide +kernel
theorem dX2_init_115 : decode cX2_init 115 = .ok (.getfield 17, 3) := by decide +kernel
theorem dX2_init_118 : decode cX2_init 118 = .ok (.iload_n 1, 1) := by decide +kernel
theorem dX2_init_119 : decode cX2_init 119 = .ok (.new 15, 3) := by decide +kernel
theorem dX2_init_122 : decode cX2_init 122 = .ok (.dup, 1) := by decide +kernel
theorem dX2_init_123 : decode cX2_init 123 = .ok (.invokespecial 52, 3) := by decide +kernel
theorem dX2_init_126 : decode cX2_init 126 = .ok (.aastore, 1) := by decide +kernel
theorem dX2_init_127 : decode cX2_init 127 = .ok (.iinc 1 1, 3) := by decide +kernel
theorem dX2_init_130 : decode cX2_init 130 = .ok (.goto (-21), 3) := by decide +kernel
theorem dX2_init_133 : decode cX2_init 133 = .ok (.return_, 1) := by decide +kernel
set_option maxRecDepth 20000 in
theorem ggX2_copyFrom_X0_copyFrom : GoodIn wsX2_copyFrom wsX0_copyFrom := goodIn_r _ [20, 21, 22, 23, 24, 25, 26, 10, 11, 12, 38, 39, 40, 41, 42] (by decide +kernel) (by decide +kernel)
set_option maxRecDepth 20000 in
theorem gX2_copyFrom_X0_copyFrom : GoodIn wsX2_copyFrom (wsV RX2 53 RX0 yX0_copyFrom wsX0_copyFrom) := goodIn_app (goodIn_of _ (by decide +kernel)) ggX2_copyFrom_X0_copyFrom
theorem dX2_copyFrom_0 : decode cX2_copyFrom 0 = .ok (.aload_n 0, 1) := by decide +kernel
theorem dX2_copyFrom_1 : decode cX2_copyFrom 1 = .ok (.aload_n 1, 1) := by decide +kernel
theorem dX2_copyFrom_2 : decode cX2_copyFrom 2 = .ok (.getfield 9, 3) := by decide +kernel
theorem dX2_copyFrom_5 : decode cX2_copyFrom 5 = .ok (.putfield 9, 3) := by decide +kernel
theorem dX2_copyFrom_8 : decode cX2_copyFrom 8 = .ok (.iconst 0, 1) := by decide +kernel
theorem dX2_copyFrom_9 : decode cX2_copyFrom 9 = .ok (.istore_n 2, 1) := by decide +kernel
theorem dX2_copyFrom_10 : decode cX2_copyFrom 10 = .ok (.iload_n 2, 1) := by decide +kernel
theorem dX2_copyFrom_11 : decode cX2_copyFrom 11 = .ok (.iconst 4, 1) := by decide +kernel
theorem dX2_copyFrom_12 : decode cX2_copyFrom 12 = .ok (.if_icmp .ge 24, 3) := by decide +kernel
theorem dX2_copyFrom_15 : decode cX2_copyFrom 15 = .ok (.aload_n 0, 1) := by decide +kernel
theorem dX2_copyFrom_16 : decode cX2_copyFrom 16 = .ok (.getfield 17, 3) := by decide +kernel
theorem dX2_copyFrom_19 : decode cX2_copyFrom 19 = .ok (.iload_n 2, 1) := by decide +kernel
theorem dX2_copyFrom_20 : decode cX2_copyFrom 20 = .ok (.aaload, 1) := by decide +kernel
theorem dX2_copyFrom_21 : decode cX2_copyFrom 21 = .ok (.aload_n 1, 1) := by decide +kernel
theorem dX2_copyFrom_22 : decode cX2_copyFrom 22 = .ok (.getfield 17, 3) := by decide +kernel
theorem dX2_copyFrom_25 : decode cX2_copyFrom 25 = .ok (.iload_n 2, 1) := by decide +kernel
theorem dX2_copyFrom_26 : decode cX2_copyFrom 26 = .ok (.aaload, 1) := by decide +kernel
theorem dX2_copyFrom_27 : decode cX2_copyFrom 27 = .ok (.invokevirtual 53, 3) := by decide +kernel
theorem dX2_copyFrom_30 : decode cX2_copyFrom 30 = .ok (.iinc 2 1, 3) := by decide +kernel
theorem dX2_copyFrom_33 : decode cX2_copyFrom 33 = .ok (.goto (-23), 3) := by decide +kernel
theorem dX2_copyFrom_36 : decode cX2_copyFrom 36 = .ok (.aload_n 0, 1) := by decide +kernel
theorem dX2_copyFrom_37 : decode cX2_copyFrom 37 = .ok (.aload_n 1, 1) := by decide +kernel
theorem dX2_copyFrom_38 : decode cX2_copyFrom 38 = .ok (.getfield 21, 3) := by decide +kernel
theorem dX2_copyFrom_41 : decode cX2_copyFrom 41 = .ok (.putfield 21, 3) := by decide +kernel
theorem dX2_copyFrom_44 : decode cX2_copyFrom 44 = .ok (.aload_n 0, 1) := by decide +kernel
theorem dX2_copyFrom_45 : decode cX2_copyFrom 45 = .ok (.aload_n 1, 1) := by decide +kernel
theorem dX2_copyFrom_46 : decode cX2_copyFrom 46 = .ok (.getfield 24, 3) := by decide +kernel
theorem dX2_copyFrom_49 : decode cX2_copyFrom 49 = .ok (.putfield 24, 3) := by decide +kernel
theorem dX2_copyFrom_52 : decode cX2_copyFrom 52 = .ok (.aload_n 0, 1) := by decide +kernel
theorem dX2_copyFrom_53 : decode cX2_copyFrom 53 = .ok (.aload_n 1, 1) := by decide +kernel
theorem dX2_copyFrom_54 : decode cX2_copyFrom 54 = .ok (.getfield 27, 3) := by decide +kernel
theorem dX2_copyFrom_57 : decode cX2_copyFrom 57 = .ok (.putfield 27, 3) := by decide +kernel
theorem dX2_copyFrom_60 : decode cX2_copyFrom 60 = .ok (.aload_n 0, 1) := by decide +kernel
theorem dX2_copyFrom_61 : decode cX2_copyFrom 61 = .ok (.aload_n 1, 1) := by decide +kernel
theorem dX2_copyFrom_62 : decode cX2_copyFrom 62 = .ok (.getfield 30, 3) := by decide +kernel
theorem dX2_copyFrom_65 : decode cX2_copyFrom 65 = .ok (.putfield 30, 3) := by decide +kernel
theorem dX2_copyFrom_68 : decode cX2_copyFrom 68 = .ok (.aload_n 0, 1) := by decide +kernel
theorem dX2_copyFrom_69 : decode cX2_copyFrom 69 = .ok (.aload_n 1, 1) := by decide +kernel
theorem dX2_copyFrom_70 : decode cX2_copyFrom 70 = .ok (.getfield 33, 3) := by decide +kernel
theorem dX2_copyFrom_73 : decode cX2_copyFrom 73 = .ok (.putfield 33, 3) := by decide +kernel
theorem dX2_copyFrom_76 : decode cX2_copyFrom 76 = .ok (.aload_n 1, 1) := by decide +kernel
theorem dX2_copyFrom_77 : decode cX2_copyFrom 77 = .ok (.getfield 36, 3) := by decide +kernel
theorem dX2_copyFrom_80 : decode cX2_copyFrom 80 = .ok (.iconst 0, 1) := by decide +kernel
theorem dX2_copyFrom_81 : decode cX2_copyFrom 81 = .ok (.aload_n 0, 1) := by decide +kernel
theorem dX2_copyFrom_82 : decode cX2_copyFrom 82 = .ok (.getfield 36, 3) := by decide +kernel
theorem dX2_copyFrom_85 : decode cX2_copyFrom 85 = .ok (.iconst 0, 1) := by decide +kernel
theorem dX2_copyFrom_86 : decode cX2_copyFrom 86 = .ok (.iconst 4, 1) := by decide +kernel
theorem dX2_copyFrom_87 : decode cX2_copyFrom 87 = .ok (.invokestatic 57, 3) := by decide +kernel
theorem dX2_copyFrom_90 : decode cX2_copyFrom 90 = .ok (.aload_n 1, 1) := by decide +kernel
theorem dX2_copyFrom_91 : decode cX2_copyFrom 91 = .ok (.getfield 42, 3) := by decide +kernel
theorem dX2_copyFrom_94 : decode cX2_copyFrom 94 = .ok (.iconst 0, 1) := by decide +kernel
theorem dX2_copyFrom_95 : decode cX2_copyFrom 95 = .ok (.aload_n 0, 1) := by decide +kernel
theorem dX2_copyFrom_96 : decode cX2_copyFrom 96 = .ok (.getfield 42, 3) := by decide +kernel
theorem dX2_copyFrom_99 : decode cX2_copyFrom 99 = .ok (.iconst 0, 1) := by decide +kernel
theorem dX2_copyFrom_100 : decode cX2_copyFrom 100 = .ok (.iconst 2, 1) := by decide +kernel
theorem dX2_copyFrom_101 : decode cX2_copyFrom 101 = .ok (.invokestatic 57, 3) := by decide +kernel
theorem dX2_copyFrom_104 : decode cX2_copyFrom 104 = .ok (.aload_n 1, 1) := by decide +kernel
theorem dX2_copyFrom_105 : decode cX2_copyFrom 105 = .ok (.getfield 46, 3) := by decide +kernel
theorem dX2_copyFrom_108 : decode cX2_copyFrom 108 = .ok (.iconst 0, 1) := by decide +kernel
theorem dX2_copyFrom_109 : decode cX2_copyFrom 109 = .ok (.aload_n 0, 1) := by decide +kernel
theorem dX2_copyFrom_110 : decode cX2_copyFrom 110 = .ok (.getfield 46, 3) := by decide +kernel
theorem dX2_copyFrom_113 : decode cX2_copyFrom 113 = .ok (.iconst 0, 1) := by decide +kernel
theorem dX2_copyFrom_114 : decode cX2_copyFrom 114 = .ok (.sipush 720, 3) := by decide +kernel
theorem dX2_copyFrom_117 : decode cX2_copyFrom 117 = .ok (.invokestatic 57, 3) := by decide +kernel
theorem dX2_copyFrom_120 : decode cX2_copyFrom 120 = .ok (.aload_n 1, 1) := by decide +kernel
theorem dX2_copyFrom_121 : decode cX2_copyFrom 121 = .ok (.getfield 49, 3) := by decide +kernel
theorem dX2_copyFrom_124 : decode cX2_copyFrom 124 = .ok (.iconst 0, 1) := by decide +kernel
theorem dX2_copyFrom_125 : decode cX2_copyFrom 125 = .ok (.aload_n 0, 1) := by decide +kernel
theorem dX2_copyFrom_126 : decode cX2_copyFrom 126 = .ok (.getfield 49, 3) := by decide +kernel
theorem dX2_copyFrom_129 : decode cX2_copyFrom 129 = .ok (.iconst 0, 1) := by decide +kernel
theorem dX2_copyFrom_130 : decode cX2_copyFrom 130 = .ok (.sipush 8640, 3) := by decide +kernel
theorem dX2_copyFrom_133 : decode cX2_copyFrom 133 = .ok (.invokestatic 57, 3) := by decide +kernel
theorem dX2_copyFrom_136 : decode cX2_copyFrom 136 = .ok (.return_, 1) := by decide +kernel
set_option maxRecDepth 20000 in
theorem ggX2_pictureNumbered_X4_within : GoodIn wsX2_pictureNumbered wsX4_within := goodIn_r _ [5] (by decide +kernel) (by decide +kernel)
set_option maxRecDepth 20000 in
theorem gX2_pictureNumbered_X4_within_n63 : GoodIn wsX2_pictureNumbered (wsX4_within) := ggX2_pictureNumbered_X4_within
theorem dX2_pictureNumbered_0 : decode cX2_pictureNumbered 0 = .ok (.iload_n 1, 1) := by decide +kernel
theorem dX2_pictureNumbered_1 : decode cX2_pictureNumbered 1 = .ok (.iconst 0, 1) := by decide +kernel
theorem dX2_pictureNumbered_2 : decode cX2_pictureNumbered 2 = .ok (.aload_n 0, 1) := by decide +kernel
theorem dX2_pictureNumbered_3 : decode cX2_pictureNumbered 3 = .ok (.getfield 9, 3) := by decide +kernel
theorem dX2_pictureNumbered_6 : decode cX2_pictureNumbered 6 = .ok (.iconst 1, 1) := by decide +kernel
theorem dX2_pictureNumbered_7 : decode cX2_pictureNumbered 7 = .ok (.isub, 1) := by decide +kernel
theorem dX2_pictureNumbered_8 : decode cX2_pictureNumbered 8 = .ok (.invokestatic 63, 3) := by decide +kernel
theorem dX2_pictureNumbered_11 : decode cX2_pictureNumbered 11 = .ok (.ifCond .eq 12, 3) := by decide +kernel
theorem dX2_pictureNumbered_14 : decode cX2_pictureNumbered 14 = .ok (.aload_n 0, 1) := by decide +kernel
theorem dX2_pictureNumbered_15 : decode cX2_pictureNumbered 15 = .ok (.getfield 17, 3) := by decide +kernel
theorem dX2_pictureNumbered_18 : decode cX2_pictureNumbered 18 = .ok (.iload_n 1, 1) := by decide +kernel
theorem dX2_pictureNumbered_19 : decode cX2_pictureNumbered 19 = .ok (.aaload, 1) := by decide +kernel
theorem dX2_pictureNumbered_20 : decode cX2_pictureNumbered 20 = .ok (.goto 4, 3) := by decide +kernel
theorem dX2_pictureNumbered_23 : decode cX2_pictureNumbered 23 = .ok (.aconst_null, 1) := by decide +kernel
theorem dX2_pictureNumbered_24 : decode cX2_pictureNumbered 24 = .ok (.areturn, 1) := by decide +kernel
theorem dX2_works_0 : decode cX2_works 0 = .ok (.aload_n 0, 1) := by decide +kernel
theorem dX2_works_1 : decode cX2_works 1 = .ok (.getfield 42, 3) := by decide +kernel
theorem dX2_works_4 : decode cX2_works 4 = .ok (.iload_n 1, 1) := by decide +kernel
theorem dX2_works_5 : decode cX2_works 5 = .ok (.laload, 1) := by decide +kernel
theorem dX2_works_6 : decode cX2_works 6 = .ok (.iload_n 2, 1) := by decide +kernel
theorem dX2_works_7 : decode cX2_works 7 = .ok (.iconst 3, 1) := by decide +kernel
theorem dX2_works_8 : decode cX2_works 8 = .ok (.imul, 1) := by decide +kernel
theorem dX2_works_9 : decode cX2_works 9 = .ok (.lshr, 1) := by decide +kernel
theorem dX2_works_10 : decode cX2_works 10 = .ok (.lconst 1, 1) := by decide +kernel
theorem dX2_works_11 : decode cX2_works 11 = .ok (.land, 1) := by decide +kernel
theorem dX2_works_12 : decode cX2_works 12 = .ok (.lconst 0, 1) := by decide +kernel
theorem dX2_works_13 : decode cX2_works 13 = .ok (.lcmp, 1) := by decide +kernel
theorem dX2_works_14 : decode cX2_works 14 = .ok (.ifCond .eq 7, 3) := by decide +kernel
theorem dX2_works_17 : decode cX2_works 17 = .ok (.iconst 1, 1) := by decide +kernel
theorem dX2_works_18 : decode cX2_works 18 = .ok (.goto 4, 3) := by decide +kernel
theorem dX2_works_21 : decode cX2_works 21 = .ok (.iconst 0, 1) := by decide +kernel
theorem dX2_works_22 : decode cX2_works 22 = .ok (.ireturn, 1) := by decide +kernel
set_option maxRecDepth 20000 in
theorem ggX2_wantedAt_X0_wantedAt : GoodIn wsX2_wantedAt wsX0_wantedAt := goodIn_r _ [7, 8, 9, 10, 11, 12, 6, 13, 14, 15, 16, 17, 18, 19, 20, 21, 22, 23, 24, 25, 26, 27, 28, 29, 30, 31, 32, 44, 45, 46, 47, 48] (by decide +kernel) (by decide +kernel)
set_option maxRecDepth 20000 in
theorem gX2_wantedAt_X0_wantedAt : GoodIn wsX2_wantedAt (wsV RX2 67 RX0 yX0_wantedAt wsX0_wantedAt) := goodIn_app (goodIn_of _ (by decide +kernel)) ggX2_wantedAt_X0_wantedAt
theorem dX2_wantedAt_0 : decode cX2_wantedAt 0 = .ok (.lconst 0, 1) := by decide +kernel
theorem dX2_wantedAt_1 : decode cX2_wantedAt 1 = .ok (.lstore_n 2, 1) := by decide +kernel
theorem dX2_wantedAt_2 : decode cX2_wantedAt 2 = .ok (.iconst 0, 1) := by decide +kernel
theorem dX2_wantedAt_3 : decode cX2_wantedAt 3 = .ok (.istore 4, 2) := by decide +kernel
theorem dX2_wantedAt_5 : decode cX2_wantedAt 5 = .ok (.iload 4, 2) := by decide +kernel
theorem dX2_wantedAt_7 : decode cX2_wantedAt 7 = .ok (.aload_n 0, 1) := by decide +kernel
theorem dX2_wantedAt_8 : decode cX2_wantedAt 8 = .ok (.getfield 9, 3) := by decide +kernel
theorem dX2_wantedAt_11 : decode cX2_wantedAt 11 = .ok (.if_icmp .ge 23, 3) := by decide +kernel
theorem dX2_wantedAt_14 : decode cX2_wantedAt 14 = .ok (.lload_n 2, 1) := by decide +kernel
theorem dX2_wantedAt_15 : decode cX2_wantedAt 15 = .ok (.aload_n 0, 1) := by decide +kernel
theorem dX2_wantedAt_16 : decode cX2_wantedAt 16 = .ok (.getfield 17, 3) := by decide +kernel
theorem dX2_wantedAt_19 : decode cX2_wantedAt 19 = .ok (.iload 4, 2) := by decide +kernel
theorem dX2_wantedAt_21 : decode cX2_wantedAt 21 = .ok (.aaload, 1) := by decide +kernel
theorem dX2_wantedAt_22 : decode cX2_wantedAt 22 = .ok (.iload_n 1, 1) := by decide +kernel
theorem dX2_wantedAt_23 : decode cX2_wantedAt 23 = .ok (.invokevirtual 67, 3) := by decide +kernel
theorem dX2_wantedAt_26 : decode cX2_wantedAt 26 = .ok (.lor, 1) := by decide +kernel
theorem dX2_wantedAt_27 : decode cX2_wantedAt 27 = .ok (.lstore_n 2, 1) := by decide +kernel
theorem dX2_wantedAt_28 : decode cX2_wantedAt 28 = .ok (.iinc 4 1, 3) := by decide +kernel
theorem dX2_wantedAt_31 : decode cX2_wantedAt 31 = .ok (.goto (-26), 3) := by decide +kernel
theorem dX2_wantedAt_34 : decode cX2_wantedAt 34 = .ok (.lload_n 2, 1) := by decide +kernel
theorem dX2_wantedAt_35 : decode cX2_wantedAt 35 = .ok (.lreturn, 1) := by decide +kernel
set_option maxRecDepth 20000 in
theorem ggX2_isCoveredAt_X0_covers : GoodIn wsX2_isCoveredAt wsX0_covers := goodIn_r _ [8, 9, 10, 11, 12, 13, 14, 15, 16, 7, 17, 18, 19, 20, 21, 22, 23, 35, 36, 37, 38, 39] (by decide +kernel) (by decide +kernel)
set_option maxRecDepth 20000 in
theorem gX2_isCoveredAt_X0_covers : GoodIn wsX2_isCoveredAt (wsV RX2 74 RX0 yX0_covers wsX0_covers) := goodIn_app (goodIn_of _ (by decide +kernel)) ggX2_isCoveredAt_X0_covers
theorem dX2_isCoveredAt_0 : decode cX2_isCoveredAt 0 = .ok (.iconst 0, 1) := by decide +kernel
theorem dX2_isCoveredAt_1 : decode cX2_isCoveredAt 1 = .ok (.istore_n 2, 1) := by decide +kernel
theorem dX2_isCoveredAt_2 : decode cX2_isCoveredAt 2 = .ok (.iload_n 2, 1) := by decide +kernel
theorem dX2_isCoveredAt_3 : decode cX2_isCoveredAt 3 = .ok (.aload_n 0, 1) := by decide +kernel
theorem dX2_isCoveredAt_4 : decode cX2_isCoveredAt 4 = .ok (.getfield 9, 3) := by decide +kernel
theorem dX2_isCoveredAt_7 : decode cX2_isCoveredAt 7 = .ok (.if_icmp .ge 37, 3) := by decide +kernel
theorem dX2_isCoveredAt_10 : decode cX2_isCoveredAt 10 = .ok (.aload_n 0, 1) := by decide +kernel
theorem dX2_isCoveredAt_11 : decode cX2_isCoveredAt 11 = .ok (.getfield 17, 3) := by decide +kernel
theorem dX2_isCoveredAt_14 : decode cX2_isCoveredAt 14 = .ok (.iload_n 2, 1) := by decide +kernel
theorem dX2_isCoveredAt_15 : decode cX2_isCoveredAt 15 = .ok (.aaload, 1) := by decide +kernel
theorem dX2_isCoveredAt_16 : decode cX2_isCoveredAt 16 = .ok (.getfield 71, 3) := by decide +kernel
theorem dX2_isCoveredAt_19 : decode cX2_isCoveredAt 19 = .ok (.iconst 2, 1) := by decide +kernel
theorem dX2_isCoveredAt_20 : decode cX2_isCoveredAt 20 = .ok (.if_icmp .eq 18, 3) := by decide +kernel
theorem dX2_isCoveredAt_23 : decode cX2_isCoveredAt 23 = .ok (.aload_n 0, 1) := by decide +kernel
theorem dX2_isCoveredAt_24 : decode cX2_isCoveredAt 24 = .ok (.getfield 17, 3) := by decide +kernel
theorem dX2_isCoveredAt_27 : decode cX2_isCoveredAt 27 = .ok (.iload_n 2, 1) := by decide +kernel
theorem dX2_isCoveredAt_28 : decode cX2_isCoveredAt 28 = .ok (.aaload, 1) := by decide +kernel
theorem dX2_isCoveredAt_29 : decode cX2_isCoveredAt 29 = .ok (.iload_n 1, 1) := by decide +kernel
theorem dX2_isCoveredAt_30 : decode cX2_isCoveredAt 30 = .ok (.invokevirtual 74, 3) := by decide +kernel
theorem dX2_isCoveredAt_33 : decode cX2_isCoveredAt 33 = .ok (.ifCond .eq 5, 3) := by decide +kernel
theorem dX2_isCoveredAt_36 : decode cX2_isCoveredAt 36 = .ok (.iconst 1, 1) := by decide +kernel
theorem dX2_isCoveredAt_37 : decode cX2_isCoveredAt 37 = .ok (.ireturn, 1) := by decide +kernel
theorem dX2_isCoveredAt_38 : decode cX2_isCoveredAt 38 = .ok (.iinc 2 1, 3) := by decide +kernel
theorem dX2_isCoveredAt_41 : decode cX2_isCoveredAt 41 = .ok (.goto (-39), 3) := by decide +kernel
theorem dX2_isCoveredAt_44 : decode cX2_isCoveredAt 44 = .ok (.iconst 0, 1) := by decide +kernel
theorem dX2_isCoveredAt_45 : decode cX2_isCoveredAt 45 = .ok (.ireturn, 1) := by decide +kernel
theorem dX2_litAt_0 : decode cX2_litAt 0 = .ok (.iconst 0, 1) := by decide +kernel
theorem dX2_litAt_1 : decode cX2_litAt 1 = .ok (.aload_n 0, 1) := by decide +kernel
theorem dX2_litAt_2 : decode cX2_litAt 2 = .ok (.getfield 27, 3) := by decide +kernel
theorem dX2_litAt_5 : decode cX2_litAt 5 = .ok (.iload_n 2, 1) := by decide +kernel
theorem dX2_litAt_6 : decode cX2_litAt 6 = .ok (.iadd, 1) := by decide +kernel
theorem dX2_litAt_7 : decode cX2_litAt 7 = .ok (.aload_n 0, 1) := by decide +kernel
theorem dX2_litAt_8 : decode cX2_litAt 8 = .ok (.getfield 36, 3) := by decide +kernel
theorem dX2_litAt_11 : decode cX2_litAt 11 = .ok (.iconst 3, 1) := by decide +kernel
theorem dX2_litAt_12 : decode cX2_litAt 12 = .ok (.iaload, 1) := by decide +kernel
theorem dX2_litAt_13 : decode cX2_litAt 13 = .ok (.isub, 1) := by decide +kernel
theorem dX2_litAt_14 : decode cX2_litAt 14 = .ok (.invokestatic 78, 3) := by decide +kernel

theorem dX2_litAt_17 : decode cX2_litAt 17 = .ok (.istore_n 3, 1) := by decide +kernel
theorem dX2_litAt_18 : decode cX2_litAt 18 = .ok (.lconst 0, 1) := by decide +kernel
theorem dX2_litAt_19 : decode cX2_litAt 19 = .ok (.lstore 4, 2) := by decide +kernel
theorem dX2_litAt_21 : decode cX2_litAt 21 = .ok (.iconst 0, 1) := by decide +kernel
theorem dX2_litAt_22 : decode cX2_litAt 22 = .ok (.istore 6, 2) := by decide +kernel
theorem dX2_litAt_24 : decode cX2_litAt 24 = .ok (.iload 6, 2) := by decide +kernel
theorem dX2_litAt_26 : decode cX2_litAt 26 = .ok (.bipush 12, 2) := by decide +kernel
theorem dX2_litAt_28 : decode cX2_litAt 28 = .ok (.if_icmp .ge 49, 3) := by decide +kernel
theorem dX2_litAt_31 : decode cX2_litAt 31 = .ok (.aload_n 0, 1) := by decide +kernel
theorem dX2_litAt_32 : decode cX2_litAt 32 = .ok (.getfield 49, 3) := by decide +kernel
theorem dX2_litAt_35 : decode cX2_litAt 35 = .ok (.iload_n 1, 1) := by decide +kernel
theorem dX2_litAt_36 : decode cX2_litAt 36 = .ok (.bipush 12, 2) := by decide +kernel
theorem dX2_litAt_38 : decode cX2_litAt 38 = .ok (.imul, 1) := by decide +kernel
theorem dX2_litAt_39 : decode cX2_litAt 39 = .ok (.iload 6, 2) := by decide +kernel
theorem dX2_litAt_41 : decode cX2_litAt 41 = .ok (.iadd, 1) := by decide +kernel
theorem dX2_litAt_42 : decode cX2_litAt 42 = .ok (.iaload, 1) := by decide +kernel
theorem dX2_litAt_43 : decode cX2_litAt 43 = .ok (.istore 7, 2) := by decide +kernel
theorem dX2_litAt_45 : decode cX2_litAt 45 = .ok (.iload 7, 2) := by decide +kernel
theorem dX2_litAt_47 : decode cX2_litAt 47 = .ok (.iload_n 3, 1) := by decide +kernel
theorem dX2_litAt_48 : decode cX2_litAt 48 = .ok (.if_icmp .le 23, 3) := by decide +kernel
theorem dX2_litAt_51 : decode cX2_litAt 51 = .ok (.lload 4, 2) := by decide +kernel
theorem dX2_litAt_53 : decode cX2_litAt 53 = .ok (.aload_n 0, 1) := by decide +kernel
theorem dX2_litAt_54 : decode cX2_litAt 54 = .ok (.getfield 46, 3) := by decide +kernel
theorem dX2_litAt_57 : decode cX2_litAt 57 = .ok (.iload_n 1, 1) := by decide +kernel
theorem dX2_litAt_58 : decode cX2_litAt 58 = .ok (.laload, 1) := by decide +kernel
theorem dX2_litAt_59 : decode cX2_litAt 59 = .ok (.ldc2_w 84, 3) := by decide +kernel
theorem dX2_litAt_62 : decode cX2_litAt 62 = .ok (.iload 6, 2) := by decide +kernel
theorem dX2_litAt_64 : decode cX2_litAt 64 = .ok (.iconst 3, 1) := by decide +kernel
theorem dX2_litAt_65 : decode cX2_litAt 65 = .ok (.imul, 1) := by decide +kernel
theorem dX2_litAt_66 : decode cX2_litAt 66 = .ok (.lshl, 1) := by decide +kernel
theorem dX2_litAt_67 : decode cX2_litAt 67 = .ok (.land, 1) := by decide +kernel
theorem dX2_litAt_68 : decode cX2_litAt 68 = .ok (.lor, 1) := by decide +kernel
theorem dX2_litAt_69 : decode cX2_litAt 69 = .ok (.lstore 4, 2) := by decide +kernel
theorem dX2_litAt_71 : decode cX2_litAt 71 = .ok (.iinc 6 1, 3) := by decide +kernel
theorem dX2_litAt_74 : decode cX2_litAt 74 = .ok (.goto (-50), 3) := by decide +kernel
theorem dX2_litAt_77 : decode cX2_litAt 77 = .ok (.lload 4, 2) := by decide +kernel
theorem dX2_litAt_79 : decode cX2_litAt 79 = .ok (.lreturn, 1) := by decide +kernel
set_option maxRecDepth 20000 in
theorem ggX2_write_X3_firstArmAt : GoodIn wsX2_write wsX3_firstArmAt := goodIn_r _ [14, 15, 42, 43, 44, 45, 46, 47, 48, 49, 50, 51, 52] (by decide +kernel) (by decide +kernel)
set_option maxRecDepth 20000 in
theorem gX2_write_X3_firstArmAt : GoodIn wsX2_write (wsV RX2 91 RX3 yX3_firstArmAt wsX3_firstArmAt) := goodIn_app (goodIn_of _ (by decide +kernel)) ggX2_write_X3_firstArmAt
set_option maxRecDepth 20000 in
theorem ggX2_write_X2_writeArm : GoodIn wsX2_write wsX2_writeArm := goodIn_r _ [20, 21, 22, 23, 24, 25, 8, 26, 27, 28, 29, 30, 31, 32, 19, 33, 53, 54, 55, 56, 57, 58, 59, 60, 61, 62, 63] (by decide +kernel) (by decide +kernel)
set_option maxRecDepth 20000 in
theorem gX2_write_X2_writeArm : GoodIn wsX2_write (wsV RX2 95 RX2 yX2_writeArm wsX2_writeArm) := goodIn_app (goodIn_of _ (by decide +kernel)) ggX2_write_X2_writeArm
set_option maxRecDepth 20000 in
theorem ggX2_write_X3_secondArmAt : GoodIn wsX2_write wsX3_secondArmAt := goodIn_r _ [37, 38, 15, 39, 40, 13, 41, 42, 43, 44, 45, 46, 47, 48, 49, 50, 51, 52] (by decide +kernel) (by decide +kernel)
set_option maxRecDepth 20000 in
theorem gX2_write_X3_secondArmAt : GoodIn wsX2_write (wsV RX2 99 RX3 yX3_secondArmAt wsX3_secondArmAt) := goodIn_app (goodIn_of _ (by decide +kernel)) ggX2_write_X3_secondArmAt
theorem dX2_write_0 : decode cX2_write 0 = .ok (.iconst 0, 1) := by decide +kernel
theorem dX2_write_1 : decode cX2_write 1 = .ok (.istore_n 2, 1) := by decide +kernel
theorem dX2_write_2 : decode cX2_write 2 = .ok (.iload_n 2, 1) := by decide +kernel
theorem dX2_write_3 : decode cX2_write 3 = .ok (.sipush 720, 3) := by decide +kernel
theorem dX2_write_6 : decode cX2_write 6 = .ok (.if_icmp .ge 43, 3) := by decide +kernel
theorem dX2_write_9 : decode cX2_write 9 = .ok (.aload_n 0, 1) := by decide +kernel
theorem dX2_write_10 : decode cX2_write 10 = .ok (.iconst 0, 1) := by decide +kernel
theorem dX2_write_11 : decode cX2_write 11 = .ok (.iload_n 2, 1) := by decide +kernel
theorem dX2_write_12 : decode cX2_write 12 = .ok (.aload_n 1, 1) := by decide +kernel
theorem dX2_write_13 : decode cX2_write 13 = .ok (.getfield 86, 3) := by decide +kernel
theorem dX2_write_16 : decode cX2_write 16 = .ok (.iload_n 2, 1) := by decide +kernel
theorem dX2_write_17 : decode cX2_write 17 = .ok (.laload, 1) := by decide +kernel
theorem dX2_write_18 : decode cX2_write 18 = .ok (.aload_n 1, 1) := by decide +kernel
theorem dX2_write_19 : decode cX2_write 19 = .ok (.iload_n 2, 1) := by decide +kernel
theorem dX2_write_20 : decode cX2_write 20 = .ok (.invokevirtual 91, 3) := by decide +kernel
theorem dX2_write_23 : decode cX2_write 23 = .ok (.invokevirtual 95, 3) := by decide +kernel
theorem dX2_write_26 : decode cX2_write 26 = .ok (.aload_n 0, 1) := by decide +kernel
theorem dX2_write_27 : decode cX2_write 27 = .ok (.iconst 1, 1) := by decide +kernel
theorem dX2_write_28 : decode cX2_write 28 = .ok (.iload_n 2, 1) := by decide +kernel
theorem dX2_write_29 : decode cX2_write 29 = .ok (.aload_n 1, 1) := by decide +kernel
theorem dX2_write_30 : decode cX2_write 30 = .ok (.getfield 86, 3) := by decide +kernel
theorem dX2_write_33 : decode cX2_write 33 = .ok (.iload_n 2, 1) := by decide +kernel
theorem dX2_write_34 : decode cX2_write 34 = .ok (.laload, 1) := by decide +kernel
theorem dX2_write_35 : decode cX2_write 35 = .ok (.aload_n 1, 1) := by decide +kernel
theorem dX2_write_36 : decode cX2_write 36 = .ok (.iload_n 2, 1) := by decide +kernel
theorem dX2_write_37 : decode cX2_write 37 = .ok (.invokevirtual 99, 3) := by decide +kernel
theorem dX2_write_40 : decode cX2_write 40 = .ok (.invokevirtual 95, 3) := by decide +kernel
theorem dX2_write_43 : decode cX2_write 43 = .ok (.iinc 2 1, 3) := by decide +kernel
theorem dX2_write_46 : decode cX2_write 46 = .ok (.goto (-44), 3) := by decide +kernel
theorem dX2_write_49 : decode cX2_write 49 = .ok (.aload_n 0, 1) := by decide +kernel
theorem dX2_write_50 : decode cX2_write 50 = .ok (.aload_n 1, 1) := by decide +kernel
theorem dX2_write_51 : decode cX2_write 51 = .ok (.getfield 102, 3) := by decide +kernel
theorem dX2_write_54 : decode cX2_write 54 = .ok (.putfield 21, 3) := by decide +kernel
theorem dX2_write_57 : decode cX2_write 57 = .ok (.aload_n 0, 1) := by decide +kernel
theorem dX2_write_58 : decode cX2_write 58 = .ok (.aload_n 1, 1) := by decide +kernel
theorem dX2_write_59 : decode cX2_write 59 = .ok (.getfield 103, 3) := by decide +kernel
theorem dX2_write_62 : decode cX2_write 62 = .ok (.putfield 24, 3) := by decide +kernel
theorem dX2_write_65 : decode cX2_write 65 = .ok (.aload_n 0, 1) := by decide +kernel
theorem dX2_write_66 : decode cX2_write 66 = .ok (.aload_n 1, 1) := by decide +kernel
theorem dX2_write_67 : decode cX2_write 67 = .ok (.getfield 104, 3) := by decide +kernel
theorem dX2_write_70 : decode cX2_write 70 = .ok (.putfield 30, 3) := by decide +kernel
theorem dX2_write_73 : decode cX2_write 73 = .ok (.aload_n 0, 1) := by decide +kernel
theorem dX2_write_74 : decode cX2_write 74 = .ok (.dup, 1) := by decide +kernel
theorem dX2_write_75 : decode cX2_write 75 = .ok (.getfield 27, 3) := by decide +kernel
theorem dX2_write_78 : decode cX2_write 78 = .ok (.aload_n 1, 1) := by decide +kernel
theorem dX2_write_79 : decode cX2_write 79 = .ok (.getfield 105, 3) := by decide +kernel
theorem dX2_write_82 : decode cX2_write 82 = .ok (.iadd, 1) := by decide +kernel
theorem dX2_write_83 : decode cX2_write 83 = .ok (.putfield 27, 3) := by decide +kernel
theorem dX2_write_86 : decode cX2_write 86 = .ok (.return_, 1) := by decide +kernel
set_option maxRecDepth 20000 in
theorem ggX2_writeArm_X2_works : GoodIn wsX2_writeArm wsX2_works := goodIn_r _ [15, 1, 16, 17, 18, 19, 20, 21, 22, 23, 24, 25, 26] (by decide +kernel) (by decide +kernel)
set_option maxRecDepth 20000 in
theorem gX2_writeArm_X2_works : GoodIn wsX2_writeArm (wsV RX2 108 RX2 yX2_works wsX2_works) := goodIn_app (goodIn_of _ (by decide +kernel)) ggX2_writeArm_X2_works
theorem dX2_writeArm_0 : decode cX2_writeArm 0 = .ok (.iload 5, 2) := by decide +kernel
theorem dX2_writeArm_2 : decode cX2_writeArm 2 = .ok (.ifCond .ne 4, 3) := by decide +kernel
theorem dX2_writeArm_5 : decode cX2_writeArm 5 = .ok (.return_, 1) := by decide +kernel
theorem dX2_writeArm_6 : decode cX2_writeArm 6 = .ok (.aload_n 0, 1) := by decide +kernel
theorem dX2_writeArm_7 : decode cX2_writeArm 7 = .ok (.getfield 42, 3) := by decide +kernel
theorem dX2_writeArm_10 : decode cX2_writeArm 10 = .ok (.iload_n 1, 1) := by decide +kernel
theorem dX2_writeArm_11 : decode cX2_writeArm 11 = .ok (.laload, 1) := by decide +kernel
theorem dX2_writeArm_12 : decode cX2_writeArm 12 = .ok (.ldc2_w 84, 3) := by decide +kernel
theorem dX2_writeArm_15 : decode cX2_writeArm 15 = .ok (.lmul, 1) := by decide +kernel
theorem dX2_writeArm_16 : decode cX2_writeArm 16 = .ok (.lstore 6, 2) := by decide +kernel
theorem dX2_writeArm_18 : decode cX2_writeArm 18 = .ok (.aload_n 0, 1) := by decide +kernel
theorem dX2_writeArm_19 : decode cX2_writeArm 19 = .ok (.getfield 46, 3) := by decide +kernel
theorem dX2_writeArm_22 : decode cX2_writeArm 22 = .ok (.iload_n 2, 1) := by decide +kernel
theorem dX2_writeArm_23 : decode cX2_writeArm 23 = .ok (.aload_n 0, 1) := by decide +kernel
theorem dX2_writeArm_24 : decode cX2_writeArm 24 = .ok (.getfield 46, 3) := by decide +kernel
theorem dX2_writeArm_27 : decode cX2_writeArm 27 = .ok (.iload_n 2, 1) := by decide +kernel
theorem dX2_writeArm_28 : decode cX2_writeArm 28 = .ok (.laload, 1) := by decide +kernel
theorem dX2_writeArm_29 : decode cX2_writeArm 29 = .ok (.lload 6, 2) := by decide +kernel
theorem dX2_writeArm_31 : decode cX2_writeArm 31 = .ok (.ldc2_w 106, 3) := by decide +kernel
theorem dX2_writeArm_34 : decode cX2_writeArm 34 = .ok (.lxor, 1) := by decide +kernel
theorem dX2_writeArm_35 : decode cX2_writeArm 35 = .ok (.land, 1) := by decide +kernel
theorem dX2_writeArm_36 : decode cX2_writeArm 36 = .ok (.lload_n 3, 1) := by decide +kernel
theorem dX2_writeArm_37 : decode cX2_writeArm 37 = .ok (.lload 6, 2) := by decide +kernel
theorem dX2_writeArm_39 : decode cX2_writeArm 39 = .ok (.land, 1) := by decide +kernel
theorem dX2_writeArm_40 : decode cX2_writeArm 40 = .ok (.lor, 1) := by decide +kernel
theorem dX2_writeArm_41 : decode cX2_writeArm 41 = .ok (.lastore, 1) := by decide +kernel
theorem dX2_writeArm_42 : decode cX2_writeArm 42 = .ok (.iconst 0, 1) := by decide +kernel
theorem dX2_writeArm_43 : decode cX2_writeArm 43 = .ok (.istore 8, 2) := by decide +kernel
theorem dX2_writeArm_45 : decode cX2_writeArm 45 = .ok (.iload 8, 2) := by decide +kernel
theorem dX2_writeArm_47 : decode cX2_writeArm 47 = .ok (.bipush 12, 2) := by decide +kernel
theorem dX2_writeArm_49 : decode cX2_writeArm 49 = .ok (.if_icmp .ge 52, 3) := by decide +kernel
theorem dX2_writeArm_52 : decode cX2_writeArm 52 = .ok (.aload_n 0, 1) := by decide +kernel
theorem dX2_writeArm_53 : decode cX2_writeArm 53 = .ok (.iload_n 1, 1) := by decide +kernel
theorem dX2_writeArm_54 : decode cX2_writeArm 54 = .ok (.iload 8, 2) := by decide +kernel
theorem dX2_writeArm_56 : decode cX2_writeArm 56 = .ok (.invokevirtual 108, 3) := by decide +kernel
theorem dX2_writeArm_59 : decode cX2_writeArm 59 = .ok (.ifCond .eq 36, 3) := by decide +kernel
theorem dX2_writeArm_62 : decode cX2_writeArm 62 = .ok (.iload_n 2, 1) := by decide +kernel
theorem dX2_writeArm_63 : decode cX2_writeArm 63 = .ok (.bipush 12, 2) := by decide +kernel
theorem dX2_writeArm_65 : decode cX2_writeArm 65 = .ok (.imul, 1) := by decide +kernel
theorem dX2_writeArm_66 : decode cX2_writeArm 66 = .ok (.iload 8, 2) := by decide +kernel
theorem dX2_writeArm_68 : decode cX2_writeArm 68 = .ok (.iadd, 1) := by decide +kernel
theorem dX2_writeArm_69 : decode cX2_writeArm 69 = .ok (.istore 9, 2) := by decide +kernel
theorem dX2_writeArm_71 : decode cX2_writeArm 71 = .ok (.aload_n 0, 1) := by decide +kernel
theorem dX2_writeArm_72 : decode cX2_writeArm 72 = .ok (.getfield 49, 3) := by decide +kernel
theorem dX2_writeArm_75 : decode cX2_writeArm 75 = .ok (.iload 9, 2) := by decide +kernel
theorem dX2_writeArm_77 : decode cX2_writeArm 77 = .ok (.aload_n 0, 1) := by decide +kernel
theorem dX2_writeArm_78 : decode cX2_writeArm 78 = .ok (.getfield 49, 3) := by decide +kernel
theorem dX2_writeArm_81 : decode cX2_writeArm 81 = .ok (.iload 9, 2) := by decide +kernel
theorem dX2_writeArm_83 : decode cX2_writeArm 83 = .ok (.iaload, 1) := by decide +kernel
theorem dX2_writeArm_84 : decode cX2_writeArm 84 = .ok (.aload_n 0, 1) := by decide +kernel
theorem dX2_writeArm_85 : decode cX2_writeArm 85 = .ok (.getfield 27, 3) := by decide +kernel
theorem dX2_writeArm_88 : decode cX2_writeArm 88 = .ok (.iload 5, 2) := by decide +kernel
theorem dX2_writeArm_90 : decode cX2_writeArm 90 = .ok (.iadd, 1) := by decide +kernel
theorem dX2_writeArm_91 : decode cX2_writeArm 91 = .ok (.invokestatic 78, 3) := by decide +kernel
theorem dX2_writeArm_94 : decode cX2_writeArm 94 = .ok (.iastore, 1) := by decide +kernel
theorem dX2_writeArm_95 : decode cX2_writeArm 95 = .ok (.iinc 8 1, 3) := by decide +kernel
theorem dX2_writeArm_98 : decode cX2_writeArm 98 = .ok (.goto (-53), 3) := by decide +kernel
theorem dX2_writeArm_101 : decode cX2_writeArm 101 = .ok (.return_, 1) := by decide +kernel
theorem dX3_init_0 : decode cX3_init 0 = .ok (.aload_n 0, 1) := by decide +kernel
theorem dX3_init_1 : decode cX3_init 1 = .ok (.invokespecial 3, 3) := by decide +kernel
theorem dX3_init_4 : decode cX3_init 4 = .ok (.aload_n 0, 1) := by decide +kernel
theorem dX3_init_5 : decode cX3_init 5 = .ok (.sipush 720, 3) := by decide +kernel
theorem dX3_init_8 : decode cX3_init 8 = .ok (.newarray .long, 2) := by decide +kernel
theorem dX3_init_10 : decode cX3_init 10 = .ok (.putfield 9, 3) := by decide +kernel
theorem dX3_init_13 : decode cX3_init 13 = .ok (.aload_n 0, 1) := by decide +kernel
theorem dX3_init_14 : decode cX3_init 14 = .ok (.sipush 720, 3) := by decide +kernel
theorem dX3_init_17 : decode cX3_init 17 = .ok (.newarray .int, 2) := by decide +kernel
theorem dX3_init_19 : decode cX3_init 19 = .ok (.putfield 15, 3) := by decide +kernel
theorem dX3_init_22 : decode cX3_init 22 = .ok (.aload_n 0, 1) := by decide +kernel
theorem dX3_init_23 : decode cX3_init 23 = .ok (.sipush 720, 3) := by decide +kernel
theorem dX3_init_26 : decode cX3_init 26 = .ok (.newarray .int, 2) := by decide +kernel
theorem dX3_init_28 : decode cX3_init 28 = .ok (.putfield 19, 3) := by decide +kernel
theorem dX3_init_31 : decode cX3_init 31 = .ok (.return_, 1) := by decide +kernel
set_option maxRecDepth 20000 in
theorem ggX3_prepare_X2_wantedAt : GoodIn wsX3_prepare wsX2_wantedAt := goodIn_r _ [13, 14, 15, 16, 17, 18, 19, 20, 21, 22, 23, 24, 25, 26, 27, 28, 29, 30, 31, 32, 33, 34, 35, 36, 37, 38, 39, 40, 41, 42, 43, 44, 45, 61, 62, 63, 64, 65, 66, 67, 68, 69, 70, 71, 83, 84, 85, 86, 87] (by decide +kernel) (by decide +kernel)
set_option maxRecDepth 20000 in
theorem gX3_prepare_X2_wantedAt : GoodIn wsX3_prepare (wsV RX3 40 RX2 yX2_wantedAt wsX2_wantedAt) := goodIn_app (goodIn_of _ (by decide +kernel)) ggX3_prepare_X2_wantedAt
set_option maxRecDepth 20000 in
theorem ggX3_prepare_X4_notDark : GoodIn wsX3_prepare wsX4_notDark := goodIn_r _ [48, 49] (by decide +kernel) (by decide +kernel)
set_option maxRecDepth 20000 in
theorem gX3_prepare_X4_notDark_n44 : GoodIn wsX3_prepare (wsX4_notDark) := ggX3_prepare_X4_notDark
set_option maxRecDepth 20000 in
theorem ggX3_prepare_J13_bitCount_95d88 : GoodIn wsX3_prepare wsJ13_bitCount_95d88 := goodIn_r _ [53, 54, 55, 56] (by decide +kernel) (by decide +kernel)
set_option maxRecDepth 20000 in
theorem gX3_prepare_J13_bitCount_95d88 : GoodIn wsX3_prepare (va_wsS RX3 51 yJ13_bitCount_95d88 wsJ13_bitCount_95d88) := goodIn_app (goodIn_of _ (by decide +kernel)) ggX3_prepare_J13_bitCount_95d88
set_option maxRecDepth 20000 in
theorem ggX3_prepare_X3_opposite : GoodIn wsX3_prepare wsX3_opposite := goodIn_r _ [60] (by decide +kernel) (by decide +kernel)
set_option maxRecDepth 20000 in
theorem gX3_prepare_X3_opposite : GoodIn wsX3_prepare (va_wsS RX3 57 yX3_opposite wsX3_opposite) := goodIn_app (goodIn_of _ (by decide +kernel)) ggX3_prepare_X3_opposite
theorem dX3_prepare_0 : decode cX3_prepare 0 = .ok (.aload_n 0, 1) := by decide +kernel
theorem dX3_prepare_1 : decode cX3_prepare 1 = .ok (.aload_n 1, 1) := by decide +kernel
theorem dX3_prepare_2 : decode cX3_prepare 2 = .ok (.getfield 22, 3) := by decide +kernel
theorem dX3_prepare_5 : decode cX3_prepare 5 = .ok (.iconst 1, 1) := by decide +kernel
theorem dX3_prepare_6 : decode cX3_prepare 6 = .ok (.if_icmp .ne 7, 3) := by decide +kernel
theorem dX3_prepare_9 : decode cX3_prepare 9 = .ok (.iconst 1, 1) := by decide +kernel
theorem dX3_prepare_10 : decode cX3_prepare 10 = .ok (.goto 4, 3) := by decide +kernel
theorem dX3_prepare_13 : decode cX3_prepare 13 = .ok (.iconst 0, 1) := by decide +kernel
theorem dX3_prepare_14 : decode cX3_prepare 14 = .ok (.putfield 28, 3) := by decide +kernel
theorem dX3_prepare_17 : decode cX3_prepare 17 = .ok (.aload_n 0, 1) := by decide +kernel
theorem dX3_prepare_18 : decode cX3_prepare 18 = .ok (.aload_n 1, 1) := by decide +kernel
theorem dX3_prepare_19 : decode cX3_prepare 19 = .ok (.getfield 31, 3) := by decide +kernel
theorem dX3_prepare_22 : decode cX3_prepare 22 = .ok (.iconst 1, 1) := by decide +kernel
theorem dX3_prepare_23 : decode cX3_prepare 23 = .ok (.iaload, 1) := by decide +kernel
theorem dX3_prepare_24 : decode cX3_prepare 24 = .ok (.putfield 34, 3) := by decide +kernel
theorem dX3_prepare_27 : decode cX3_prepare 27 = .ok (.aload_n 0, 1) := by decide +kernel
theorem dX3_prepare_28 : decode cX3_prepare 28 = .ok (.aload_n 1, 1) := by decide +kernel
theorem dX3_prepare_29 : decode cX3_prepare 29 = .ok (.getfield 31, 3) := by decide +kernel
theorem dX3_prepare_32 : decode cX3_prepare 32 = .ok (.iconst 2, 1) := by decide +kernel
theorem dX3_prepare_33 : decode cX3_prepare 33 = .ok (.iaload, 1) := by decide +kernel
theorem dX3_prepare_34 : decode cX3_prepare 34 = .ok (.putfield 37, 3) := by decide +kernel
theorem dX3_prepare_37 : decode cX3_prepare 37 = .ok (.iconst 0, 1) := by decide +kernel
theorem dX3_prepare_38 : decode cX3_prepare 38 = .ok (.istore_n 2, 1) := by decide +kernel
theorem dX3_prepare_39 : decode cX3_prepare 39 = .ok (.iload_n 2, 1) := by decide +kernel
theorem dX3_prepare_40 : decode cX3_prepare 40 = .ok (.sipush 720, 3) := by decide +kernel
theorem dX3_prepare_43 : decode cX3_prepare 43 = .ok (.if_icmp .ge 20, 3) := by decide +kernel
theorem dX3_prepare_46 : decode cX3_prepare 46 = .ok (.aload_n 0, 1) := by decide +kernel
theorem dX3_prepare_47 : decode cX3_prepare 47 = .ok (.getfield 9, 3) := by decide +kernel
theorem dX3_prepare_50 : decode cX3_prepare 50 = .ok (.iload_n 2, 1) := by decide +kernel
theorem dX3_prepare_51 : decode cX3_prepare 51 = .ok (.aload_n 1, 1) := by decide +kernel
theorem dX3_prepare_52 : decode cX3_prepare 52 = .ok (.iload_n 2, 1) := by decide +kernel
theorem dX3_prepare_53 : decode cX3_prepare 53 = .ok (.invokevirtual 40, 3) := by decide +kernel
theorem dX3_prepare_56 : decode cX3_prepare 56 = .ok (.lastore, 1) := by decide +kernel
theorem dX3_prepare_57 : decode cX3_prepare 57 = .ok (.iinc 2 1, 3) := by decide +kernel
theorem dX3_prepare_60 : decode cX3_prepare 60 = .ok (.goto (-21), 3) := by decide +kernel
theorem dX3_prepare_63 : decode cX3_prepare 63 = .ok (.iconst 0, 1) := by decide +kernel
theorem dX3_prepare_64 : decode cX3_prepare 64 = .ok (.istore_n 2, 1) := by decide +kernel
theorem dX3_prepare_65 : decode cX3_prepare 65 = .ok (.iload_n 2, 1) := by decide +kernel
theorem dX3_prepare_66 : decode cX3_prepare 66 = .ok (.sipush 720, 3) := by decide +kernel
theorem dX3_prepare_69 : decode cX3_prepare 69 = .ok (.if_icmp .ge 72, 3) := by decide +kernel
theorem dX3_prepare_72 : decode cX3_prepare 72 = .ok (.aload_n 0, 1) := by decide +kernel
theorem dX3_prepare_73 : decode cX3_prepare 73 = .ok (.getfield 15, 3) := by decide +kernel
theorem dX3_prepare_76 : decode cX3_prepare 76 = .ok (.iload_n 2, 1) := by decide +kernel
theorem dX3_prepare_77 : decode cX3_prepare 77 = .ok (.aload_n 0, 1) := by decide +kernel
theorem dX3_prepare_78 : decode cX3_prepare 78 = .ok (.getfield 9, 3) := by decide +kernel
theorem dX3_prepare_81 : decode cX3_prepare 81 = .ok (.iload_n 2, 1) := by decide +kernel
theorem dX3_prepare_82 : decode cX3_prepare 82 = .ok (.laload, 1) := by decide +kernel
theorem dX3_prepare_83 : decode cX3_prepare 83 = .ok (.invokestatic 44, 3) := by decide +kernel
theorem dX3_prepare_86 : decode cX3_prepare 86 = .ok (.aload_n 1, 1) := by decide +kernel
theorem dX3_prepare_87 : decode cX3_prepare 87 = .ok (.getfield 48, 3) := by decide +kernel
theorem dX3_prepare_90 : decode cX3_prepare 90 = .ok (.iconst 0, 1) := by decide +kernel
theorem dX3_prepare_91 : decode cX3_prepare 91 = .ok (.laload, 1) := by decide +kernel
theorem dX3_prepare_92 : decode cX3_prepare 92 = .ok (.land, 1) := by decide +kernel
theorem dX3_prepare_93 : decode cX3_prepare 93 = .ok (.invokestatic 51, 3) := by decide +kernel
theorem dX3_prepare_96 : decode cX3_prepare 96 = .ok (.iastore, 1) := by decide +kernel
theorem dX3_prepare_97 : decode cX3_prepare 97 = .ok (.aload_n 0, 1) := by decide +kernel
theorem dX3_prepare_98 : decode cX3_prepare 98 = .ok (.getfield 28, 3) := by decide +kernel
theorem dX3_prepare_101 : decode cX3_prepare 101 = .ok (.ifCond .eq 34, 3) := by decide +kernel
theorem dX3_prepare_104 : decode cX3_prepare 104 = .ok (.aload_n 0, 1) := by decide +kernel
theorem dX3_prepare_105 : decode cX3_prepare 105 = .ok (.getfield 15, 3) := by decide +kernel
theorem dX3_prepare_108 : decode cX3_prepare 108 = .ok (.iload_n 2, 1) := by decide +kernel
theorem dX3_prepare_109 : decode cX3_prepare 109 = .ok (.dup2, 1) := by decide +kernel
theorem dX3_prepare_110 : decode cX3_prepare 110 = .ok (.iaload, 1) := by decide +kernel
theorem dX3_prepare_111 : decode cX3_prepare 111 = .ok (.aload_n 0, 1) := by decide +kernel
theorem dX3_prepare_112 : decode cX3_prepare 112 = .ok (.getfield 9, 3) := by decide +kernel
theorem dX3_prepare_115 : decode cX3_prepare 115 = .ok (.iload_n 2, 1) := by decide +kernel
theorem dX3_prepare_116 : decode cX3_prepare 116 = .ok (.invokestatic 57, 3) := by decide +kernel
theorem dX3_prepare_119 : decode cX3_prepare 119 = .ok (.laload, 1) := by decide +kernel
theorem dX3_prepare_120 : decode cX3_prepare 120 = .ok (.invokestatic 44, 3) := by decide +kernel
theorem dX3_prepare_123 : decode cX3_prepare 123 = .ok (.aload_n 1, 1) := by decide +kernel
theorem dX3_prepare_124 : decode cX3_prepare 124 = .ok (.getfield 48, 3) := by decide +kernel
theorem dX3_prepare_127 : decode cX3_prepare 127 = .ok (.iconst 1, 1) := by decide +kernel
theorem dX3_prepare_128 : decode cX3_prepare 128 = .ok (.laload, 1) := by decide +kernel
theorem dX3_prepare_129 : decode cX3_prepare 129 = .ok (.land, 1) := by decide +kernel
theorem dX3_prepare_130 : decode cX3_prepare 130 = .ok (.invokestatic 51, 3) := by decide +kernel
theorem dX3_prepare_133 : decode cX3_prepare 133 = .ok (.iadd, 1) := by decide +kernel
theorem dX3_prepare_134 : decode cX3_prepare 134 = .ok (.iastore, 1) := by decide +kernel
theorem dX3_prepare_135 : decode cX3_prepare 135 = .ok (.iinc 2 1, 3) := by decide +kernel
theorem dX3_prepare_138 : decode cX3_prepare 138 = .ok (.goto (-73), 3) := by decide +kernel
theorem dX3_prepare_141 : decode cX3_prepare 141 = .ok (.return_, 1) := by decide +kernel
theorem dX3_start_0 : decode cX3_start 0 = .ok (.aload_n 0, 1) := by decide +kernel
theorem dX3_start_1 : decode cX3_start 1 = .ok (.iload_n 2, 1) := by decide +kernel
theorem dX3_start_2 : decode cX3_start 2 = .ok (.putfield 61, 3) := by decide +kernel
theorem dX3_start_5 : decode cX3_start 5 = .ok (.aload_n 0, 1) := by decide +kernel
theorem dX3_start_6 : decode cX3_start 6 = .ok (.aload_n 1, 1) := by decide +kernel
theorem dX3_start_7 : decode cX3_start 7 = .ok (.getfield 64, 3) := by decide +kernel
theorem dX3_start_10 : decode cX3_start 10 = .ok (.putfield 67, 3) := by decide +kernel
theorem dX3_start_13 : decode cX3_start 13 = .ok (.aload_n 0, 1) := by decide +kernel
theorem dX3_start_14 : decode cX3_start 14 = .ok (.aload_n 1, 1) := by decide +kernel
theorem dX3_start_15 : decode cX3_start 15 = .ok (.getfield 68, 3) := by decide +kernel
theorem dX3_start_18 : decode cX3_start 18 = .ok (.putfield 71, 3) := by decide +kernel
theorem dX3_start_21 : decode cX3_start 21 = .ok (.aload_n 0, 1) := by decide +kernel
theorem dX3_start_22 : decode cX3_start 22 = .ok (.aload_n 1, 1) := by decide +kernel
theorem dX3_start_23 : decode cX3_start 23 = .ok (.getfield 72, 3) := by decide +kernel
theorem dX3_start_26 : decode cX3_start 26 = .ok (.putfield 75, 3) := by decide +kernel
theorem dX3_start_29 : decode cX3_start 29 = .ok (.aload_n 0, 1) := by decide +kernel
theorem dX3_start_30 : decode cX3_start 30 = .ok (.iconst 0, 1) := by decide +kernel
theorem dX3_start_31 : decode cX3_start 31 = .ok (.putfield 76, 3) := by decide +kernel
theorem dX3_start_34 : decode cX3_start 34 = .ok (.iconst 0, 1) := by decide +kernel
theorem dX3_start_35 : decode cX3_start 35 = .ok (.istore_n 3, 1) := by decide +kernel
theorem dX3_start_36 : decode cX3_start 36 = .ok (.iload_n 3, 1) := by decide +kernel
theorem dX3_start_37 : decode cX3_start 37 = .ok (.sipush 720, 3) := by decide +kernel
theorem dX3_start_40 : decode cX3_start 40 = .ok (.if_icmp .ge 16, 3) := by decide +kernel
theorem dX3_start_43 : decode cX3_start 43 = .ok (.aload_n 0, 1) := by decide +kernel
theorem dX3_start_44 : decode cX3_start 44 = .ok (.getfield 19, 3) := by decide +kernel
theorem dX3_start_47 : decode cX3_start 47 = .ok (.iload_n 3, 1) := by decide +kernel
theorem dX3_start_48 : decode cX3_start 48 = .ok (.iconst 0, 1) := by decide +kernel
theorem dX3_start_49 : decode cX3_start 49 = .ok (.iastore, 1) := by decide +kernel
theorem dX3_start_50 : decode cX3_start 50 = .ok (.iinc 3 1, 3) := by decide +kernel
theorem dX3_start_53 : decode cX3_start 53 = .ok (.goto (-17), 3) := by decide +kernel
theorem dX3_start_56 : decode cX3_start 56 = .ok (.return_, 1) := by decide +kernel
set_option maxRecDepth 20000 in
theorem ggX3_goOn_X3_changeSpeed : GoodIn wsX3_goOn wsX3_changeSpeed := goodIn_r _ [6, 7, 8, 9, 10, 11, 12, 13, 14, 15, 16, 17, 18, 33, 34, 35, 36, 37, 38, 39, 40, 41, 42, 43] (by decide +kernel) (by decide +kernel)
set_option maxRecDepth 20000 in
theorem gX3_goOn_X3_changeSpeed : GoodIn wsX3_goOn (wsV RX3 79 RX3 yX3_changeSpeed wsX3_changeSpeed) := goodIn_app (goodIn_of _ (by decide +kernel)) ggX3_goOn_X3_changeSpeed
set_option maxRecDepth 20000 in
theorem ggX3_goOn_X3_turn : GoodIn wsX3_goOn wsX3_turn := goodIn_r _ [22, 10, 7, 23, 24, 14, 25, 26, 27, 1, 28, 29, 30, 31, 32, 33, 34, 35, 36, 37, 38, 39, 40, 41, 42, 43] (by decide +kernel) (by decide +kernel)
set_option maxRecDepth 20000 in
theorem gX3_goOn_X3_turn : GoodIn wsX3_goOn (wsV RX3 82 RX3 yX3_turn wsX3_turn) := goodIn_app (goodIn_of _ (by decide +kernel)) ggX3_goOn_X3_turn
theorem dX3_goOn_0 : decode cX3_goOn 0 = .ok (.iconst 0, 1) := by decide +kernel
theorem dX3_goOn_1 : decode cX3_goOn 1 = .ok (.istore_n 2, 1) := by decide +kernel
theorem dX3_goOn_2 : decode cX3_goOn 2 = .ok (.iload_n 2, 1) := by decide +kernel
theorem dX3_goOn_3 : decode cX3_goOn 3 = .ok (.iload_n 1, 1) := by decide +kernel
theorem dX3_goOn_4 : decode cX3_goOn 4 = .ok (.if_icmp .ge 27, 3) := by decide +kernel
theorem dX3_goOn_7 : decode cX3_goOn 7 = .ok (.aload_n 0, 1) := by decide +kernel
theorem dX3_goOn_8 : decode cX3_goOn 8 = .ok (.dup, 1) := by decide +kernel
theorem dX3_goOn_9 : decode cX3_goOn 9 = .ok (.getfield 76, 3) := by decide +kernel
theorem dX3_goOn_12 : decode cX3_goOn 12 = .ok (.iconst 1, 1) := by decide +kernel
theorem dX3_goOn_13 : decode cX3_goOn 13 = .ok (.iadd, 1) := by decide +kernel
theorem dX3_goOn_14 : decode cX3_goOn 14 = .ok (.putfield 76, 3) := by decide +kernel
theorem dX3_goOn_17 : decode cX3_goOn 17 = .ok (.aload_n 0, 1) := by decide +kernel
theorem dX3_goOn_18 : decode cX3_goOn 18 = .ok (.invokevirtual 79, 3) := by decide +kernel
theorem dX3_goOn_21 : decode cX3_goOn 21 = .ok (.aload_n 0, 1) := by decide +kernel
theorem dX3_goOn_22 : decode cX3_goOn 22 = .ok (.invokevirtual 82, 3) := by decide +kernel
theorem dX3_goOn_25 : decode cX3_goOn 25 = .ok (.iinc 2 1, 3) := by decide +kernel
theorem dX3_goOn_28 : decode cX3_goOn 28 = .ok (.goto (-26), 3) := by decide +kernel
theorem dX3_goOn_31 : decode cX3_goOn 31 = .ok (.return_, 1) := by decide +kernel
theorem dX3_changeSpeed_0 : decode cX3_changeSpeed 0 = .ok (.aload_n 0, 1) := by decide +kernel
theorem dX3_changeSpeed_1 : decode cX3_changeSpeed 1 = .ok (.getfield 75, 3) := by decide +kernel
theorem dX3_changeSpeed_4 : decode cX3_changeSpeed 4 = .ok (.aload_n 0, 1) := by decide +kernel
theorem dX3_changeSpeed_5 : decode cX3_changeSpeed 5 = .ok (.getfield 37, 3) := by decide +kernel
theorem dX3_changeSpeed_8 : decode cX3_changeSpeed 8 = .ok (.if_icmp .le 12, 3) := by decide +kernel
theorem dX3_changeSpeed_11 : decode cX3_changeSpeed 11 = .ok (.aload_n 0, 1) := by decide +kernel
theorem dX3_changeSpeed_12 : decode cX3_changeSpeed 12 = .ok (.getfield 34, 3) := by decide +kernel
theorem dX3_changeSpeed_15 : decode cX3_changeSpeed 15 = .ok (.iconst 2, 1) := by decide +kernel
theorem dX3_changeSpeed_16 : decode cX3_changeSpeed 16 = .ok (.idiv, 1) := by decide +kernel
theorem dX3_changeSpeed_17 : decode cX3_changeSpeed 17 = .ok (.goto 7, 3) := by decide +kernel
theorem dX3_changeSpeed_20 : decode cX3_changeSpeed 20 = .ok (.aload_n 0, 1) := by decide +kernel
theorem dX3_changeSpeed_21 : decode cX3_changeSpeed 21 = .ok (.getfield 34, 3) := by decide +kernel
theorem dX3_changeSpeed_24 : decode cX3_changeSpeed 24 = .ok (.istore_n 1, 1) := by decide +kernel
theorem dX3_changeSpeed_25 : decode cX3_changeSpeed 25 = .ok (.aload_n 0, 1) := by decide +kernel
theorem dX3_changeSpeed_26 : decode cX3_changeSpeed 26 = .ok (.dup, 1) := by decide +kernel
theorem dX3_changeSpeed_27 : decode cX3_changeSpeed 27 = .ok (.getfield 71, 3) := by decide +kernel
theorem dX3_changeSpeed_30 : decode cX3_changeSpeed 30 = .ok (.iload_n 1, 1) := by decide +kernel
theorem dX3_changeSpeed_31 : decode cX3_changeSpeed 31 = .ok (.ineg, 1) := by decide +kernel
theorem dX3_changeSpeed_32 : decode cX3_changeSpeed 32 = .ok (.iload_n 1, 1) := by decide +kernel
theorem dX3_changeSpeed_33 : decode cX3_changeSpeed 33 = .ok (.aload_n 0, 1) := by decide +kernel
theorem dX3_changeSpeed_34 : decode cX3_changeSpeed 34 = .ok (.getfield 61, 3) := by decide +kernel
theorem dX3_changeSpeed_37 : decode cX3_changeSpeed 37 = .ok (.aload_n 0, 1) := by decide +kernel
theorem dX3_changeSpeed_38 : decode cX3_changeSpeed 38 = .ok (.getfield 71, 3) := by decide +kernel
theorem dX3_changeSpeed_41 : decode cX3_changeSpeed 41 = .ok (.isub, 1) := by decide +kernel
theorem dX3_changeSpeed_42 : decode cX3_changeSpeed 42 = .ok (.invokestatic 85, 3) := by decide +kernel
theorem dX3_changeSpeed_45 : decode cX3_changeSpeed 45 = .ok (.invokestatic 91, 3) := by decide +kernel
theorem dX3_changeSpeed_48 : decode cX3_changeSpeed 48 = .ok (.iadd, 1) := by decide +kernel
theorem dX3_changeSpeed_49 : decode cX3_changeSpeed 49 = .ok (.putfield 71, 3) := by decide +kernel
theorem dX3_changeSpeed_52 : decode cX3_changeSpeed 52 = .ok (.return_, 1) := by decide +kernel
set_option maxRecDepth 20000 in
theorem ggX3_turn_J9_floorMod_7cf53 : GoodIn wsX3_turn wsJ9_floorMod_7cf53 := goodIn_r _ [14] (by decide +kernel) (by decide +kernel)
set_option maxRecDepth 20000 in
theorem gX3_turn_J9_floorMod_7cf53 : GoodIn wsX3_turn (va_wsS RX3 97 yJ9_floorMod_7cf53 wsJ9_floorMod_7cf53) := goodIn_app (goodIn_of _ (by decide +kernel)) ggX3_turn_J9_floorMod_7cf53
theorem dX3_turn_0 : decode cX3_turn 0 = .ok (.aload_n 0, 1) := by decide +kernel
theorem dX3_turn_1 : decode cX3_turn 1 = .ok (.getfield 71, 3) := by decide +kernel
theorem dX3_turn_4 : decode cX3_turn 4 = .ok (.ifCond .le 7, 3) := by decide +kernel
theorem dX3_turn_7 : decode cX3_turn 7 = .ok (.iconst 1, 1) := by decide +kernel
theorem dX3_turn_8 : decode cX3_turn 8 = .ok (.goto 4, 3) := by decide +kernel
theorem dX3_turn_11 : decode cX3_turn 11 = .ok (.iconst (-1), 1) := by decide +kernel
theorem dX3_turn_12 : decode cX3_turn 12 = .ok (.istore_n 1, 1) := by decide +kernel
theorem dX3_turn_13 : decode cX3_turn 13 = .ok (.aload_n 0, 1) := by decide +kernel
theorem dX3_turn_14 : decode cX3_turn 14 = .ok (.iconst 0, 1) := by decide +kernel
theorem dX3_turn_15 : decode cX3_turn 15 = .ok (.putfield 75, 3) := by decide +kernel
theorem dX3_turn_18 : decode cX3_turn 18 = .ok (.aload_n 0, 1) := by decide +kernel
theorem dX3_turn_19 : decode cX3_turn 19 = .ok (.getfield 71, 3) := by decide +kernel
theorem dX3_turn_22 : decode cX3_turn 22 = .ok (.invokestatic 94, 3) := by decide +kernel
theorem dX3_turn_25 : decode cX3_turn 25 = .ok (.istore_n 2, 1) := by decide +kernel
theorem dX3_turn_26 : decode cX3_turn 26 = .ok (.iload_n 2, 1) := by decide +kernel
theorem dX3_turn_27 : decode cX3_turn 27 = .ok (.ifCond .le 56, 3) := by decide +kernel
theorem dX3_turn_30 : decode cX3_turn 30 = .ok (.aload_n 0, 1) := by decide +kernel
theorem dX3_turn_31 : decode cX3_turn 31 = .ok (.aload_n 0, 1) := by decide +kernel
theorem dX3_turn_32 : decode cX3_turn 32 = .ok (.getfield 67, 3) := by decide +kernel
theorem dX3_turn_35 : decode cX3_turn 35 = .ok (.iload_n 1, 1) := by decide +kernel
theorem dX3_turn_36 : decode cX3_turn 36 = .ok (.iadd, 1) := by decide +kernel
theorem dX3_turn_37 : decode cX3_turn 37 = .ok (.sipush 720, 3) := by decide +kernel
theorem dX3_turn_40 : decode cX3_turn 40 = .ok (.invokestatic 97, 3) := by decide +kernel
theorem dX3_turn_43 : decode cX3_turn 43 = .ok (.putfield 67, 3) := by decide +kernel
theorem dX3_turn_46 : decode cX3_turn 46 = .ok (.aload_n 0, 1) := by decide +kernel
theorem dX3_turn_47 : decode cX3_turn 47 = .ok (.getfield 19, 3) := by decide +kernel
theorem dX3_turn_50 : decode cX3_turn 50 = .ok (.aload_n 0, 1) := by decide +kernel
theorem dX3_turn_51 : decode cX3_turn 51 = .ok (.getfield 67, 3) := by decide +kernel
theorem dX3_turn_54 : decode cX3_turn 54 = .ok (.aload_n 0, 1) := by decide +kernel
theorem dX3_turn_55 : decode cX3_turn 55 = .ok (.getfield 76, 3) := by decide +kernel
theorem dX3_turn_58 : decode cX3_turn 58 = .ok (.iastore, 1) := by decide +kernel
theorem dX3_turn_59 : decode cX3_turn 59 = .ok (.aload_n 0, 1) := by decide +kernel
theorem dX3_turn_60 : decode cX3_turn 60 = .ok (.dup, 1) := by decide +kernel
theorem dX3_turn_61 : decode cX3_turn 61 = .ok (.getfield 75, 3) := by decide +kernel
theorem dX3_turn_64 : decode cX3_turn 64 = .ok (.aload_n 0, 1) := by decide +kernel
theorem dX3_turn_65 : decode cX3_turn 65 = .ok (.getfield 15, 3) := by decide +kernel
theorem dX3_turn_68 : decode cX3_turn 68 = .ok (.aload_n 0, 1) := by decide +kernel
theorem dX3_turn_69 : decode cX3_turn 69 = .ok (.getfield 67, 3) := by decide +kernel
theorem dX3_turn_72 : decode cX3_turn 72 = .ok (.iaload, 1) := by decide +kernel
theorem dX3_turn_73 : decode cX3_turn 73 = .ok (.iadd, 1) := by decide +kernel
theorem dX3_turn_74 : decode cX3_turn 74 = .ok (.putfield 75, 3) := by decide +kernel
theorem dX3_turn_77 : decode cX3_turn 77 = .ok (.iinc 2 (-1), 3) := by decide +kernel
theorem dX3_turn_80 : decode cX3_turn 80 = .ok (.goto (-54), 3) := by decide +kernel
theorem dX3_turn_83 : decode cX3_turn 83 = .ok (.return_, 1) := by decide +kernel
theorem dX3_firstArmAt_0 : decode cX3_firstArmAt 0 = .ok (.aload_n 0, 1) := by decide +kernel
theorem dX3_firstArmAt_1 : decode cX3_firstArmAt 1 = .ok (.getfield 19, 3) := by decide +kernel
theorem dX3_firstArmAt_4 : decode cX3_firstArmAt 4 = .ok (.iload_n 1, 1) := by decide +kernel
theorem dX3_firstArmAt_5 : decode cX3_firstArmAt 5 = .ok (.iaload, 1) := by decide +kernel
theorem dX3_firstArmAt_6 : decode cX3_firstArmAt 6 = .ok (.ireturn, 1) := by decide +kernel
set_option maxRecDepth 20000 in
theorem ggX3_secondArmAt_X3_opposite : GoodIn wsX3_secondArmAt wsX3_opposite := goodIn_r _ [6] (by decide +kernel) (by decide +kernel)
set_option maxRecDepth 20000 in
theorem gX3_secondArmAt_X3_opposite : GoodIn wsX3_secondArmAt (va_wsS RX3 57 yX3_opposite wsX3_opposite) := goodIn_app (goodIn_of _ (by decide +kernel)) ggX3_secondArmAt_X3_opposite
theorem dX3_secondArmAt_0 : decode cX3_secondArmAt 0 = .ok (.aload_n 0, 1) := by decide +kernel
theorem dX3_secondArmAt_1 : decode cX3_secondArmAt 1 = .ok (.getfield 28, 3) := by decide +kernel
theorem dX3_secondArmAt_4 : decode cX3_secondArmAt 4 = .ok (.ifCond .eq 15, 3) := by decide +kernel
theorem dX3_secondArmAt_7 : decode cX3_secondArmAt 7 = .ok (.aload_n 0, 1) := by decide +kernel
theorem dX3_secondArmAt_8 : decode cX3_secondArmAt 8 = .ok (.getfield 19, 3) := by decide +kernel
theorem dX3_secondArmAt_11 : decode cX3_secondArmAt 11 = .ok (.iload_n 1, 1) := by decide +kernel
theorem dX3_secondArmAt_12 : decode cX3_secondArmAt 12 = .ok (.invokestatic 57, 3) := by decide +kernel
theorem dX3_secondArmAt_15 : decode cX3_secondArmAt 15 = .ok (.iaload, 1) := by decide +kernel
theorem dX3_secondArmAt_16 : decode cX3_secondArmAt 16 = .ok (.goto 4, 3) := by decide +kernel
theorem dX3_secondArmAt_19 : decode cX3_secondArmAt 19 = .ok (.iconst 0, 1) := by decide +kernel
theorem dX3_secondArmAt_20 : decode cX3_secondArmAt 20 = .ok (.ireturn, 1) := by decide +kernel
theorem dX3_opposite_0 : decode cX3_opposite 0 = .ok (.iload_n 0, 1) := by decide +kernel
theorem dX3_opposite_1 : decode cX3_opposite 1 = .ok (.sipush 360, 3) := by decide +kernel
theorem dX3_opposite_4 : decode cX3_opposite 4 = .ok (.iadd, 1) := by decide +kernel
theorem dX3_opposite_5 : decode cX3_opposite 5 = .ok (.sipush 720, 3) := by decide +kernel
theorem dX3_opposite_8 : decode cX3_opposite 8 = .ok (.irem, 1) := by decide +kernel
theorem dX3_opposite_9 : decode cX3_opposite 9 = .ok (.ireturn, 1) := by decide +kernel
set_option maxRecDepth 20000 in
theorem ggX4_init_X2_init : GoodIn wsX4_init wsX2_init := goodIn_r _ [26, 27, 2, 3, 28, 29, 30, 31, 32, 33, 34, 35, 36, 37, 22, 38, 39, 40, 41, 42, 43, 44, 45, 46, 47, 48, 49, 50, 51, 62, 63, 64, 65, 66, 67, 68, 69, 70, 71, 72, 99, 100, 101, 102, 103] (by decide +kernel) (by decide +kernel)
set_option maxRecDepth 20000 in
theorem gX4_init_X2_init : GoodIn wsX4_init (wsX2_init) := ggX4_init_X2_init
set_option maxRecDepth 20000 in
theorem ggX4_init_X1_init : GoodIn wsX4_init wsX1_init := goodIn_r _ [53, 54, 2, 3, 22, 55, 82, 83, 84, 85, 86, 87] (by decide +kernel) (by decide +kernel)
set_option maxRecDepth 20000 in
theorem gX4_init_X1_init_n36 : GoodIn wsX4_init (wsX1_init) := ggX4_init_X1_init
set_option maxRecDepth 20000 in
theorem ggX4_init_X3_init : GoodIn wsX4_init wsX3_init := goodIn_r _ [57, 58, 2, 3, 22, 59, 36, 60, 61, 88, 89, 90, 91, 92, 93, 94, 95, 96, 97, 98] (by decide +kernel) (by decide +kernel)
set_option maxRecDepth 20000 in
theorem gX4_init_X3_init_n43 : GoodIn wsX4_init (wsX3_init) := ggX4_init_X3_init
theorem dX4_init_0 : decode cX4_init 0 = .ok (.aload_n 0, 1) := by decide +kernel
theorem dX4_init_1 : decode cX4_init 1 = .ok (.invokespecial 1, 3) := by decide +kernel
theorem dX4_init_4 : decode cX4_init 4 = .ok (.aload_n 0, 1) := by decide +kernel
theorem dX4_init_5 : decode cX4_init 5 = .ok (.new 7, 3) := by decide +kernel
theorem dX4_init_8 : decode cX4_init 8 = .ok (.dup, 1) := by decide +kernel
theorem dX4_init_9 : decode cX4_init 9 = .ok (.invokespecial 9, 3) := by decide +kernel
theorem dX4_init_12 : decode cX4_init 12 = .ok (.putfield 10, 3) := by decide +kernel
theorem dX4_init_15 : decode cX4_init 15 = .ok (.aload_n 0, 1) := by decide +kernel
theorem dX4_init_16 : decode cX4_init 16 = .ok (.iconst 5, 1) := by decide +kernel
theorem dX4_init_17 : decode cX4_init 17 = .ok (.anewarray 7, 3) := by decide +kernel
theorem dX4_init_20 : decode cX4_init 20 = .ok (.putfield 16, 3) := by decide +kernel
theorem dX4_init_23 : decode cX4_init 23 = .ok (.aload_n 0, 1) := by decide +kernel
theorem dX4_init_24 : decode cX4_init 24 = .ok (.iconst 0, 1) := by decide +kernel
theorem dX4_init_25 : decode cX4_init 25 = .ok (.putfield 20, 3) := by decide +kernel
theorem dX4_init_28 : decode cX4_init 28 = .ok (.aload_n 0, 1) := by decide +kernel
theorem dX4_init_29 : decode cX4_init 29 = .ok (.iconst 0, 1) := by decide +kernel
theorem dX4_init_30 : decode cX4_init 30 = .ok (.putfield 24, 3) := by decide +kernel
theorem dX4_init_33 : decode cX4_init 33 = .ok (.aload_n 0, 1) := by decide +kernel
theorem dX4_init_34 : decode cX4_init 34 = .ok (.sipush 160, 3) := by decide +kernel
theorem dX4_init_37 : decode cX4_init 37 = .ok (.newarray .char, 2) := by decide +kernel
theorem dX4_init_39 : decode cX4_init 39 = .ok (.putfield 27, 3) := by decide +kernel
theorem dX4_init_42 : decode cX4_init 42 = .ok (.aload_n 0, 1) := by decide +kernel
theorem dX4_init_43 : decode cX4_init 43 = .ok (.iconst 0, 1) := by decide +kernel
theorem dX4_init_44 : decode cX4_init 44 = .ok (.putfield 31, 3) := by decide +kernel
theorem dX4_init_47 : decode cX4_init 47 = .ok (.aload_n 0, 1) := by decide +kernel
theorem dX4_init_48 : decode cX4_init 48 = .ok (.new 34, 3) := by decide +kernel
theorem dX4_init_51 : decode cX4_init 51 = .ok (.dup, 1) := by decide +kernel
theorem dX4_init_52 : decode cX4_init 52 = .ok (.invokespecial 36, 3) := by decide +kernel
theorem dX4_init_55 : decode cX4_init 55 = .ok (.putfield 37, 3) := by decide +kernel
theorem dX4_init_58 : decode cX4_init 58 = .ok (.aload_n 0, 1) := by decide +kernel
theorem dX4_init_59 : decode cX4_init 59 = .ok (.new 41, 3) := by decide +kernel
theorem dX4_init_62 : decode cX4_init 62 = .ok (.dup, 1) := by decide +kernel
theorem dX4_init_63 : decode cX4_init 63 = .ok (.invokespecial 43, 3) := by decide +kernel
theorem dX4_init_66 : decode cX4_init 66 = .ok (.putfield 44, 3) := by decide +kernel
theorem dX4_init_69 : decode cX4_init 69 = .ok (.aload_n 0, 1) := by decide +kernel
theorem dX4_init_70 : decode cX4_init 70 = .ok (.sipush 720, 3) := by decide +kernel
theorem dX4_init_73 : decode cX4_init 73 = .ok (.newarray .long, 2) := by decide +kernel
theorem dX4_init_75 : decode cX4_init 75 = .ok (.putfield 48, 3) := by decide +kernel
theorem dX4_init_78 : decode cX4_init 78 = .ok (.iconst 0, 1) := by decide +kernel
theorem dX4_init_79 : decode cX4_init 79 = .ok (.istore_n 1, 1) := by decide +kernel
theorem dX4_init_80 : decode cX4_init 80 = .ok (.iload_n 1, 1) := by decide +kernel
theorem dX4_init_81 : decode cX4_init 81 = .ok (.iconst 5, 1) := by decide +kernel
theorem dX4_init_82 : decode cX4_init 82 = .ok (.if_icmp .ge 22, 3) := by decide +kernel
theorem dX4_init_85 : decode cX4_init 85 = .ok (.aload_n 0, 1) := by decide +kernel
theorem dX4_init_86 : decode cX4_init 86 = .ok (.getfield 16, 3) := by decide +kernel
theorem dX4_init_89 : decode cX4_init 89 = .ok (.iload_n 1, 1) := by decide +kernel
theorem dX4_init_90 : decode cX4_init 90 = .ok (.new 7, 3) := by decide +kernel
theorem dX4_init_93 : decode cX4_init 93 = .ok (.dup, 1) := by decide +kernel
theorem dX4_init_94 : decode cX4_init 94 = .ok (.invokespecial 9, 3) := by decide +kernel
theorem dX4_init_97 : decode cX4_init 97 = .ok (.aastore, 1) := by decide +kernel
theorem dX4_init_98 : decode cX4_init 98 = .ok (.iinc 1 1, 3) := by decide +kernel
theorem dX4_init_101 : decode cX4_init 101 = .ok (.goto (-21), 3) := by decide +kernel
theorem dX4_init_104 : decode cX4_init 104 = .ok (.return_, 1) := by decide +kernel
set_option maxRecDepth 20000 in
theorem ggX4_addPicture_X4_within : GoodIn wsX4_addPicture wsX4_within := goodIn_r _ [8] (by decide +kernel) (by decide +kernel)
set_option maxRecDepth 20000 in
theorem gX4_addPicture_X4_within : GoodIn wsX4_addPicture (va_wsS RX4 52 yX4_within wsX4_within) := goodIn_app (goodIn_of _ (by decide +kernel)) ggX4_addPicture_X4_within
set_option maxRecDepth 20000 in
theorem ggX4_addPicture_X4_record : GoodIn wsX4_addPicture wsX4_record := goodIn_r _ [12, 13, 14, 15, 1, 16, 17, 18, 19, 20, 21, 22, 23, 24, 25, 26, 27, 28, 29, 30, 31, 32, 33, 34, 35, 36, 37, 38, 39, 40, 41, 42, 43, 44, 45, 46, 47, 48, 49, 50, 51, 52, 53, 54, 55, 56, 57, 58, 59, 60, 61, 62, 63, 64, 65, 66, 67, 68, 69, 70, 71] (by decide +kernel) (by decide +kernel)
set_option maxRecDepth 20000 in
theorem gX4_addPicture_X4_record : GoodIn wsX4_addPicture (wsV RX4 59 RX4 yX4_record wsX4_record) := goodIn_app (goodIn_of _ (by decide +kernel)) ggX4_addPicture_X4_record
theorem dX4_addPicture_0 : decode cX4_addPicture 0 = .ok (.iload_n 1, 1) := by decide +kernel
theorem dX4_addPicture_1 : decode cX4_addPicture 1 = .ok (.iconst 1, 1) := by decide +kernel
theorem dX4_addPicture_2 : decode cX4_addPicture 2 = .ok (.bipush 40, 2) := by decide +kernel
theorem dX4_addPicture_4 : decode cX4_addPicture 4 = .ok (.invokestatic 52, 3) := by decide +kernel
theorem dX4_addPicture_7 : decode cX4_addPicture 7 = .ok (.ifCond .ne 6, 3) := by decide +kernel
theorem dX4_addPicture_10 : decode cX4_addPicture 10 = .ok (.bipush (-101), 2) := by decide +kernel
theorem dX4_addPicture_12 : decode cX4_addPicture 12 = .ok (.ireturn, 1) := by decide +kernel
theorem dX4_addPicture_13 : decode cX4_addPicture 13 = .ok (.aload_n 0, 1) := by decide +kernel
theorem dX4_addPicture_14 : decode cX4_addPicture 14 = .ok (.getfield 10, 3) := by decide +kernel
theorem dX4_addPicture_17 : decode cX4_addPicture 17 = .ok (.getfield 56, 3) := by decide +kernel
theorem dX4_addPicture_20 : decode cX4_addPicture 20 = .ok (.iconst 4, 1) := by decide +kernel
theorem dX4_addPicture_21 : decode cX4_addPicture 21 = .ok (.if_icmp .lt 6, 3) := by decide +kernel
theorem dX4_addPicture_24 : decode cX4_addPicture 24 = .ok (.bipush (-103), 2) := by decide +kernel
theorem dX4_addPicture_26 : decode cX4_addPicture 26 = .ok (.ireturn, 1) := by decide +kernel
theorem dX4_addPicture_27 : decode cX4_addPicture 27 = .ok (.aload_n 0, 1) := by decide +kernel
theorem dX4_addPicture_28 : decode cX4_addPicture 28 = .ok (.invokevirtual 59, 3) := by decide +kernel
theorem dX4_addPicture_31 : decode cX4_addPicture 31 = .ok (.aload_n 0, 1) := by decide +kernel
theorem dX4_addPicture_32 : decode cX4_addPicture 32 = .ok (.getfield 10, 3) := by decide +kernel
theorem dX4_addPicture_35 : decode cX4_addPicture 35 = .ok (.getfield 56, 3) := by decide +kernel
theorem dX4_addPicture_38 : decode cX4_addPicture 38 = .ok (.istore_n 2, 1) := by decide +kernel
theorem dX4_addPicture_39 : decode cX4_addPicture 39 = .ok (.aload_n 0, 1) := by decide +kernel
theorem dX4_addPicture_40 : decode cX4_addPicture 40 = .ok (.getfield 10, 3) := by decide +kernel
theorem dX4_addPicture_43 : decode cX4_addPicture 43 = .ok (.getfield 62, 3) := by decide +kernel
theorem dX4_addPicture_46 : decode cX4_addPicture 46 = .ok (.iload_n 2, 1) := by decide +kernel
theorem dX4_addPicture_47 : decode cX4_addPicture 47 = .ok (.aaload, 1) := by decide +kernel
theorem dX4_addPicture_48 : decode cX4_addPicture 48 = .ok (.iload_n 1, 1) := by decide +kernel
theorem dX4_addPicture_49 : decode cX4_addPicture 49 = .ok (.putfield 66, 3) := by decide +kernel
theorem dX4_addPicture_52 : decode cX4_addPicture 52 = .ok (.aload_n 0, 1) := by decide +kernel
theorem dX4_addPicture_53 : decode cX4_addPicture 53 = .ok (.getfield 10, 3) := by decide +kernel
theorem dX4_addPicture_56 : decode cX4_addPicture 56 = .ok (.dup, 1) := by decide +kernel
theorem dX4_addPicture_57 : decode cX4_addPicture 57 = .ok (.getfield 56, 3) := by decide +kernel
theorem dX4_addPicture_60 : decode cX4_addPicture 60 = .ok (.iconst 1, 1) := by decide +kernel
theorem dX4_addPicture_61 : decode cX4_addPicture 61 = .ok (.iadd, 1) := by decide +kernel
theorem dX4_addPicture_62 : decode cX4_addPicture 62 = .ok (.putfield 56, 3) := by decide +kernel
theorem dX4_addPicture_65 : decode cX4_addPicture 65 = .ok (.iload_n 2, 1) := by decide +kernel
theorem dX4_addPicture_66 : decode cX4_addPicture 66 = .ok (.ireturn, 1) := by decide +kernel
set_option maxRecDepth 20000 in
theorem ggX4_paint_X2_pictureNumbered : GoodIn wsX4_paint wsX2_pictureNumbered := goodIn_r _ [8, 9, 10, 11, 12, 13, 72, 73, 74, 75, 76, 77, 78, 79, 80, 81, 82] (by decide +kernel) (by decide +kernel)
set_option maxRecDepth 20000 in
theorem gX4_paint_X2_pictureNumbered : GoodIn wsX4_paint (wsV RX4 71 RX2 yX2_pictureNumbered wsX2_pictureNumbered) := goodIn_app (goodIn_of _ (by decide +kernel)) ggX4_paint_X2_pictureNumbered
set_option maxRecDepth 20000 in
theorem ggX4_paint_X4_within : GoodIn wsX4_paint wsX4_within := goodIn_r _ [13] (by decide +kernel) (by decide +kernel)
set_option maxRecDepth 20000 in
theorem gX4_paint_X4_within : GoodIn wsX4_paint (va_wsS RX4 52 yX4_within wsX4_within) := goodIn_app (goodIn_of _ (by decide +kernel)) ggX4_paint_X4_within
set_option maxRecDepth 20000 in
theorem ggX4_paint_X4_record : GoodIn wsX4_paint wsX4_record := goodIn_r _ [18, 19, 20, 21, 1, 22, 23, 24, 7, 25, 9, 10, 26, 27, 28, 29, 30, 31, 32, 33, 34, 35, 36, 37, 38, 39, 40, 41, 42, 43, 44, 45, 46, 47, 48, 49, 58, 59, 60, 61, 62, 63, 64, 65, 66, 72, 73, 74, 75, 76, 77, 78, 79, 80, 81, 82, 67, 68, 69, 70, 71] (by decide +kernel) (by decide +kernel)
set_option maxRecDepth 20000 in
theorem gX4_paint_X4_record : GoodIn wsX4_paint (wsV RX4 59 RX4 yX4_record wsX4_record) := goodIn_app (goodIn_of _ (by decide +kernel)) ggX4_paint_X4_record
set_option maxRecDepth 20000 in
theorem ggX4_paint_X4_colorIn : GoodIn wsX4_paint wsX4_colorIn := goodIn_r _ [52] (by decide +kernel) (by decide +kernel)
set_option maxRecDepth 20000 in
theorem gX4_paint_X4_colorIn : GoodIn wsX4_paint (va_wsS RX4 78 yX4_colorIn wsX4_colorIn) := goodIn_app (goodIn_of _ (by decide +kernel)) ggX4_paint_X4_colorIn
set_option maxRecDepth 20000 in
theorem ggX4_paint_X4_withColor : GoodIn wsX4_paint wsX4_withColor := goodIn_r _ [55, 56, 57] (by decide +kernel) (by decide +kernel)
set_option maxRecDepth 20000 in
theorem gX4_paint_X4_withColor : GoodIn wsX4_paint (va_wsS RX4 82 yX4_withColor wsX4_withColor) := goodIn_app (goodIn_of _ (by decide +kernel)) ggX4_paint_X4_withColor
theorem dX4_paint_0 : decode cX4_paint 0 = .ok (.aload_n 0, 1) := by decide +kernel
theorem dX4_paint_1 : decode cX4_paint 1 = .ok (.getfield 10, 3) := by decide +kernel
theorem dX4_paint_4 : decode cX4_paint 4 = .ok (.iload_n 1, 1) := by decide +kernel
theorem dX4_paint_5 : decode cX4_paint 5 = .ok (.invokevirtual 71, 3) := by decide +kernel
theorem dX4_paint_8 : decode cX4_paint 8 = .ok (.astore 5, 2) := by decide +kernel
theorem dX4_paint_10 : decode cX4_paint 10 = .ok (.aload 5, 2) := by decide +kernel
theorem dX4_paint_12 : decode cX4_paint 12 = .ok (.ifnull 39, 3) := by decide +kernel
theorem dX4_paint_15 : decode cX4_paint 15 = .ok (.iload_n 2, 1) := by decide +kernel
theorem dX4_paint_16 : decode cX4_paint 16 = .ok (.iconst 0, 1) := by decide +kernel
theorem dX4_paint_17 : decode cX4_paint 17 = .ok (.aload 5, 2) := by decide +kernel
theorem dX4_paint_19 : decode cX4_paint 19 = .ok (.getfield 66, 3) := by decide +kernel
theorem dX4_paint_22 : decode cX4_paint 22 = .ok (.iconst 1, 1) := by decide +kernel
theorem dX4_paint_23 : decode cX4_paint 23 = .ok (.isub, 1) := by decide +kernel
theorem dX4_paint_24 : decode cX4_paint 24 = .ok (.invokestatic 52, 3) := by decide +kernel
theorem dX4_paint_27 : decode cX4_paint 27 = .ok (.ifCond .eq 24, 3) := by decide +kernel
theorem dX4_paint_30 : decode cX4_paint 30 = .ok (.iload_n 3, 1) := by decide +kernel
theorem dX4_paint_31 : decode cX4_paint 31 = .ok (.iconst 0, 1) := by decide +kernel
theorem dX4_paint_32 : decode cX4_paint 32 = .ok (.bipush 11, 2) := by decide +kernel
theorem dX4_paint_34 : decode cX4_paint 34 = .ok (.invokestatic 52, 3) := by decide +kernel
theorem dX4_paint_37 : decode cX4_paint 37 = .ok (.ifCond .eq 14, 3) := by decide +kernel
theorem dX4_paint_40 : decode cX4_paint 40 = .ok (.iload 4, 2) := by decide +kernel
theorem dX4_paint_42 : decode cX4_paint 42 = .ok (.iconst 0, 1) := by decide +kernel
theorem dX4_paint_43 : decode cX4_paint 43 = .ok (.bipush 7, 2) := by decide +kernel
theorem dX4_paint_45 : decode cX4_paint 45 = .ok (.invokestatic 52, 3) := by decide +kernel
theorem dX4_paint_48 : decode cX4_paint 48 = .ok (.ifCond .ne 6, 3) := by decide +kernel
theorem dX4_paint_51 : decode cX4_paint 51 = .ok (.bipush (-101), 2) := by decide +kernel
theorem dX4_paint_53 : decode cX4_paint 53 = .ok (.ireturn, 1) := by decide +kernel
theorem dX4_paint_54 : decode cX4_paint 54 = .ok (.aload_n 0, 1) := by decide +kernel
theorem dX4_paint_55 : decode cX4_paint 55 = .ok (.invokevirtual 59, 3) := by decide +kernel
theorem dX4_paint_58 : decode cX4_paint 58 = .ok (.aload 5, 2) := by decide +kernel
theorem dX4_paint_60 : decode cX4_paint 60 = .ok (.getfield 75, 3) := by decide +kernel
theorem dX4_paint_63 : decode cX4_paint 63 = .ok (.iload_n 2, 1) := by decide +kernel
theorem dX4_paint_64 : decode cX4_paint 64 = .ok (.laload, 1) := by decide +kernel
theorem dX4_paint_65 : decode cX4_paint 65 = .ok (.iload_n 3, 1) := by decide +kernel
theorem dX4_paint_66 : decode cX4_paint 66 = .ok (.invokestatic 78, 3) := by decide +kernel
theorem dX4_paint_69 : decode cX4_paint 69 = .ok (.istore 6, 2) := by decide +kernel
theorem dX4_paint_71 : decode cX4_paint 71 = .ok (.aload 5, 2) := by decide +kernel
theorem dX4_paint_73 : decode cX4_paint 73 = .ok (.getfield 75, 3) := by decide +kernel
theorem dX4_paint_76 : decode cX4_paint 76 = .ok (.iload_n 2, 1) := by decide +kernel
theorem dX4_paint_77 : decode cX4_paint 77 = .ok (.aload 5, 2) := by decide +kernel
theorem dX4_paint_79 : decode cX4_paint 79 = .ok (.getfield 75, 3) := by decide +kernel
theorem dX4_paint_82 : decode cX4_paint 82 = .ok (.iload_n 2, 1) := by decide +kernel
theorem dX4_paint_83 : decode cX4_paint 83 = .ok (.laload, 1) := by decide +kernel
theorem dX4_paint_84 : decode cX4_paint 84 = .ok (.iload_n 3, 1) := by decide +kernel
theorem dX4_paint_85 : decode cX4_paint 85 = .ok (.iload 4, 2) := by decide +kernel
theorem dX4_paint_87 : decode cX4_paint 87 = .ok (.invokestatic 82, 3) := by decide +kernel
theorem dX4_paint_90 : decode cX4_paint 90 = .ok (.lastore, 1) := by decide +kernel
theorem dX4_paint_91 : decode cX4_paint 91 = .ok (.iload 6, 2) := by decide +kernel
theorem dX4_paint_93 : decode cX4_paint 93 = .ok (.ireturn, 1) := by decide +kernel
set_option maxRecDepth 20000 in
theorem ggX4_setPlace_X2_pictureNumbered : GoodIn wsX4_setPlace wsX2_pictureNumbered := goodIn_r _ [8, 9, 10, 11, 12, 13, 64, 65, 66, 67, 68, 69, 70, 71, 72, 73, 74] (by decide +kernel) (by decide +kernel)
set_option maxRecDepth 20000 in
theorem gX4_setPlace_X2_pictureNumbered : GoodIn wsX4_setPlace (wsV RX4 71 RX2 yX2_pictureNumbered wsX2_pictureNumbered) := goodIn_app (goodIn_of _ (by decide +kernel)) ggX4_setPlace_X2_pictureNumbered
set_option maxRecDepth 20000 in
theorem ggX4_setPlace_X4_within : GoodIn wsX4_setPlace wsX4_within := goodIn_r _ [13] (by decide +kernel) (by decide +kernel)
set_option maxRecDepth 20000 in
theorem gX4_setPlace_X4_within : GoodIn wsX4_setPlace (va_wsS RX4 52 yX4_within wsX4_within) := goodIn_app (goodIn_of _ (by decide +kernel)) ggX4_setPlace_X4_within
set_option maxRecDepth 20000 in
theorem ggX4_setPlace_X4_record : GoodIn wsX4_setPlace wsX4_record := goodIn_r _ [18, 19, 20, 21, 1, 22, 23, 24, 7, 25, 9, 10, 26, 27, 28, 29, 30, 31, 32, 33, 34, 35, 36, 37, 38, 39, 40, 41, 42, 43, 44, 45, 46, 47, 48, 49, 50, 51, 52, 53, 54, 55, 56, 57, 58, 64, 65, 66, 67, 68, 69, 70, 71, 72, 73, 74, 59, 60, 61, 62, 63] (by decide +kernel) (by decide +kernel)
set_option maxRecDepth 20000 in
theorem gX4_setPlace_X4_record : GoodIn wsX4_setPlace (wsV RX4 59 RX4 yX4_record wsX4_record) := goodIn_app (goodIn_of _ (by decide +kernel)) ggX4_setPlace_X4_record
theorem dX4_setPlace_0 : decode cX4_setPlace 0 = .ok (.aload_n 0, 1) := by decide +kernel
theorem dX4_setPlace_1 : decode cX4_setPlace 1 = .ok (.getfield 10, 3) := by decide +kernel
theorem dX4_setPlace_4 : decode cX4_setPlace 4 = .ok (.iload_n 1, 1) := by decide +kernel
theorem dX4_setPlace_5 : decode cX4_setPlace 5 = .ok (.invokevirtual 71, 3) := by decide +kernel
theorem dX4_setPlace_8 : decode cX4_setPlace 8 = .ok (.astore 4, 2) := by decide +kernel
theorem dX4_setPlace_10 : decode cX4_setPlace 10 = .ok (.aload 4, 2) := by decide +kernel
theorem dX4_setPlace_12 : decode cX4_setPlace 12 = .ok (.ifnull 24, 3) := by decide +kernel
theorem dX4_setPlace_15 : decode cX4_setPlace 15 = .ok (.iload_n 2, 1) := by decide +kernel
theorem dX4_setPlace_16 : decode cX4_setPlace 16 = .ok (.iconst 0, 1) := by decide +kernel
theorem dX4_setPlace_17 : decode cX4_setPlace 17 = .ok (.sipush 719, 3) := by decide +kernel
theorem dX4_setPlace_20 : decode cX4_setPlace 20 = .ok (.invokestatic 52, 3) := by decide +kernel
theorem dX4_setPlace_23 : decode cX4_setPlace 23 = .ok (.ifCond .eq 13, 3) := by decide +kernel
theorem dX4_setPlace_26 : decode cX4_setPlace 26 = .ok (.iload_n 3, 1) := by decide +kernel
theorem dX4_setPlace_27 : decode cX4_setPlace 27 = .ok (.iconst 1, 1) := by decide +kernel
theorem dX4_setPlace_28 : decode cX4_setPlace 28 = .ok (.bipush 18, 2) := by decide +kernel
theorem dX4_setPlace_30 : decode cX4_setPlace 30 = .ok (.invokestatic 52, 3) := by decide +kernel
theorem dX4_setPlace_33 : decode cX4_setPlace 33 = .ok (.ifCond .ne 6, 3) := by decide +kernel
theorem dX4_setPlace_36 : decode cX4_setPlace 36 = .ok (.bipush (-101), 2) := by decide +kernel
theorem dX4_setPlace_38 : decode cX4_setPlace 38 = .ok (.ireturn, 1) := by decide +kernel
theorem dX4_setPlace_39 : decode cX4_setPlace 39 = .ok (.aload_n 0, 1) := by decide +kernel
theorem dX4_setPlace_40 : decode cX4_setPlace 40 = .ok (.invokevirtual 59, 3) := by decide +kernel
theorem dX4_setPlace_43 : decode cX4_setPlace 43 = .ok (.aload 4, 2) := by decide +kernel
theorem dX4_setPlace_45 : decode cX4_setPlace 45 = .ok (.getfield 86, 3) := by decide +kernel
theorem dX4_setPlace_48 : decode cX4_setPlace 48 = .ok (.istore 5, 2) := by decide +kernel
theorem dX4_setPlace_50 : decode cX4_setPlace 50 = .ok (.aload 4, 2) := by decide +kernel
theorem dX4_setPlace_52 : decode cX4_setPlace 52 = .ok (.iload_n 2, 1) := by decide +kernel
theorem dX4_setPlace_53 : decode cX4_setPlace 53 = .ok (.putfield 86, 3) := by decide +kernel
theorem dX4_setPlace_56 : decode cX4_setPlace 56 = .ok (.aload 4, 2) := by decide +kernel
theorem dX4_setPlace_58 : decode cX4_setPlace 58 = .ok (.iload_n 3, 1) := by decide +kernel
theorem dX4_setPlace_59 : decode cX4_setPlace 59 = .ok (.putfield 89, 3) := by decide +kernel
theorem dX4_setPlace_62 : decode cX4_setPlace 62 = .ok (.iload 5, 2) := by decide +kernel
theorem dX4_setPlace_64 : decode cX4_setPlace 64 = .ok (.ireturn, 1) := by decide +kernel
set_option maxRecDepth 20000 in
theorem ggX4_setKind_X2_pictureNumbered : GoodIn wsX4_setKind wsX2_pictureNumbered := goodIn_r _ [7, 8, 9, 10, 11, 12, 63, 64, 65, 66, 67, 68, 69, 70, 71, 72, 73] (by decide +kernel) (by decide +kernel)
set_option maxRecDepth 20000 in
theorem gX4_setKind_X2_pictureNumbered : GoodIn wsX4_setKind (wsV RX4 71 RX2 yX2_pictureNumbered wsX2_pictureNumbered) := goodIn_app (goodIn_of _ (by decide +kernel)) ggX4_setKind_X2_pictureNumbered
set_option maxRecDepth 20000 in
theorem ggX4_setKind_X4_within : GoodIn wsX4_setKind wsX4_within := goodIn_r _ [12] (by decide +kernel) (by decide +kernel)
set_option maxRecDepth 20000 in
theorem gX4_setKind_X4_within : GoodIn wsX4_setKind (va_wsS RX4 52 yX4_within wsX4_within) := goodIn_app (goodIn_of _ (by decide +kernel)) ggX4_setKind_X4_within
set_option maxRecDepth 20000 in
theorem ggX4_setKind_X4_record : GoodIn wsX4_setKind wsX4_record := goodIn_r _ [17, 18, 19, 20, 1, 21, 22, 23, 6, 24, 8, 9, 25, 26, 27, 28, 29, 30, 31, 32, 33, 34, 35, 36, 37, 38, 39, 40, 41, 42, 43, 44, 45, 46, 47, 48, 49, 50, 51, 52, 53, 54, 55, 56, 57, 63, 64, 65, 66, 67, 68, 69, 70, 71, 72, 73, 58, 59, 60, 61, 62] (by decide +kernel) (by decide +kernel)
set_option maxRecDepth 20000 in
theorem gX4_setKind_X4_record : GoodIn wsX4_setKind (wsV RX4 59 RX4 yX4_record wsX4_record) := goodIn_app (goodIn_of _ (by decide +kernel)) ggX4_setKind_X4_record
theorem dX4_setKind_0 : decode cX4_setKind 0 = .ok (.aload_n 0, 1) := by decide +kernel
theorem dX4_setKind_1 : decode cX4_setKind 1 = .ok (.getfield 10, 3) := by decide +kernel
theorem dX4_setKind_4 : decode cX4_setKind 4 = .ok (.iload_n 1, 1) := by decide +kernel
theorem dX4_setKind_5 : decode cX4_setKind 5 = .ok (.invokevirtual 71, 3) := by decide +kernel
theorem dX4_setKind_8 : decode cX4_setKind 8 = .ok (.astore_n 3, 1) := by decide +kernel
theorem dX4_setKind_9 : decode cX4_setKind 9 = .ok (.aload_n 3, 1) := by decide +kernel
theorem dX4_setKind_10 : decode cX4_setKind 10 = .ok (.ifnull 12, 3) := by decide +kernel
theorem dX4_setKind_13 : decode cX4_setKind 13 = .ok (.iload_n 2, 1) := by decide +kernel
theorem dX4_setKind_14 : decode cX4_setKind 14 = .ok (.iconst 0, 1) := by decide +kernel
theorem dX4_setKind_15 : decode cX4_setKind 15 = .ok (.iconst 2, 1) := by decide +kernel
theorem dX4_setKind_16 : decode cX4_setKind 16 = .ok (.invokestatic 52, 3) := by decide +kernel
theorem dX4_setKind_19 : decode cX4_setKind 19 = .ok (.ifCond .ne 6, 3) := by decide +kernel
theorem dX4_setKind_22 : decode cX4_setKind 22 = .ok (.bipush (-101), 2) := by decide +kernel
theorem dX4_setKind_24 : decode cX4_setKind 24 = .ok (.ireturn, 1) := by decide +kernel
theorem dX4_setKind_25 : decode cX4_setKind 25 = .ok (.aload_n 0, 1) := by decide +kernel
theorem dX4_setKind_26 : decode cX4_setKind 26 = .ok (.invokevirtual 59, 3) := by decide +kernel
theorem dX4_setKind_29 : decode cX4_setKind 29 = .ok (.aload_n 3, 1) := by decide +kernel
theorem dX4_setKind_30 : decode cX4_setKind 30 = .ok (.getfield 92, 3) := by decide +kernel
theorem dX4_setKind_33 : decode cX4_setKind 33 = .ok (.istore 4, 2) := by decide +kernel
theorem dX4_setKind_35 : decode cX4_setKind 35 = .ok (.aload_n 3, 1) := by decide +kernel
theorem dX4_setKind_36 : decode cX4_setKind 36 = .ok (.iload_n 2, 1) := by decide +kernel
theorem dX4_setKind_37 : decode cX4_setKind 37 = .ok (.putfield 92, 3) := by decide +kernel
theorem dX4_setKind_40 : decode cX4_setKind 40 = .ok (.iload 4, 2) := by decide +kernel
theorem dX4_setKind_42 : decode cX4_setKind 42 = .ok (.ireturn, 1) := by decide +kernel
set_option maxRecDepth 20000 in
theorem ggX4_append_X4_within : GoodIn wsX4_append wsX4_within := goodIn_r _ [6] (by decide +kernel) (by decide +kernel)
set_option maxRecDepth 20000 in
theorem gX4_append_X4_within : GoodIn wsX4_append (va_wsS RX4 52 yX4_within wsX4_within) := goodIn_app (goodIn_of _ (by decide +kernel)) ggX4_append_X4_within
theorem dX4_append_0 : decode cX4_append 0 = .ok (.iload_n 1, 1) := by decide +kernel
theorem dX4_append_1 : decode cX4_append 1 = .ok (.iconst 1, 1) := by decide +kernel
theorem dX4_append_2 : decode cX4_append 2 = .ok (.sipush 255, 3) := by decide +kernel
theorem dX4_append_5 : decode cX4_append 5 = .ok (.invokestatic 52, 3) := by decide +kernel
theorem dX4_append_8 : decode cX4_append 8 = .ok (.ifCond .ne 6, 3) := by decide +kernel
theorem dX4_append_11 : decode cX4_append 11 = .ok (.bipush (-101), 2) := by decide +kernel
theorem dX4_append_13 : decode cX4_append 13 = .ok (.ireturn, 1) := by decide +kernel

set_option maxRecDepth 20000 in
theorem ggX4_meetings_X4_notDark : GoodIn wsX4_meetings wsX4_notDark := goodIn_r _ [44, 45] (by decide +kernel) (by decide +kernel)
set_option maxRecDepth 20000 in
theorem gX4_meetings_X4_notDark : GoodIn wsX4_meetings (va_wsS RX4 195 yX4_notDark wsX4_notDark) := goodIn_app (goodIn_of _ (by decide +kernel)) ggX4_meetings_X4_notDark
set_option maxRecDepth 20000 in
theorem ggX4_meetings_J13_bitCount_95d88 : GoodIn wsX4_meetings wsJ13_bitCount_95d88 := goodIn_r _ [49, 50, 51, 52] (by decide +kernel) (by decide +kernel)
set_option maxRecDepth 20000 in
theorem gX4_meetings_J13_bitCount_95d88 : GoodIn wsX4_meetings (va_wsS RX4 199 yJ13_bitCount_95d88 wsJ13_bitCount_95d88) := goodIn_app (goodIn_of _ (by decide +kernel)) ggX4_meetings_J13_bitCount_95d88
theorem dX4_meetings_0 : decode cX4_meetings 0 = .ok (.aload_n 0, 1) := by decide +kernel
theorem dX4_meetings_1 : decode cX4_meetings 1 = .ok (.getfield 10, 3) := by decide +kernel
theorem dX4_meetings_4 : decode cX4_meetings 4 = .ok (.iload_n 1, 1) := by decide +kernel
theorem dX4_meetings_5 : decode cX4_meetings 5 = .ok (.invokevirtual 71, 3) := by decide +kernel
theorem dX4_meetings_8 : decode cX4_meetings 8 = .ok (.astore_n 3, 1) := by decide +kernel
theorem dX4_meetings_9 : decode cX4_meetings 9 = .ok (.aload_n 0, 1) := by decide +kernel
theorem dX4_meetings_10 : decode cX4_meetings 10 = .ok (.getfield 10, 3) := by decide +kernel
theorem dX4_meetings_13 : decode cX4_meetings 13 = .ok (.iload_n 2, 1) := by decide +kernel
theorem dX4_meetings_14 : decode cX4_meetings 14 = .ok (.invokevirtual 71, 3) := by decide +kernel
theorem dX4_meetings_17 : decode cX4_meetings 17 = .ok (.astore 4, 2) := by decide +kernel
theorem dX4_meetings_19 : decode cX4_meetings 19 = .ok (.aload_n 3, 1) := by decide +kernel
theorem dX4_meetings_20 : decode cX4_meetings 20 = .ok (.ifnull 13, 3) := by decide +kernel
theorem dX4_meetings_23 : decode cX4_meetings 23 = .ok (.aload 4, 2) := by decide +kernel
theorem dX4_meetings_25 : decode cX4_meetings 25 = .ok (.ifnull 8, 3) := by decide +kernel
theorem dX4_meetings_28 : decode cX4_meetings 28 = .ok (.iload_n 1, 1) := by decide +kernel
theorem dX4_meetings_29 : decode cX4_meetings 29 = .ok (.iload_n 2, 1) := by decide +kernel
theorem dX4_meetings_30 : decode cX4_meetings 30 = .ok (.if_icmp .ne 6, 3) := by decide +kernel
theorem dX4_meetings_33 : decode cX4_meetings 33 = .ok (.bipush (-101), 2) := by decide +kernel
theorem dX4_meetings_35 : decode cX4_meetings 35 = .ok (.ireturn, 1) := by decide +kernel
theorem dX4_meetings_36 : decode cX4_meetings 36 = .ok (.iconst 0, 1) := by decide +kernel
theorem dX4_meetings_37 : decode cX4_meetings 37 = .ok (.istore 5, 2) := by decide +kernel
theorem dX4_meetings_39 : decode cX4_meetings 39 = .ok (.iconst 0, 1) := by decide +kernel
theorem dX4_meetings_40 : decode cX4_meetings 40 = .ok (.istore 6, 2) := by decide +kernel
theorem dX4_meetings_42 : decode cX4_meetings 42 = .ok (.iload 6, 2) := by decide +kernel
theorem dX4_meetings_44 : decode cX4_meetings 44 = .ok (.sipush 720, 3) := by decide +kernel
theorem dX4_meetings_47 : decode cX4_meetings 47 = .ok (.if_icmp .ge 37, 3) := by decide +kernel
theorem dX4_meetings_50 : decode cX4_meetings 50 = .ok (.iload 5, 2) := by decide +kernel
theorem dX4_meetings_52 : decode cX4_meetings 52 = .ok (.aload_n 3, 1) := by decide +kernel
theorem dX4_meetings_53 : decode cX4_meetings 53 = .ok (.iload 6, 2) := by decide +kernel
theorem dX4_meetings_55 : decode cX4_meetings 55 = .ok (.invokevirtual 231, 3) := by decide +kernel
theorem dX4_meetings_58 : decode cX4_meetings 58 = .ok (.invokestatic 195, 3) := by decide +kernel
theorem dX4_meetings_61 : decode cX4_meetings 61 = .ok (.aload 4, 2) := by decide +kernel
theorem dX4_meetings_63 : decode cX4_meetings 63 = .ok (.iload 6, 2) := by decide +kernel
theorem dX4_meetings_65 : decode cX4_meetings 65 = .ok (.invokevirtual 231, 3) := by decide +kernel
theorem dX4_meetings_68 : decode cX4_meetings 68 = .ok (.invokestatic 195, 3) := by decide +kernel
theorem dX4_meetings_71 : decode cX4_meetings 71 = .ok (.land, 1) := by decide +kernel
theorem dX4_meetings_72 : decode cX4_meetings 72 = .ok (.invokestatic 199, 3) := by decide +kernel
theorem dX4_meetings_75 : decode cX4_meetings 75 = .ok (.iadd, 1) := by decide +kernel
theorem dX4_meetings_76 : decode cX4_meetings 76 = .ok (.istore 5, 2) := by decide +kernel
theorem dX4_meetings_78 : decode cX4_meetings 78 = .ok (.iinc 6 1, 3) := by decide +kernel
theorem dX4_meetings_81 : decode cX4_meetings 81 = .ok (.goto (-39), 3) := by decide +kernel
theorem dX4_meetings_84 : decode cX4_meetings 84 = .ok (.iload 5, 2) := by decide +kernel
theorem dX4_meetings_86 : decode cX4_meetings 86 = .ok (.ireturn, 1) := by decide +kernel
set_option maxRecDepth 20000 in
theorem ggX4_countRight_X3_firstArmAt : GoodIn wsX4_countRight wsX3_firstArmAt := goodIn_r _ [14, 15, 51, 52, 53, 54, 55, 56, 57, 58, 59, 60, 61] (by decide +kernel) (by decide +kernel)
set_option maxRecDepth 20000 in
theorem gX4_countRight_X3_firstArmAt : GoodIn wsX4_countRight (wsV RX4 214 RX3 yX3_firstArmAt wsX3_firstArmAt) := goodIn_app (goodIn_of _ (by decide +kernel)) ggX4_countRight_X3_firstArmAt
set_option maxRecDepth 20000 in
theorem ggX4_countRight_X3_secondArmAt : GoodIn wsX4_countRight wsX3_secondArmAt := goodIn_r _ [19, 20, 15, 21, 22, 13, 23, 51, 52, 53, 54, 55, 56, 57, 58, 59, 60, 61] (by decide +kernel) (by decide +kernel)
set_option maxRecDepth 20000 in
theorem gX4_countRight_X3_secondArmAt : GoodIn wsX4_countRight (wsV RX4 217 RX3 yX3_secondArmAt wsX3_secondArmAt) := goodIn_app (goodIn_of _ (by decide +kernel)) ggX4_countRight_X3_secondArmAt
set_option maxRecDepth 20000 in
theorem ggX4_countRight_J13_bitCount_95d88 : GoodIn wsX4_countRight wsJ13_bitCount_95d88 := goodIn_r _ [27, 28, 29, 30] (by decide +kernel) (by decide +kernel)
set_option maxRecDepth 20000 in
theorem gX4_countRight_J13_bitCount_95d88 : GoodIn wsX4_countRight (va_wsS RX4 199 yJ13_bitCount_95d88 wsJ13_bitCount_95d88) := goodIn_app (goodIn_of _ (by decide +kernel)) ggX4_countRight_J13_bitCount_95d88
theorem dX4_countRight_0 : decode cX4_countRight 0 = .ok (.iconst 0, 1) := by decide +kernel
theorem dX4_countRight_1 : decode cX4_countRight 1 = .ok (.iload_n 1, 1) := by decide +kernel
theorem dX4_countRight_2 : decode cX4_countRight 2 = .ok (.aload_n 0, 1) := by decide +kernel
theorem dX4_countRight_3 : decode cX4_countRight 3 = .ok (.getfield 10, 3) := by decide +kernel
theorem dX4_countRight_6 : decode cX4_countRight 6 = .ok (.getfield 128, 3) := by decide +kernel
theorem dX4_countRight_9 : decode cX4_countRight 9 = .ok (.iconst 3, 1) := by decide +kernel
theorem dX4_countRight_10 : decode cX4_countRight 10 = .ok (.iaload, 1) := by decide +kernel
theorem dX4_countRight_11 : decode cX4_countRight 11 = .ok (.isub, 1) := by decide +kernel
theorem dX4_countRight_12 : decode cX4_countRight 12 = .ok (.invokestatic 232, 3) := by decide +kernel
theorem dX4_countRight_15 : decode cX4_countRight 15 = .ok (.istore_n 2, 1) := by decide +kernel
theorem dX4_countRight_16 : decode cX4_countRight 16 = .ok (.iconst 0, 1) := by decide +kernel
theorem dX4_countRight_17 : decode cX4_countRight 17 = .ok (.istore_n 3, 1) := by decide +kernel
theorem dX4_countRight_18 : decode cX4_countRight 18 = .ok (.iconst 0, 1) := by decide +kernel
theorem dX4_countRight_19 : decode cX4_countRight 19 = .ok (.istore 4, 2) := by decide +kernel
theorem dX4_countRight_21 : decode cX4_countRight 21 = .ok (.iload 4, 2) := by decide +kernel
theorem dX4_countRight_23 : decode cX4_countRight 23 = .ok (.sipush 720, 3) := by decide +kernel
theorem dX4_countRight_26 : decode cX4_countRight 26 = .ok (.if_icmp .ge 84, 3) := by decide +kernel
theorem dX4_countRight_29 : decode cX4_countRight 29 = .ok (.aload_n 0, 1) := by decide +kernel
theorem dX4_countRight_30 : decode cX4_countRight 30 = .ok (.getfield 44, 3) := by decide +kernel
theorem dX4_countRight_33 : decode cX4_countRight 33 = .ok (.iload 4, 2) := by decide +kernel
theorem dX4_countRight_35 : decode cX4_countRight 35 = .ok (.invokevirtual 214, 3) := by decide +kernel
theorem dX4_countRight_38 : decode cX4_countRight 38 = .ok (.iload_n 2, 1) := by decide +kernel
theorem dX4_countRight_39 : decode cX4_countRight 39 = .ok (.if_icmp .le 15, 3) := by decide +kernel
theorem dX4_countRight_42 : decode cX4_countRight 42 = .ok (.aload_n 0, 1) := by decide +kernel
theorem dX4_countRight_43 : decode cX4_countRight 43 = .ok (.getfield 10, 3) := by decide +kernel
theorem dX4_countRight_46 : decode cX4_countRight 46 = .ok (.getfield 116, 3) := by decide +kernel
theorem dX4_countRight_49 : decode cX4_countRight 49 = .ok (.iconst 0, 1) := by decide +kernel
theorem dX4_countRight_50 : decode cX4_countRight 50 = .ok (.laload, 1) := by decide +kernel
theorem dX4_countRight_51 : decode cX4_countRight 51 = .ok (.goto 4, 3) := by decide +kernel
theorem dX4_countRight_54 : decode cX4_countRight 54 = .ok (.lconst 0, 1) := by decide +kernel
theorem dX4_countRight_55 : decode cX4_countRight 55 = .ok (.lstore 5, 2) := by decide +kernel
theorem dX4_countRight_57 : decode cX4_countRight 57 = .ok (.aload_n 0, 1) := by decide +kernel
theorem dX4_countRight_58 : decode cX4_countRight 58 = .ok (.getfield 44, 3) := by decide +kernel
theorem dX4_countRight_61 : decode cX4_countRight 61 = .ok (.iload 4, 2) := by decide +kernel
theorem dX4_countRight_63 : decode cX4_countRight 63 = .ok (.invokevirtual 217, 3) := by decide +kernel
theorem dX4_countRight_66 : decode cX4_countRight 66 = .ok (.iload_n 2, 1) := by decide +kernel
theorem dX4_countRight_67 : decode cX4_countRight 67 = .ok (.if_icmp .le 15, 3) := by decide +kernel
theorem dX4_countRight_70 : decode cX4_countRight 70 = .ok (.aload_n 0, 1) := by decide +kernel
theorem dX4_countRight_71 : decode cX4_countRight 71 = .ok (.getfield 10, 3) := by decide +kernel
theorem dX4_countRight_74 : decode cX4_countRight 74 = .ok (.getfield 116, 3) := by decide +kernel
theorem dX4_countRight_77 : decode cX4_countRight 77 = .ok (.iconst 1, 1) := by decide +kernel
theorem dX4_countRight_78 : decode cX4_countRight 78 = .ok (.laload, 1) := by decide +kernel
theorem dX4_countRight_79 : decode cX4_countRight 79 = .ok (.goto 4, 3) := by decide +kernel
theorem dX4_countRight_82 : decode cX4_countRight 82 = .ok (.lconst 0, 1) := by decide +kernel
theorem dX4_countRight_83 : decode cX4_countRight 83 = .ok (.lstore 7, 2) := by decide +kernel
theorem dX4_countRight_85 : decode cX4_countRight 85 = .ok (.iload_n 3, 1) := by decide +kernel
theorem dX4_countRight_86 : decode cX4_countRight 86 = .ok (.lload 5, 2) := by decide +kernel
theorem dX4_countRight_88 : decode cX4_countRight 88 = .ok (.lload 7, 2) := by decide +kernel
theorem dX4_countRight_90 : decode cX4_countRight 90 = .ok (.lor, 1) := by decide +kernel
theorem dX4_countRight_91 : decode cX4_countRight 91 = .ok (.aload_n 0, 1) := by decide +kernel
theorem dX4_countRight_92 : decode cX4_countRight 92 = .ok (.getfield 48, 3) := by decide +kernel
theorem dX4_countRight_95 : decode cX4_countRight 95 = .ok (.iload 4, 2) := by decide +kernel
theorem dX4_countRight_97 : decode cX4_countRight 97 = .ok (.laload, 1) := by decide +kernel
theorem dX4_countRight_98 : decode cX4_countRight 98 = .ok (.lor, 1) := by decide +kernel
theorem dX4_countRight_99 : decode cX4_countRight 99 = .ok (.invokestatic 199, 3) := by decide +kernel
theorem dX4_countRight_102 : decode cX4_countRight 102 = .ok (.iadd, 1) := by decide +kernel
theorem dX4_countRight_103 : decode cX4_countRight 103 = .ok (.istore_n 3, 1) := by decide +kernel
theorem dX4_countRight_104 : decode cX4_countRight 104 = .ok (.iinc 4 1, 3) := by decide +kernel
theorem dX4_countRight_107 : decode cX4_countRight 107 = .ok (.goto (-86), 3) := by decide +kernel
theorem dX4_countRight_110 : decode cX4_countRight 110 = .ok (.iload_n 3, 1) := by decide +kernel
theorem dX4_countRight_111 : decode cX4_countRight 111 = .ok (.ireturn, 1) := by decide +kernel
theorem dX4_within_0 : decode cX4_within 0 = .ok (.iload_n 0, 1) := by decide +kernel
theorem dX4_within_1 : decode cX4_within 1 = .ok (.iload_n 1, 1) := by decide +kernel
theorem dX4_within_2 : decode cX4_within 2 = .ok (.if_icmp .lt 12, 3) := by decide +kernel
theorem dX4_within_5 : decode cX4_within 5 = .ok (.iload_n 0, 1) := by decide +kernel
theorem dX4_within_6 : decode cX4_within 6 = .ok (.iload_n 2, 1) := by decide +kernel
theorem dX4_within_7 : decode cX4_within 7 = .ok (.if_icmp .gt 7, 3) := by decide +kernel
theorem dX4_within_10 : decode cX4_within 10 = .ok (.iconst 1, 1) := by decide +kernel
theorem dX4_within_11 : decode cX4_within 11 = .ok (.goto 4, 3) := by decide +kernel
theorem dX4_within_14 : decode cX4_within 14 = .ok (.iconst 0, 1) := by decide +kernel
theorem dX4_within_15 : decode cX4_within 15 = .ok (.ireturn, 1) := by decide +kernel
theorem dX4_colorIn_0 : decode cX4_colorIn 0 = .ok (.lload_n 0, 1) := by decide +kernel
theorem dX4_colorIn_1 : decode cX4_colorIn 1 = .ok (.iload_n 2, 1) := by decide +kernel
theorem dX4_colorIn_2 : decode cX4_colorIn 2 = .ok (.iconst 3, 1) := by decide +kernel
theorem dX4_colorIn_3 : decode cX4_colorIn 3 = .ok (.imul, 1) := by decide +kernel
theorem dX4_colorIn_4 : decode cX4_colorIn 4 = .ok (.lshr, 1) := by decide +kernel
theorem dX4_colorIn_5 : decode cX4_colorIn 5 = .ok (.l2i, 1) := by decide +kernel
theorem dX4_colorIn_6 : decode cX4_colorIn 6 = .ok (.bipush 7, 2) := by decide +kernel
theorem dX4_colorIn_8 : decode cX4_colorIn 8 = .ok (.iand, 1) := by decide +kernel
theorem dX4_colorIn_9 : decode cX4_colorIn 9 = .ok (.ireturn, 1) := by decide +kernel
theorem dX4_withColor_0 : decode cX4_withColor 0 = .ok (.iload_n 2, 1) := by decide +kernel
theorem dX4_withColor_1 : decode cX4_withColor 1 = .ok (.iconst 3, 1) := by decide +kernel
theorem dX4_withColor_2 : decode cX4_withColor 2 = .ok (.imul, 1) := by decide +kernel
theorem dX4_withColor_3 : decode cX4_withColor 3 = .ok (.istore 4, 2) := by decide +kernel
theorem dX4_withColor_5 : decode cX4_withColor 5 = .ok (.lload_n 0, 1) := by decide +kernel
theorem dX4_withColor_6 : decode cX4_withColor 6 = .ok (.ldc2_w 235, 3) := by decide +kernel
theorem dX4_withColor_9 : decode cX4_withColor 9 = .ok (.iload 4, 2) := by decide +kernel
theorem dX4_withColor_11 : decode cX4_withColor 11 = .ok (.lshl, 1) := by decide +kernel
theorem dX4_withColor_12 : decode cX4_withColor 12 = .ok (.ldc2_w 119, 3) := by decide +kernel
theorem dX4_withColor_15 : decode cX4_withColor 15 = .ok (.lxor, 1) := by decide +kernel
theorem dX4_withColor_16 : decode cX4_withColor 16 = .ok (.land, 1) := by decide +kernel
theorem dX4_withColor_17 : decode cX4_withColor 17 = .ok (.iload_n 3, 1) := by decide +kernel
theorem dX4_withColor_18 : decode cX4_withColor 18 = .ok (.i2l, 1) := by decide +kernel
theorem dX4_withColor_19 : decode cX4_withColor 19 = .ok (.iload 4, 2) := by decide +kernel
theorem dX4_withColor_21 : decode cX4_withColor 21 = .ok (.lshl, 1) := by decide +kernel
theorem dX4_withColor_22 : decode cX4_withColor 22 = .ok (.lor, 1) := by decide +kernel
theorem dX4_withColor_23 : decode cX4_withColor 23 = .ok (.lreturn, 1) := by decide +kernel
theorem dX4_notDark_0 : decode cX4_notDark 0 = .ok (.lload_n 0, 1) := by decide +kernel
theorem dX4_notDark_1 : decode cX4_notDark 1 = .ok (.lload_n 0, 1) := by decide +kernel
theorem dX4_notDark_2 : decode cX4_notDark 2 = .ok (.iconst 1, 1) := by decide +kernel
theorem dX4_notDark_3 : decode cX4_notDark 3 = .ok (.lshr, 1) := by decide +kernel
theorem dX4_notDark_4 : decode cX4_notDark 4 = .ok (.lor, 1) := by decide +kernel
theorem dX4_notDark_5 : decode cX4_notDark 5 = .ok (.lload_n 0, 1) := by decide +kernel
theorem dX4_notDark_6 : decode cX4_notDark 6 = .ok (.iconst 2, 1) := by decide +kernel
theorem dX4_notDark_7 : decode cX4_notDark 7 = .ok (.lshr, 1) := by decide +kernel
theorem dX4_notDark_8 : decode cX4_notDark 8 = .ok (.lor, 1) := by decide +kernel
theorem dX4_notDark_9 : decode cX4_notDark 9 = .ok (.ldc2_w 223, 3) := by decide +kernel
theorem dX4_notDark_12 : decode cX4_notDark 12 = .ok (.land, 1) := by decide +kernel
theorem dX4_notDark_13 : decode cX4_notDark 13 = .ok (.lreturn, 1) := by decide +kernel
theorem dX5_init_0 : decode cX5_init 0 = .ok (.aload_n 0, 1) := by decide +kernel
theorem dX5_init_1 : decode cX5_init 1 = .ok (.invokespecial 1, 3) := by decide +kernel
theorem dX5_init_4 : decode cX5_init 4 = .ok (.aload_n 0, 1) := by decide +kernel
theorem dX5_init_5 : decode cX5_init 5 = .ok (.sipush 348, 3) := by decide +kernel
theorem dX5_init_8 : decode cX5_init 8 = .ok (.newarray .int, 2) := by decide +kernel
theorem dX5_init_10 : decode cX5_init 10 = .ok (.putfield 7, 3) := by decide +kernel
theorem dX5_init_13 : decode cX5_init 13 = .ok (.aload_n 0, 1) := by decide +kernel
theorem dX5_init_14 : decode cX5_init 14 = .ok (.sipush 8640, 3) := by decide +kernel
theorem dX5_init_17 : decode cX5_init 17 = .ok (.newarray .int, 2) := by decide +kernel
theorem dX5_init_19 : decode cX5_init 19 = .ok (.putfield 13, 3) := by decide +kernel
theorem dX5_init_22 : decode cX5_init 22 = .ok (.aload_n 0, 1) := by decide +kernel
theorem dX5_init_23 : decode cX5_init 23 = .ok (.sipush 348, 3) := by decide +kernel
theorem dX5_init_26 : decode cX5_init 26 = .ok (.newarray .int, 2) := by decide +kernel
theorem dX5_init_28 : decode cX5_init 28 = .ok (.putfield 16, 3) := by decide +kernel
theorem dX5_init_31 : decode cX5_init 31 = .ok (.aload_n 0, 1) := by decide +kernel
theorem dX5_init_32 : decode cX5_init 32 = .ok (.sipush 8640, 3) := by decide +kernel
theorem dX5_init_35 : decode cX5_init 35 = .ok (.newarray .int, 2) := by decide +kernel
theorem dX5_init_37 : decode cX5_init 37 = .ok (.putfield 19, 3) := by decide +kernel
theorem dX5_init_40 : decode cX5_init 40 = .ok (.aload_n 0, 1) := by decide +kernel
theorem dX5_init_41 : decode cX5_init 41 = .ok (.sipush 18672, 3) := by decide +kernel
theorem dX5_init_44 : decode cX5_init 44 = .ok (.newarray .int, 2) := by decide +kernel
theorem dX5_init_46 : decode cX5_init 46 = .ok (.putfield 22, 3) := by decide +kernel
theorem dX5_init_49 : decode cX5_init 49 = .ok (.aload_n 0, 1) := by decide +kernel
theorem dX5_init_50 : decode cX5_init 50 = .ok (.sipush 4668, 3) := by decide +kernel
theorem dX5_init_53 : decode cX5_init 53 = .ok (.newarray .int, 2) := by decide +kernel
theorem dX5_init_55 : decode cX5_init 55 = .ok (.putfield 25, 3) := by decide +kernel
theorem dX5_init_58 : decode cX5_init 58 = .ok (.aload_n 0, 1) := by decide +kernel
theorem dX5_init_59 : decode cX5_init 59 = .ok (.sipush 160, 3) := by decide +kernel
theorem dX5_init_62 : decode cX5_init 62 = .ok (.newarray .int, 2) := by decide +kernel
theorem dX5_init_64 : decode cX5_init 64 = .ok (.putfield 28, 3) := by decide +kernel
theorem dX5_init_67 : decode cX5_init 67 = .ok (.aload_n 0, 1) := by decide +kernel
theorem dX5_init_68 : decode cX5_init 68 = .ok (.bipush 80, 2) := by decide +kernel
theorem dX5_init_70 : decode cX5_init 70 = .ok (.newarray .int, 2) := by decide +kernel
theorem dX5_init_72 : decode cX5_init 72 = .ok (.putfield 31, 3) := by decide +kernel
theorem dX5_init_75 : decode cX5_init 75 = .ok (.aload_n 0, 1) := by decide +kernel
theorem dX5_init_76 : decode cX5_init 76 = .ok (.sipush 8640, 3) := by decide +kernel
theorem dX5_init_79 : decode cX5_init 79 = .ok (.newarray .int, 2) := by decide +kernel
theorem dX5_init_81 : decode cX5_init 81 = .ok (.putfield 34, 3) := by decide +kernel
theorem dX5_init_84 : decode cX5_init 84 = .ok (.aload_n 0, 1) := by decide +kernel
theorem dX5_init_85 : decode cX5_init 85 = .ok (.sipush 720, 3) := by decide +kernel
theorem dX5_init_88 : decode cX5_init 88 = .ok (.newarray .int, 2) := by decide +kernel
theorem dX5_init_90 : decode cX5_init 90 = .ok (.putfield 37, 3) := by decide +kernel
theorem dX5_init_93 : decode cX5_init 93 = .ok (.aload_n 0, 1) := by decide +kernel
theorem dX5_init_94 : decode cX5_init 94 = .ok (.getfield 7, 3) := by decide +kernel
theorem dX5_init_97 : decode cX5_init 97 = .ok (.iconst 0, 1) := by decide +kernel
theorem dX5_init_98 : decode cX5_init 98 = .ok (.bipush 10, 2) := by decide +kernel
theorem dX5_init_100 : decode cX5_init 100 = .ok (.iastore, 1) := by decide +kernel
theorem dX5_init_101 : decode cX5_init 101 = .ok (.aload_n 0, 1) := by decide +kernel
theorem dX5_init_102 : decode cX5_init 102 = .ok (.getfield 7, 3) := by decide +kernel
theorem dX5_init_105 : decode cX5_init 105 = .ok (.iconst 1, 1) := by decide +kernel
theorem dX5_init_106 : decode cX5_init 106 = .ok (.iconst 5, 1) := by decide +kernel
theorem dX5_init_107 : decode cX5_init 107 = .ok (.iastore, 1) := by decide +kernel
theorem dX5_init_108 : decode cX5_init 108 = .ok (.aload_n 0, 1) := by decide +kernel
theorem dX5_init_109 : decode cX5_init 109 = .ok (.getfield 7, 3) := by decide +kernel
theorem dX5_init_112 : decode cX5_init 112 = .ok (.iconst 2, 1) := by decide +kernel
theorem dX5_init_113 : decode cX5_init 113 = .ok (.sipush 9999, 3) := by decide +kernel
theorem dX5_init_116 : decode cX5_init 116 = .ok (.iastore, 1) := by decide +kernel
theorem dX5_init_117 : decode cX5_init 117 = .ok (.aload_n 0, 1) := by decide +kernel
theorem dX5_init_118 : decode cX5_init 118 = .ok (.getfield 7, 3) := by decide +kernel
theorem dX5_init_121 : decode cX5_init 121 = .ok (.iconst 3, 1) := by decide +kernel
theorem dX5_init_122 : decode cX5_init 122 = .ok (.bipush 20, 2) := by decide +kernel
theorem dX5_init_124 : decode cX5_init 124 = .ok (.iastore, 1) := by decide +kernel
theorem dX5_init_125 : decode cX5_init 125 = .ok (.aload_n 0, 1) := by decide +kernel
theorem dX5_init_126 : decode cX5_init 126 = .ok (.getfield 7, 3) := by decide +kernel
theorem dX5_init_129 : decode cX5_init 129 = .ok (.iconst 5, 1) := by decide +kernel
theorem dX5_init_130 : decode cX5_init 130 = .ok (.bipush 10, 2) := by decide +kernel
theorem dX5_init_132 : decode cX5_init 132 = .ok (.iastore, 1) := by decide +kernel
theorem dX5_init_133 : decode cX5_init 133 = .ok (.return_, 1) := by decide +kernel
theorem dX5_in_0 : decode cX5_in 0 = .ok (.iload_n 0, 1) := by decide +kernel
theorem dX5_in_1 : decode cX5_in 1 = .ok (.iload_n 1, 1) := by decide +kernel
theorem dX5_in_2 : decode cX5_in 2 = .ok (.if_icmp .lt 12, 3) := by decide +kernel
theorem dX5_in_5 : decode cX5_in 5 = .ok (.iload_n 0, 1) := by decide +kernel
theorem dX5_in_6 : decode cX5_in 6 = .ok (.iload_n 2, 1) := by decide +kernel
theorem dX5_in_7 : decode cX5_in 7 = .ok (.if_icmp .gt 7, 3) := by decide +kernel
theorem dX5_in_10 : decode cX5_in 10 = .ok (.iconst 1, 1) := by decide +kernel
theorem dX5_in_11 : decode cX5_in 11 = .ok (.goto 4, 3) := by decide +kernel
theorem dX5_in_14 : decode cX5_in 14 = .ok (.iconst 0, 1) := by decide +kernel
theorem dX5_in_15 : decode cX5_in 15 = .ok (.ireturn, 1) := by decide +kernel
theorem dX5_size_0 : decode cX5_size 0 = .ok (.iload_n 0, 1) := by decide +kernel
theorem dX5_size_1 : decode cX5_size 1 = .ok (.ifCond .ge 8, 3) := by decide +kernel
theorem dX5_size_4 : decode cX5_size 4 = .ok (.iload_n 0, 1) := by decide +kernel
theorem dX5_size_5 : decode cX5_size 5 = .ok (.ineg, 1) := by decide +kernel
theorem dX5_size_6 : decode cX5_size 6 = .ok (.goto 4, 3) := by decide +kernel
theorem dX5_size_9 : decode cX5_size 9 = .ok (.iload_n 0, 1) := by decide +kernel
theorem dX5_size_10 : decode cX5_size 10 = .ok (.ireturn, 1) := by decide +kernel
theorem dX5_lesser_0 : decode cX5_lesser 0 = .ok (.iload_n 0, 1) := by decide +kernel
theorem dX5_lesser_1 : decode cX5_lesser 1 = .ok (.iload_n 1, 1) := by decide +kernel
theorem dX5_lesser_2 : decode cX5_lesser 2 = .ok (.if_icmp .ge 7, 3) := by decide +kernel
theorem dX5_lesser_5 : decode cX5_lesser 5 = .ok (.iload_n 0, 1) := by decide +kernel
theorem dX5_lesser_6 : decode cX5_lesser 6 = .ok (.goto 4, 3) := by decide +kernel
theorem dX5_lesser_9 : decode cX5_lesser 9 = .ok (.iload_n 1, 1) := by decide +kernel
theorem dX5_lesser_10 : decode cX5_lesser 10 = .ok (.ireturn, 1) := by decide +kernel
theorem dX5_around_0 : decode cX5_around 0 = .ok (.iload_n 0, 1) := by decide +kernel
theorem dX5_around_1 : decode cX5_around 1 = .ok (.sipush 720, 3) := by decide +kernel
theorem dX5_around_4 : decode cX5_around 4 = .ok (.iadd, 1) := by decide +kernel
theorem dX5_around_5 : decode cX5_around 5 = .ok (.sipush 720, 3) := by decide +kernel
theorem dX5_around_8 : decode cX5_around 8 = .ok (.irem, 1) := by decide +kernel
theorem dX5_around_9 : decode cX5_around 9 = .ok (.ireturn, 1) := by decide +kernel
theorem dX5_past_0 : decode cX5_past 0 = .ok (.iload_n 1, 1) := by decide +kernel
theorem dX5_past_1 : decode cX5_past 1 = .ok (.iconst 4, 1) := by decide +kernel
theorem dX5_past_2 : decode cX5_past 2 = .ok (.if_icmp .ge 18, 3) := by decide +kernel
theorem dX5_past_5 : decode cX5_past 5 = .ok (.aload_n 0, 1) := by decide +kernel
theorem dX5_past_6 : decode cX5_past 6 = .ok (.getfield 22, 3) := by decide +kernel
theorem dX5_past_9 : decode cX5_past 9 = .ok (.sipush 4668, 3) := by decide +kernel
theorem dX5_past_12 : decode cX5_past 12 = .ok (.iload_n 1, 1) := by decide +kernel
theorem dX5_past_13 : decode cX5_past 13 = .ok (.imul, 1) := by decide +kernel
theorem dX5_past_14 : decode cX5_past 14 = .ok (.iload_n 2, 1) := by decide +kernel
theorem dX5_past_15 : decode cX5_past 15 = .ok (.iadd, 1) := by decide +kernel
theorem dX5_past_16 : decode cX5_past 16 = .ok (.iaload, 1) := by decide +kernel
theorem dX5_past_17 : decode cX5_past 17 = .ok (.goto 9, 3) := by decide +kernel
theorem dX5_past_20 : decode cX5_past 20 = .ok (.aload_n 0, 1) := by decide +kernel
theorem dX5_past_21 : decode cX5_past 21 = .ok (.getfield 25, 3) := by decide +kernel
theorem dX5_past_24 : decode cX5_past 24 = .ok (.iload_n 2, 1) := by decide +kernel
theorem dX5_past_25 : decode cX5_past 25 = .ok (.iaload, 1) := by decide +kernel
theorem dX5_past_26 : decode cX5_past 26 = .ok (.ireturn, 1) := by decide +kernel
theorem dX5_lay_0 : decode cX5_lay 0 = .ok (.iload_n 1, 1) := by decide +kernel
theorem dX5_lay_1 : decode cX5_lay 1 = .ok (.iconst 4, 1) := by decide +kernel
theorem dX5_lay_2 : decode cX5_lay 2 = .ok (.if_icmp .ge 19, 3) := by decide +kernel
theorem dX5_lay_5 : decode cX5_lay 5 = .ok (.aload_n 0, 1) := by decide +kernel
theorem dX5_lay_6 : decode cX5_lay 6 = .ok (.getfield 22, 3) := by decide +kernel
theorem dX5_lay_9 : decode cX5_lay 9 = .ok (.sipush 4668, 3) := by decide +kernel
theorem dX5_lay_12 : decode cX5_lay 12 = .ok (.iload_n 1, 1) := by decide +kernel
theorem dX5_lay_13 : decode cX5_lay 13 = .ok (.imul, 1) := by decide +kernel
theorem dX5_lay_14 : decode cX5_lay 14 = .ok (.iload_n 2, 1) := by decide +kernel
theorem dX5_lay_15 : decode cX5_lay 15 = .ok (.iadd, 1) := by decide +kernel
theorem dX5_lay_16 : decode cX5_lay 16 = .ok (.iload_n 3, 1) := by decide +kernel
theorem dX5_lay_17 : decode cX5_lay 17 = .ok (.iastore, 1) := by decide +kernel
theorem dX5_lay_18 : decode cX5_lay 18 = .ok (.goto 10, 3) := by decide +kernel
theorem dX5_lay_21 : decode cX5_lay 21 = .ok (.aload_n 0, 1) := by decide +kernel
theorem dX5_lay_22 : decode cX5_lay 22 = .ok (.getfield 25, 3) := by decide +kernel
theorem dX5_lay_25 : decode cX5_lay 25 = .ok (.iload_n 2, 1) := by decide +kernel
theorem dX5_lay_26 : decode cX5_lay 26 = .ok (.iload_n 3, 1) := by decide +kernel
theorem dX5_lay_27 : decode cX5_lay 27 = .ok (.iastore, 1) := by decide +kernel
theorem dX5_lay_28 : decode cX5_lay 28 = .ok (.return_, 1) := by decide +kernel
set_option maxRecDepth 20000 in
theorem ggX5_record_X5_lay : GoodIn wsX5_record wsX5_lay := goodIn_r _ [9, 10, 11, 12, 13, 14, 15, 16, 17, 18, 19, 20, 21, 22, 23, 24, 25, 26, 27] (by decide +kernel) (by decide +kernel)
set_option maxRecDepth 20000 in
theorem gX5_record_X5_lay : GoodIn wsX5_record (wsV RX5 47 RX5 yX5_lay wsX5_lay) := goodIn_app (goodIn_of _ (by decide +kernel)) ggX5_record_X5_lay
theorem dX5_record_0 : decode cX5_record 0 = .ok (.aload_n 0, 1) := by decide +kernel
theorem dX5_record_1 : decode cX5_record 1 = .ok (.getfield 40, 3) := by decide +kernel
theorem dX5_record_4 : decode cX5_record 4 = .ok (.iconst 5, 1) := by decide +kernel
theorem dX5_record_5 : decode cX5_record 5 = .ok (.if_icmp .ne 25, 3) := by decide +kernel
theorem dX5_record_8 : decode cX5_record 8 = .ok (.aload_n 0, 1) := by decide +kernel
theorem dX5_record_9 : decode cX5_record 9 = .ok (.aload_n 0, 1) := by decide +kernel
theorem dX5_record_10 : decode cX5_record 10 = .ok (.getfield 44, 3) := by decide +kernel
theorem dX5_record_13 : decode cX5_record 13 = .ok (.iconst 1, 1) := by decide +kernel
theorem dX5_record_14 : decode cX5_record 14 = .ok (.iadd, 1) := by decide +kernel
theorem dX5_record_15 : decode cX5_record 15 = .ok (.iconst 5, 1) := by decide +kernel
theorem dX5_record_16 : decode cX5_record 16 = .ok (.irem, 1) := by decide +kernel
theorem dX5_record_17 : decode cX5_record 17 = .ok (.putfield 44, 3) := by decide +kernel
theorem dX5_record_20 : decode cX5_record 20 = .ok (.aload_n 0, 1) := by decide +kernel
theorem dX5_record_21 : decode cX5_record 21 = .ok (.dup, 1) := by decide +kernel
theorem dX5_record_22 : decode cX5_record 22 = .ok (.getfield 40, 3) := by decide +kernel
theorem dX5_record_25 : decode cX5_record 25 = .ok (.iconst 1, 1) := by decide +kernel
theorem dX5_record_26 : decode cX5_record 26 = .ok (.isub, 1) := by decide +kernel
theorem dX5_record_27 : decode cX5_record 27 = .ok (.putfield 40, 3) := by decide +kernel
theorem dX5_record_30 : decode cX5_record 30 = .ok (.aload_n 0, 1) := by decide +kernel
theorem dX5_record_31 : decode cX5_record 31 = .ok (.getfield 44, 3) := by decide +kernel
theorem dX5_record_34 : decode cX5_record 34 = .ok (.aload_n 0, 1) := by decide +kernel
theorem dX5_record_35 : decode cX5_record 35 = .ok (.getfield 40, 3) := by decide +kernel
theorem dX5_record_38 : decode cX5_record 38 = .ok (.iadd, 1) := by decide +kernel
theorem dX5_record_39 : decode cX5_record 39 = .ok (.iconst 5, 1) := by decide +kernel
theorem dX5_record_40 : decode cX5_record 40 = .ok (.irem, 1) := by decide +kernel
theorem dX5_record_41 : decode cX5_record 41 = .ok (.istore_n 1, 1) := by decide +kernel
theorem dX5_record_42 : decode cX5_record 42 = .ok (.iconst 0, 1) := by decide +kernel
theorem dX5_record_43 : decode cX5_record 43 = .ok (.istore_n 2, 1) := by decide +kernel
theorem dX5_record_44 : decode cX5_record 44 = .ok (.iload_n 2, 1) := by decide +kernel
theorem dX5_record_45 : decode cX5_record 45 = .ok (.sipush 348, 3) := by decide +kernel
theorem dX5_record_48 : decode cX5_record 48 = .ok (.if_icmp .ge 21, 3) := by decide +kernel
theorem dX5_record_51 : decode cX5_record 51 = .ok (.aload_n 0, 1) := by decide +kernel
theorem dX5_record_52 : decode cX5_record 52 = .ok (.iload_n 1, 1) := by decide +kernel
theorem dX5_record_53 : decode cX5_record 53 = .ok (.iload_n 2, 1) := by decide +kernel
theorem dX5_record_54 : decode cX5_record 54 = .ok (.aload_n 0, 1) := by decide +kernel
theorem dX5_record_55 : decode cX5_record 55 = .ok (.getfield 7, 3) := by decide +kernel
theorem dX5_record_58 : decode cX5_record 58 = .ok (.iload_n 2, 1) := by decide +kernel
theorem dX5_record_59 : decode cX5_record 59 = .ok (.iaload, 1) := by decide +kernel
theorem dX5_record_60 : decode cX5_record 60 = .ok (.invokevirtual 47, 3) := by decide +kernel
theorem dX5_record_63 : decode cX5_record 63 = .ok (.iinc 2 1, 3) := by decide +kernel
theorem dX5_record_66 : decode cX5_record 66 = .ok (.goto (-22), 3) := by decide +kernel
theorem dX5_record_69 : decode cX5_record 69 = .ok (.iconst 0, 1) := by decide +kernel
theorem dX5_record_70 : decode cX5_record 70 = .ok (.istore_n 2, 1) := by decide +kernel
theorem dX5_record_71 : decode cX5_record 71 = .ok (.iload_n 2, 1) := by decide +kernel
theorem dX5_record_72 : decode cX5_record 72 = .ok (.sipush 8640, 3) := by decide +kernel
theorem dX5_record_75 : decode cX5_record 75 = .ok (.if_icmp .ge 39, 3) := by decide +kernel
theorem dX5_record_78 : decode cX5_record 78 = .ok (.aload_n 0, 1) := by decide +kernel
theorem dX5_record_79 : decode cX5_record 79 = .ok (.iload_n 1, 1) := by decide +kernel
theorem dX5_record_80 : decode cX5_record 80 = .ok (.sipush 348, 3) := by decide +kernel
theorem dX5_record_83 : decode cX5_record 83 = .ok (.iload_n 2, 1) := by decide +kernel
theorem dX5_record_84 : decode cX5_record 84 = .ok (.iconst 2, 1) := by decide +kernel
theorem dX5_record_85 : decode cX5_record 85 = .ok (.idiv, 1) := by decide +kernel
theorem dX5_record_86 : decode cX5_record 86 = .ok (.iadd, 1) := by decide +kernel
theorem dX5_record_87 : decode cX5_record 87 = .ok (.aload_n 0, 1) := by decide +kernel
theorem dX5_record_88 : decode cX5_record 88 = .ok (.getfield 13, 3) := by decide +kernel
theorem dX5_record_91 : decode cX5_record 91 = .ok (.iload_n 2, 1) := by decide +kernel
theorem dX5_record_92 : decode cX5_record 92 = .ok (.iaload, 1) := by decide +kernel
theorem dX5_record_93 : decode cX5_record 93 = .ok (.aload_n 0, 1) := by decide +kernel
theorem dX5_record_94 : decode cX5_record 94 = .ok (.getfield 13, 3) := by decide +kernel
theorem dX5_record_97 : decode cX5_record 97 = .ok (.iload_n 2, 1) := by decide +kernel
theorem dX5_record_98 : decode cX5_record 98 = .ok (.iconst 1, 1) := by decide +kernel
theorem dX5_record_99 : decode cX5_record 99 = .ok (.iadd, 1) := by decide +kernel
theorem dX5_record_100 : decode cX5_record 100 = .ok (.iaload, 1) := by decide +kernel
theorem dX5_record_101 : decode cX5_record 101 = .ok (.bipush 16, 2) := by decide +kernel
theorem dX5_record_103 : decode cX5_record 103 = .ok (.ishl, 1) := by decide +kernel
theorem dX5_record_104 : decode cX5_record 104 = .ok (.ior, 1) := by decide +kernel
theorem dX5_record_105 : decode cX5_record 105 = .ok (.invokevirtual 47, 3) := by decide +kernel
theorem dX5_record_108 : decode cX5_record 108 = .ok (.iinc 2 2, 3) := by decide +kernel
theorem dX5_record_111 : decode cX5_record 111 = .ok (.goto (-40), 3) := by decide +kernel
theorem dX5_record_114 : decode cX5_record 114 = .ok (.aload_n 0, 1) := by decide +kernel
theorem dX5_record_115 : decode cX5_record 115 = .ok (.dup, 1) := by decide +kernel
theorem dX5_record_116 : decode cX5_record 116 = .ok (.getfield 40, 3) := by decide +kernel
theorem dX5_record_119 : decode cX5_record 119 = .ok (.iconst 1, 1) := by decide +kernel
theorem dX5_record_120 : decode cX5_record 120 = .ok (.iadd, 1) := by decide +kernel
theorem dX5_record_121 : decode cX5_record 121 = .ok (.putfield 40, 3) := by decide +kernel
theorem dX5_record_124 : decode cX5_record 124 = .ok (.return_, 1) := by decide +kernel
set_option maxRecDepth 20000 in
theorem ggX5_undo_X5_past : GoodIn wsX5_undo wsX5_past := goodIn_r _ [10, 11, 12, 13, 14, 15, 16, 17, 18, 19, 20, 21, 22, 23, 24, 25, 26, 27, 28] (by decide +kernel) (by decide +kernel)
set_option maxRecDepth 20000 in
theorem gX5_undo_X5_past : GoodIn wsX5_undo (wsV RX5 51 RX5 yX5_past wsX5_past) := goodIn_app (goodIn_of _ (by decide +kernel)) ggX5_undo_X5_past
theorem dX5_undo_0 : decode cX5_undo 0 = .ok (.aload_n 0, 1) := by decide +kernel
theorem dX5_undo_1 : decode cX5_undo 1 = .ok (.getfield 40, 3) := by decide +kernel
theorem dX5_undo_4 : decode cX5_undo 4 = .ok (.ifCond .ne 6, 3) := by decide +kernel
theorem dX5_undo_7 : decode cX5_undo 7 = .ok (.bipush (-102), 2) := by decide +kernel
theorem dX5_undo_9 : decode cX5_undo 9 = .ok (.ireturn, 1) := by decide +kernel
theorem dX5_undo_10 : decode cX5_undo 10 = .ok (.aload_n 0, 1) := by decide +kernel
theorem dX5_undo_11 : decode cX5_undo 11 = .ok (.dup, 1) := by decide +kernel
theorem dX5_undo_12 : decode cX5_undo 12 = .ok (.getfield 40, 3) := by decide +kernel
theorem dX5_undo_15 : decode cX5_undo 15 = .ok (.iconst 1, 1) := by decide +kernel
theorem dX5_undo_16 : decode cX5_undo 16 = .ok (.isub, 1) := by decide +kernel
theorem dX5_undo_17 : decode cX5_undo 17 = .ok (.putfield 40, 3) := by decide +kernel
theorem dX5_undo_20 : decode cX5_undo 20 = .ok (.aload_n 0, 1) := by decide +kernel
theorem dX5_undo_21 : decode cX5_undo 21 = .ok (.getfield 44, 3) := by decide +kernel
theorem dX5_undo_24 : decode cX5_undo 24 = .ok (.aload_n 0, 1) := by decide +kernel
theorem dX5_undo_25 : decode cX5_undo 25 = .ok (.getfield 40, 3) := by decide +kernel
theorem dX5_undo_28 : decode cX5_undo 28 = .ok (.iadd, 1) := by decide +kernel
theorem dX5_undo_29 : decode cX5_undo 29 = .ok (.iconst 5, 1) := by decide +kernel
theorem dX5_undo_30 : decode cX5_undo 30 = .ok (.irem, 1) := by decide +kernel
theorem dX5_undo_31 : decode cX5_undo 31 = .ok (.istore_n 1, 1) := by decide +kernel
theorem dX5_undo_32 : decode cX5_undo 32 = .ok (.iconst 0, 1) := by decide +kernel
theorem dX5_undo_33 : decode cX5_undo 33 = .ok (.istore_n 2, 1) := by decide +kernel
theorem dX5_undo_34 : decode cX5_undo 34 = .ok (.iload_n 2, 1) := by decide +kernel
theorem dX5_undo_35 : decode cX5_undo 35 = .ok (.sipush 348, 3) := by decide +kernel
theorem dX5_undo_38 : decode cX5_undo 38 = .ok (.if_icmp .ge 21, 3) := by decide +kernel
theorem dX5_undo_41 : decode cX5_undo 41 = .ok (.aload_n 0, 1) := by decide +kernel
theorem dX5_undo_42 : decode cX5_undo 42 = .ok (.getfield 7, 3) := by decide +kernel
theorem dX5_undo_45 : decode cX5_undo 45 = .ok (.iload_n 2, 1) := by decide +kernel
theorem dX5_undo_46 : decode cX5_undo 46 = .ok (.aload_n 0, 1) := by decide +kernel
theorem dX5_undo_47 : decode cX5_undo 47 = .ok (.iload_n 1, 1) := by decide +kernel
theorem dX5_undo_48 : decode cX5_undo 48 = .ok (.iload_n 2, 1) := by decide +kernel
theorem dX5_undo_49 : decode cX5_undo 49 = .ok (.invokevirtual 51, 3) := by decide +kernel
theorem dX5_undo_52 : decode cX5_undo 52 = .ok (.iastore, 1) := by decide +kernel
theorem dX5_undo_53 : decode cX5_undo 53 = .ok (.iinc 2 1, 3) := by decide +kernel
theorem dX5_undo_56 : decode cX5_undo 56 = .ok (.goto (-22), 3) := by decide +kernel
theorem dX5_undo_59 : decode cX5_undo 59 = .ok (.iconst 0, 1) := by decide +kernel
theorem dX5_undo_60 : decode cX5_undo 60 = .ok (.istore_n 2, 1) := by decide +kernel
theorem dX5_undo_61 : decode cX5_undo 61 = .ok (.iload_n 2, 1) := by decide +kernel
theorem dX5_undo_62 : decode cX5_undo 62 = .ok (.sipush 8640, 3) := by decide +kernel
theorem dX5_undo_65 : decode cX5_undo 65 = .ok (.if_icmp .ge 44, 3) := by decide +kernel
theorem dX5_undo_68 : decode cX5_undo 68 = .ok (.aload_n 0, 1) := by decide +kernel
theorem dX5_undo_69 : decode cX5_undo 69 = .ok (.iload_n 1, 1) := by decide +kernel
theorem dX5_undo_70 : decode cX5_undo 70 = .ok (.sipush 348, 3) := by decide +kernel
theorem dX5_undo_73 : decode cX5_undo 73 = .ok (.iload_n 2, 1) := by decide +kernel
theorem dX5_undo_74 : decode cX5_undo 74 = .ok (.iconst 2, 1) := by decide +kernel
theorem dX5_undo_75 : decode cX5_undo 75 = .ok (.idiv, 1) := by decide +kernel
theorem dX5_undo_76 : decode cX5_undo 76 = .ok (.iadd, 1) := by decide +kernel
theorem dX5_undo_77 : decode cX5_undo 77 = .ok (.invokevirtual 51, 3) := by decide +kernel
theorem dX5_undo_80 : decode cX5_undo 80 = .ok (.istore_n 3, 1) := by decide +kernel
theorem dX5_undo_81 : decode cX5_undo 81 = .ok (.aload_n 0, 1) := by decide +kernel
theorem dX5_undo_82 : decode cX5_undo 82 = .ok (.getfield 13, 3) := by decide +kernel
theorem dX5_undo_85 : decode cX5_undo 85 = .ok (.iload_n 2, 1) := by decide +kernel
theorem dX5_undo_86 : decode cX5_undo 86 = .ok (.iload_n 3, 1) := by decide +kernel
theorem dX5_undo_87 : decode cX5_undo 87 = .ok (.ldc 55, 2) := by decide +kernel
theorem dX5_undo_89 : decode cX5_undo 89 = .ok (.iand, 1) := by decide +kernel
theorem dX5_undo_90 : decode cX5_undo 90 = .ok (.iastore, 1) := by decide +kernel
theorem dX5_undo_91 : decode cX5_undo 91 = .ok (.aload_n 0, 1) := by decide +kernel
theorem dX5_undo_92 : decode cX5_undo 92 = .ok (.getfield 13, 3) := by decide +kernel
theorem dX5_undo_95 : decode cX5_undo 95 = .ok (.iload_n 2, 1) := by decide +kernel
theorem dX5_undo_96 : decode cX5_undo 96 = .ok (.iconst 1, 1) := by decide +kernel
theorem dX5_undo_97 : decode cX5_undo 97 = .ok (.iadd, 1) := by decide +kernel
theorem dX5_undo_98 : decode cX5_undo 98 = .ok (.iload_n 3, 1) := by decide +kernel
theorem dX5_undo_99 : decode cX5_undo 99 = .ok (.bipush 16, 2) := by decide +kernel
theorem dX5_undo_101 : decode cX5_undo 101 = .ok (.iushr, 1) := by decide +kernel
theorem dX5_undo_102 : decode cX5_undo 102 = .ok (.iastore, 1) := by decide +kernel
theorem dX5_undo_103 : decode cX5_undo 103 = .ok (.iinc 2 2, 3) := by decide +kernel
theorem dX5_undo_106 : decode cX5_undo 106 = .ok (.goto (-45), 3) := by decide +kernel
theorem dX5_undo_109 : decode cX5_undo 109 = .ok (.aload_n 0, 1) := by decide +kernel
theorem dX5_undo_110 : decode cX5_undo 110 = .ok (.getfield 40, 3) := by decide +kernel
theorem dX5_undo_113 : decode cX5_undo 113 = .ok (.ireturn, 1) := by decide +kernel
theorem dX5_setAside_0 : decode cX5_setAside 0 = .ok (.iconst 0, 1) := by decide +kernel
theorem dX5_setAside_1 : decode cX5_setAside 1 = .ok (.istore_n 1, 1) := by decide +kernel
theorem dX5_setAside_2 : decode cX5_setAside 2 = .ok (.iload_n 1, 1) := by decide +kernel
theorem dX5_setAside_3 : decode cX5_setAside 3 = .ok (.sipush 348, 3) := by decide +kernel
theorem dX5_setAside_6 : decode cX5_setAside 6 = .ok (.if_icmp .ge 21, 3) := by decide +kernel
theorem dX5_setAside_9 : decode cX5_setAside 9 = .ok (.aload_n 0, 1) := by decide +kernel
theorem dX5_setAside_10 : decode cX5_setAside 10 = .ok (.getfield 16, 3) := by decide +kernel
theorem dX5_setAside_13 : decode cX5_setAside 13 = .ok (.iload_n 1, 1) := by decide +kernel
theorem dX5_setAside_14 : decode cX5_setAside 14 = .ok (.aload_n 0, 1) := by decide +kernel
theorem dX5_setAside_15 : decode cX5_setAside 15 = .ok (.getfield 7, 3) := by decide +kernel
theorem dX5_setAside_18 : decode cX5_setAside 18 = .ok (.iload_n 1, 1) := by decide +kernel
theorem dX5_setAside_19 : decode cX5_setAside 19 = .ok (.iaload, 1) := by decide +kernel
theorem dX5_setAside_20 : decode cX5_setAside 20 = .ok (.iastore, 1) := by decide +kernel
theorem dX5_setAside_21 : decode cX5_setAside 21 = .ok (.iinc 1 1, 3) := by decide +kernel
theorem dX5_setAside_24 : decode cX5_setAside 24 = .ok (.goto (-22), 3) := by decide +kernel
theorem dX5_setAside_27 : decode cX5_setAside 27 = .ok (.iconst 0, 1) := by decide +kernel
theorem dX5_setAside_28 : decode cX5_setAside 28 = .ok (.istore_n 1, 1) := by decide +kernel
theorem dX5_setAside_29 : decode cX5_setAside 29 = .ok (.iload_n 1, 1) := by decide +kernel
theorem dX5_setAside_30 : decode cX5_setAside 30 = .ok (.sipush 8640, 3) := by decide +kernel
theorem dX5_setAside_33 : decode cX5_setAside 33 = .ok (.if_icmp .ge 21, 3) := by decide +kernel
theorem dX5_setAside_36 : decode cX5_setAside 36 = .ok (.aload_n 0, 1) := by decide +kernel
theorem dX5_setAside_37 : decode cX5_setAside 37 = .ok (.getfield 19, 3) := by decide +kernel
theorem dX5_setAside_40 : decode cX5_setAside 40 = .ok (.iload_n 1, 1) := by decide +kernel
theorem dX5_setAside_41 : decode cX5_setAside 41 = .ok (.aload_n 0, 1) := by decide +kernel
theorem dX5_setAside_42 : decode cX5_setAside 42 = .ok (.getfield 13, 3) := by decide +kernel
theorem dX5_setAside_45 : decode cX5_setAside 45 = .ok (.iload_n 1, 1) := by decide +kernel
theorem dX5_setAside_46 : decode cX5_setAside 46 = .ok (.iaload, 1) := by decide +kernel
theorem dX5_setAside_47 : decode cX5_setAside 47 = .ok (.iastore, 1) := by decide +kernel
theorem dX5_setAside_48 : decode cX5_setAside 48 = .ok (.iinc 1 1, 3) := by decide +kernel
theorem dX5_setAside_51 : decode cX5_setAside 51 = .ok (.goto (-22), 3) := by decide +kernel
theorem dX5_setAside_54 : decode cX5_setAside 54 = .ok (.return_, 1) := by decide +kernel
theorem dX5_bringBack_0 : decode cX5_bringBack 0 = .ok (.iconst 0, 1) := by decide +kernel
theorem dX5_bringBack_1 : decode cX5_bringBack 1 = .ok (.istore_n 1, 1) := by decide +kernel
theorem dX5_bringBack_2 : decode cX5_bringBack 2 = .ok (.iload_n 1, 1) := by decide +kernel
theorem dX5_bringBack_3 : decode cX5_bringBack 3 = .ok (.sipush 348, 3) := by decide +kernel
theorem dX5_bringBack_6 : decode cX5_bringBack 6 = .ok (.if_icmp .ge 21, 3) := by decide +kernel
theorem dX5_bringBack_9 : decode cX5_bringBack 9 = .ok (.aload_n 0, 1) := by decide +kernel
theorem dX5_bringBack_10 : decode cX5_bringBack 10 = .ok (.getfield 7, 3) := by decide +kernel
theorem dX5_bringBack_13 : decode cX5_bringBack 13 = .ok (.iload_n 1, 1) := by decide +kernel
theorem dX5_bringBack_14 : decode cX5_bringBack 14 = .ok (.aload_n 0, 1) := by decide +kernel
theorem dX5_bringBack_15 : decode cX5_bringBack 15 = .ok (.getfield 16, 3) := by decide +kernel
theorem dX5_bringBack_18 : decode cX5_bringBack 18 = .ok (.iload_n 1, 1) := by decide +kernel
theorem dX5_bringBack_19 : decode cX5_bringBack 19 = .ok (.iaload, 1) := by decide +kernel
theorem dX5_bringBack_20 : decode cX5_bringBack 20 = .ok (.iastore, 1) := by decide +kernel
theorem dX5_bringBack_21 : decode cX5_bringBack 21 = .ok (.iinc 1 1, 3) := by decide +kernel
theorem dX5_bringBack_24 : decode cX5_bringBack 24 = .ok (.goto (-22), 3) := by decide +kernel
theorem dX5_bringBack_27 : decode cX5_bringBack 27 = .ok (.iconst 0, 1) := by decide +kernel
theorem dX5_bringBack_28 : decode cX5_bringBack 28 = .ok (.istore_n 1, 1) := by decide +kernel
theorem dX5_bringBack_29 : decode cX5_bringBack 29 = .ok (.iload_n 1, 1) := by decide +kernel
theorem dX5_bringBack_30 : decode cX5_bringBack 30 = .ok (.sipush 8640, 3) := by decide +kernel
theorem dX5_bringBack_33 : decode cX5_bringBack 33 = .ok (.if_icmp .ge 21, 3) := by decide +kernel
theorem dX5_bringBack_36 : decode cX5_bringBack 36 = .ok (.aload_n 0, 1) := by decide +kernel
theorem dX5_bringBack_37 : decode cX5_bringBack 37 = .ok (.getfield 13, 3) := by decide +kernel
theorem dX5_bringBack_40 : decode cX5_bringBack 40 = .ok (.iload_n 1, 1) := by decide +kernel
theorem dX5_bringBack_41 : decode cX5_bringBack 41 = .ok (.aload_n 0, 1) := by decide +kernel
theorem dX5_bringBack_42 : decode cX5_bringBack 42 = .ok (.getfield 19, 3) := by decide +kernel
theorem dX5_bringBack_45 : decode cX5_bringBack 45 = .ok (.iload_n 1, 1) := by decide +kernel
theorem dX5_bringBack_46 : decode cX5_bringBack 46 = .ok (.iaload, 1) := by decide +kernel
theorem dX5_bringBack_47 : decode cX5_bringBack 47 = .ok (.iastore, 1) := by decide +kernel
theorem dX5_bringBack_48 : decode cX5_bringBack 48 = .ok (.iinc 1 1, 3) := by decide +kernel
theorem dX5_bringBack_51 : decode cX5_bringBack 51 = .ok (.goto (-22), 3) := by decide +kernel
theorem dX5_bringBack_54 : decode cX5_bringBack 54 = .ok (.return_, 1) := by decide +kernel
set_option maxRecDepth 20000 in
theorem ggX5_isPicture_X5_in : GoodIn wsX5_isPicture wsX5_in := goodIn_r _ [5] (by decide +kernel) (by decide +kernel)
set_option maxRecDepth 20000 in
theorem gX5_isPicture_X5_in : GoodIn wsX5_isPicture (va_wsS RX5 56 yX5_in wsX5_in) := goodIn_app (goodIn_of _ (by decide +kernel)) ggX5_isPicture_X5_in
theorem dX5_isPicture_0 : decode cX5_isPicture 0 = .ok (.iload_n 1, 1) := by decide +kernel
theorem dX5_isPicture_1 : decode cX5_isPicture 1 = .ok (.iconst 0, 1) := by decide +kernel
theorem dX5_isPicture_2 : decode cX5_isPicture 2 = .ok (.aload_n 0, 1) := by decide +kernel
theorem dX5_isPicture_3 : decode cX5_isPicture 3 = .ok (.getfield 7, 3) := by decide +kernel
theorem dX5_isPicture_6 : decode cX5_isPicture 6 = .ok (.bipush 11, 2) := by decide +kernel
theorem dX5_isPicture_8 : decode cX5_isPicture 8 = .ok (.iaload, 1) := by decide +kernel
theorem dX5_isPicture_9 : decode cX5_isPicture 9 = .ok (.iconst 1, 1) := by decide +kernel
theorem dX5_isPicture_10 : decode cX5_isPicture 10 = .ok (.isub, 1) := by decide +kernel
theorem dX5_isPicture_11 : decode cX5_isPicture 11 = .ok (.invokestatic 56, 3) := by decide +kernel
theorem dX5_isPicture_14 : decode cX5_isPicture 14 = .ok (.ireturn, 1) := by decide +kernel
theorem dX5_of_0 : decode cX5_of 0 = .ok (.aload_n 0, 1) := by decide +kernel
theorem dX5_of_1 : decode cX5_of 1 = .ok (.getfield 7, 3) := by decide +kernel
theorem dX5_of_4 : decode cX5_of 4 = .ok (.bipush 12, 2) := by decide +kernel
theorem dX5_of_6 : decode cX5_of 6 = .ok (.iconst 4, 1) := by decide +kernel
theorem dX5_of_7 : decode cX5_of 7 = .ok (.iload_n 1, 1) := by decide +kernel
theorem dX5_of_8 : decode cX5_of 8 = .ok (.imul, 1) := by decide +kernel
theorem dX5_of_9 : decode cX5_of 9 = .ok (.iadd, 1) := by decide +kernel
theorem dX5_of_10 : decode cX5_of 10 = .ok (.iload_n 2, 1) := by decide +kernel
theorem dX5_of_11 : decode cX5_of 11 = .ok (.iadd, 1) := by decide +kernel
theorem dX5_of_12 : decode cX5_of 12 = .ok (.iaload, 1) := by decide +kernel
theorem dX5_of_13 : decode cX5_of 13 = .ok (.ireturn, 1) := by decide +kernel
set_option maxRecDepth 20000 in
theorem ggX5_isLight_X5_in : GoodIn wsX5_isLight wsX5_in := goodIn_r _ [4] (by decide +kernel) (by decide +kernel)
set_option maxRecDepth 20000 in
theorem gX5_isLight_X5_in : GoodIn wsX5_isLight (va_wsS RX5 56 yX5_in wsX5_in) := goodIn_app (goodIn_of _ (by decide +kernel)) ggX5_isLight_X5_in
theorem dX5_isLight_0 : decode cX5_isLight 0 = .ok (.iload_n 0, 1) := by decide +kernel
theorem dX5_isLight_1 : decode cX5_isLight 1 = .ok (.iconst 0, 1) := by decide +kernel
theorem dX5_isLight_2 : decode cX5_isLight 2 = .ok (.bipush 11, 2) := by decide +kernel
theorem dX5_isLight_4 : decode cX5_isLight 4 = .ok (.invokestatic 56, 3) := by decide +kernel
theorem dX5_isLight_7 : decode cX5_isLight 7 = .ok (.ireturn, 1) := by decide +kernel
theorem dX5_cellOf_0 : decode cX5_cellOf 0 = .ok (.bipush 28, 2) := by decide +kernel
theorem dX5_cellOf_2 : decode cX5_cellOf 2 = .ok (.bipush 80, 2) := by decide +kernel
theorem dX5_cellOf_4 : decode cX5_cellOf 4 = .ok (.iload_n 0, 1) := by decide +kernel
theorem dX5_cellOf_5 : decode cX5_cellOf 5 = .ok (.imul, 1) := by decide +kernel
theorem dX5_cellOf_6 : decode cX5_cellOf 6 = .ok (.iadd, 1) := by decide +kernel
theorem dX5_cellOf_7 : decode cX5_cellOf 7 = .ok (.iconst 2, 1) := by decide +kernel
theorem dX5_cellOf_8 : decode cX5_cellOf 8 = .ok (.iload_n 1, 1) := by decide +kernel
theorem dX5_cellOf_9 : decode cX5_cellOf 9 = .ok (.imul, 1) := by decide +kernel
theorem dX5_cellOf_10 : decode cX5_cellOf 10 = .ok (.iadd, 1) := by decide +kernel
theorem dX5_cellOf_11 : decode cX5_cellOf 11 = .ok (.iload_n 2, 1) := by decide +kernel
theorem dX5_cellOf_12 : decode cX5_cellOf 12 = .ok (.bipush 6, 2) := by decide +kernel
theorem dX5_cellOf_14 : decode cX5_cellOf 14 = .ok (.idiv, 1) := by decide +kernel
theorem dX5_cellOf_15 : decode cX5_cellOf 15 = .ok (.iadd, 1) := by decide +kernel
theorem dX5_cellOf_16 : decode cX5_cellOf 16 = .ok (.ireturn, 1) := by decide +kernel
set_option maxRecDepth 20000 in
theorem ggX5_colorOf_X5_cellOf : GoodIn wsX5_colorOf wsX5_cellOf := goodIn_r _ [5] (by decide +kernel) (by decide +kernel)
set_option maxRecDepth 20000 in
theorem gX5_colorOf_X5_cellOf : GoodIn wsX5_colorOf (va_wsS RX5 60 yX5_cellOf wsX5_cellOf) := goodIn_app (goodIn_of _ (by decide +kernel)) ggX5_colorOf_X5_cellOf
theorem dX5_colorOf_0 : decode cX5_colorOf 0 = .ok (.aload_n 0, 1) := by decide +kernel
theorem dX5_colorOf_1 : decode cX5_colorOf 1 = .ok (.getfield 7, 3) := by decide +kernel
theorem dX5_colorOf_4 : decode cX5_colorOf 4 = .ok (.iload_n 1, 1) := by decide +kernel
theorem dX5_colorOf_5 : decode cX5_colorOf 5 = .ok (.iload_n 2, 1) := by decide +kernel
theorem dX5_colorOf_6 : decode cX5_colorOf 6 = .ok (.iload_n 3, 1) := by decide +kernel
theorem dX5_colorOf_7 : decode cX5_colorOf 7 = .ok (.invokestatic 60, 3) := by decide +kernel
theorem dX5_colorOf_10 : decode cX5_colorOf 10 = .ok (.iaload, 1) := by decide +kernel
theorem dX5_colorOf_11 : decode cX5_colorOf 11 = .ok (.iconst 3, 1) := by decide +kernel
theorem dX5_colorOf_12 : decode cX5_colorOf 12 = .ok (.iload_n 3, 1) := by decide +kernel
theorem dX5_colorOf_13 : decode cX5_colorOf 13 = .ok (.bipush 6, 2) := by decide +kernel
theorem dX5_colorOf_15 : decode cX5_colorOf 15 = .ok (.irem, 1) := by decide +kernel
theorem dX5_colorOf_16 : decode cX5_colorOf 16 = .ok (.imul, 1) := by decide +kernel
theorem dX5_colorOf_17 : decode cX5_colorOf 17 = .ok (.ishr, 1) := by decide +kernel
theorem dX5_colorOf_18 : decode cX5_colorOf 18 = .ok (.bipush 7, 2) := by decide +kernel
theorem dX5_colorOf_20 : decode cX5_colorOf 20 = .ok (.iand, 1) := by decide +kernel
theorem dX5_colorOf_21 : decode cX5_colorOf 21 = .ok (.ireturn, 1) := by decide +kernel
set_option maxRecDepth 20000 in
theorem ggX5_putColor_X5_cellOf : GoodIn wsX5_putColor wsX5_cellOf := goodIn_r _ [5] (by decide +kernel) (by decide +kernel)
set_option maxRecDepth 20000 in
theorem gX5_putColor_X5_cellOf : GoodIn wsX5_putColor (va_wsS RX5 60 yX5_cellOf wsX5_cellOf) := goodIn_app (goodIn_of _ (by decide +kernel)) ggX5_putColor_X5_cellOf
theorem dX5_putColor_0 : decode cX5_putColor 0 = .ok (.iload_n 1, 1) := by decide +kernel
theorem dX5_putColor_1 : decode cX5_putColor 1 = .ok (.iload_n 2, 1) := by decide +kernel
theorem dX5_putColor_2 : decode cX5_putColor 2 = .ok (.iload_n 3, 1) := by decide +kernel
theorem dX5_putColor_3 : decode cX5_putColor 3 = .ok (.invokestatic 60, 3) := by decide +kernel
theorem dX5_putColor_6 : decode cX5_putColor 6 = .ok (.istore 5, 2) := by decide +kernel
theorem dX5_putColor_8 : decode cX5_putColor 8 = .ok (.iconst 3, 1) := by decide +kernel
theorem dX5_putColor_9 : decode cX5_putColor 9 = .ok (.iload_n 3, 1) := by decide +kernel
theorem dX5_putColor_10 : decode cX5_putColor 10 = .ok (.bipush 6, 2) := by decide +kernel
theorem dX5_putColor_12 : decode cX5_putColor 12 = .ok (.irem, 1) := by decide +kernel
theorem dX5_putColor_13 : decode cX5_putColor 13 = .ok (.imul, 1) := by decide +kernel
theorem dX5_putColor_14 : decode cX5_putColor 14 = .ok (.istore 6, 2) := by decide +kernel
theorem dX5_putColor_16 : decode cX5_putColor 16 = .ok (.aload_n 0, 1) := by decide +kernel
theorem dX5_putColor_17 : decode cX5_putColor 17 = .ok (.getfield 7, 3) := by decide +kernel
theorem dX5_putColor_20 : decode cX5_putColor 20 = .ok (.iload 5, 2) := by decide +kernel
theorem dX5_putColor_22 : decode cX5_putColor 22 = .ok (.aload_n 0, 1) := by decide +kernel
theorem dX5_putColor_23 : decode cX5_putColor 23 = .ok (.getfield 7, 3) := by decide +kernel
theorem dX5_putColor_26 : decode cX5_putColor 26 = .ok (.iload 5, 2) := by decide +kernel
theorem dX5_putColor_28 : decode cX5_putColor 28 = .ok (.iaload, 1) := by decide +kernel
theorem dX5_putColor_29 : decode cX5_putColor 29 = .ok (.bipush 7, 2) := by decide +kernel
theorem dX5_putColor_31 : decode cX5_putColor 31 = .ok (.iload 6, 2) := by decide +kernel
theorem dX5_putColor_33 : decode cX5_putColor 33 = .ok (.ishl, 1) := by decide +kernel
theorem dX5_putColor_34 : decode cX5_putColor 34 = .ok (.iconst (-1), 1) := by decide +kernel
theorem dX5_putColor_35 : decode cX5_putColor 35 = .ok (.ixor, 1) := by decide +kernel
theorem dX5_putColor_36 : decode cX5_putColor 36 = .ok (.iand, 1) := by decide +kernel
theorem dX5_putColor_37 : decode cX5_putColor 37 = .ok (.iload 4, 2) := by decide +kernel
theorem dX5_putColor_39 : decode cX5_putColor 39 = .ok (.iload 6, 2) := by decide +kernel
theorem dX5_putColor_41 : decode cX5_putColor 41 = .ok (.ishl, 1) := by decide +kernel
theorem dX5_putColor_42 : decode cX5_putColor 42 = .ok (.ior, 1) := by decide +kernel
theorem dX5_putColor_43 : decode cX5_putColor 43 = .ok (.iastore, 1) := by decide +kernel
theorem dX5_putColor_44 : decode cX5_putColor 44 = .ok (.return_, 1) := by decide +kernel
set_option maxRecDepth 20000 in
theorem ggX5_covered_X5_of : GoodIn wsX5_covered wsX5_of := goodIn_r _ [5, 6, 10, 11, 12, 13, 14, 15, 16, 17, 18, 19, 20, 21, 22, 23, 24, 25] (by decide +kernel) (by decide +kernel)
set_option maxRecDepth 20000 in
theorem gX5_covered_X5_of : GoodIn wsX5_covered (wsV RX5 64 RX5 yX5_of wsX5_of) := goodIn_app (goodIn_of _ (by decide +kernel)) ggX5_covered_X5_of
set_option maxRecDepth 20000 in
theorem ggX5_covered_X5_lesser : GoodIn wsX5_covered wsX5_lesser := goodIn_r _ [9] (by decide +kernel) (by decide +kernel)
set_option maxRecDepth 20000 in
theorem gX5_covered_X5_lesser : GoodIn wsX5_covered (va_wsS RX5 67 yX5_lesser wsX5_lesser) := goodIn_app (goodIn_of _ (by decide +kernel)) ggX5_covered_X5_lesser
theorem dX5_covered_0 : decode cX5_covered 0 = .ok (.aload_n 0, 1) := by decide +kernel
theorem dX5_covered_1 : decode cX5_covered 1 = .ok (.iload_n 1, 1) := by decide +kernel
theorem dX5_covered_2 : decode cX5_covered 2 = .ok (.iconst 0, 1) := by decide +kernel
theorem dX5_covered_3 : decode cX5_covered 3 = .ok (.invokevirtual 64, 3) := by decide +kernel
theorem dX5_covered_6 : decode cX5_covered 6 = .ok (.aload_n 0, 1) := by decide +kernel
theorem dX5_covered_7 : decode cX5_covered 7 = .ok (.iload_n 1, 1) := by decide +kernel
theorem dX5_covered_8 : decode cX5_covered 8 = .ok (.iconst 2, 1) := by decide +kernel
theorem dX5_covered_9 : decode cX5_covered 9 = .ok (.invokevirtual 64, 3) := by decide +kernel
theorem dX5_covered_12 : decode cX5_covered 12 = .ok (.imul, 1) := by decide +kernel
theorem dX5_covered_13 : decode cX5_covered 13 = .ok (.sipush 720, 3) := by decide +kernel
theorem dX5_covered_16 : decode cX5_covered 16 = .ok (.invokestatic 67, 3) := by decide +kernel
theorem dX5_covered_19 : decode cX5_covered 19 = .ok (.ireturn, 1) := by decide +kernel
set_option maxRecDepth 20000 in
theorem ggX5_columnOf_X5_of : GoodIn wsX5_columnOf wsX5_of := goodIn_r _ [5, 6, 17, 18, 19, 20, 21, 22, 23, 24, 25, 26, 27, 28, 29, 30, 31, 32] (by decide +kernel) (by decide +kernel)
set_option maxRecDepth 20000 in
theorem gX5_columnOf_X5_of : GoodIn wsX5_columnOf (wsV RX5 64 RX5 yX5_of wsX5_of) := goodIn_app (goodIn_of _ (by decide +kernel)) ggX5_columnOf_X5_of
set_option maxRecDepth 20000 in
theorem ggX5_columnOf_X5_around : GoodIn wsX5_columnOf wsX5_around := goodIn_r _ [9] (by decide +kernel) (by decide +kernel)
set_option maxRecDepth 20000 in
theorem gX5_columnOf_X5_around : GoodIn wsX5_columnOf (va_wsS RX5 70 yX5_around wsX5_around) := goodIn_app (goodIn_of _ (by decide +kernel)) ggX5_columnOf_X5_around
set_option maxRecDepth 20000 in
theorem ggX5_columnOf_X5_covered : GoodIn wsX5_columnOf wsX5_covered := goodIn_r _ [13, 1, 2, 3, 4, 5, 6, 14, 15, 16, 17, 18, 19, 20, 21, 22, 23, 24, 25, 26, 27, 28, 29, 30, 31, 32] (by decide +kernel) (by decide +kernel)
set_option maxRecDepth 20000 in
theorem gX5_columnOf_X5_covered : GoodIn wsX5_columnOf (wsV RX5 74 RX5 yX5_covered wsX5_covered) := goodIn_app (goodIn_of _ (by decide +kernel)) ggX5_columnOf_X5_covered
theorem dX5_columnOf_0 : decode cX5_columnOf 0 = .ok (.iload_n 2, 1) := by decide +kernel
theorem dX5_columnOf_1 : decode cX5_columnOf 1 = .ok (.aload_n 0, 1) := by decide +kernel
theorem dX5_columnOf_2 : decode cX5_columnOf 2 = .ok (.iload_n 1, 1) := by decide +kernel
theorem dX5_columnOf_3 : decode cX5_columnOf 3 = .ok (.iconst 1, 1) := by decide +kernel
theorem dX5_columnOf_4 : decode cX5_columnOf 4 = .ok (.invokevirtual 64, 3) := by decide +kernel
theorem dX5_columnOf_7 : decode cX5_columnOf 7 = .ok (.isub, 1) := by decide +kernel
theorem dX5_columnOf_8 : decode cX5_columnOf 8 = .ok (.invokestatic 70, 3) := by decide +kernel
theorem dX5_columnOf_11 : decode cX5_columnOf 11 = .ok (.istore_n 3, 1) := by decide +kernel
theorem dX5_columnOf_12 : decode cX5_columnOf 12 = .ok (.iload_n 3, 1) := by decide +kernel
theorem dX5_columnOf_13 : decode cX5_columnOf 13 = .ok (.aload_n 0, 1) := by decide +kernel
theorem dX5_columnOf_14 : decode cX5_columnOf 14 = .ok (.iload_n 1, 1) := by decide +kernel
theorem dX5_columnOf_15 : decode cX5_columnOf 15 = .ok (.invokevirtual 74, 3) := by decide +kernel
theorem dX5_columnOf_18 : decode cX5_columnOf 18 = .ok (.if_icmp .lt 6, 3) := by decide +kernel
theorem dX5_columnOf_21 : decode cX5_columnOf 21 = .ok (.bipush (-109), 2) := by decide +kernel
theorem dX5_columnOf_23 : decode cX5_columnOf 23 = .ok (.ireturn, 1) := by decide +kernel
theorem dX5_columnOf_24 : decode cX5_columnOf 24 = .ok (.iload_n 3, 1) := by decide +kernel
theorem dX5_columnOf_25 : decode cX5_columnOf 25 = .ok (.aload_n 0, 1) := by decide +kernel
theorem dX5_columnOf_26 : decode cX5_columnOf 26 = .ok (.iload_n 1, 1) := by decide +kernel
theorem dX5_columnOf_27 : decode cX5_columnOf 27 = .ok (.iconst 2, 1) := by decide +kernel
theorem dX5_columnOf_28 : decode cX5_columnOf 28 = .ok (.invokevirtual 64, 3) := by decide +kernel
theorem dX5_columnOf_31 : decode cX5_columnOf 31 = .ok (.idiv, 1) := by decide +kernel
theorem dX5_columnOf_32 : decode cX5_columnOf 32 = .ok (.istore 4, 2) := by decide +kernel
theorem dX5_columnOf_34 : decode cX5_columnOf 34 = .ok (.aload_n 0, 1) := by decide +kernel
theorem dX5_columnOf_35 : decode cX5_columnOf 35 = .ok (.iload_n 1, 1) := by decide +kernel
theorem dX5_columnOf_36 : decode cX5_columnOf 36 = .ok (.iconst 3, 1) := by decide +kernel
theorem dX5_columnOf_37 : decode cX5_columnOf 37 = .ok (.invokevirtual 64, 3) := by decide +kernel
theorem dX5_columnOf_40 : decode cX5_columnOf 40 = .ok (.iconst 1, 1) := by decide +kernel
theorem dX5_columnOf_41 : decode cX5_columnOf 41 = .ok (.if_icmp .ne 17, 3) := by decide +kernel
theorem dX5_columnOf_44 : decode cX5_columnOf 44 = .ok (.aload_n 0, 1) := by decide +kernel
theorem dX5_columnOf_45 : decode cX5_columnOf 45 = .ok (.iload_n 1, 1) := by decide +kernel
theorem dX5_columnOf_46 : decode cX5_columnOf 46 = .ok (.iconst 0, 1) := by decide +kernel
theorem dX5_columnOf_47 : decode cX5_columnOf 47 = .ok (.invokevirtual 64, 3) := by decide +kernel
theorem dX5_columnOf_50 : decode cX5_columnOf 50 = .ok (.iconst 1, 1) := by decide +kernel
theorem dX5_columnOf_51 : decode cX5_columnOf 51 = .ok (.isub, 1) := by decide +kernel
theorem dX5_columnOf_52 : decode cX5_columnOf 52 = .ok (.iload 4, 2) := by decide +kernel
theorem dX5_columnOf_54 : decode cX5_columnOf 54 = .ok (.isub, 1) := by decide +kernel
theorem dX5_columnOf_55 : decode cX5_columnOf 55 = .ok (.goto 5, 3) := by decide +kernel
theorem dX5_columnOf_58 : decode cX5_columnOf 58 = .ok (.iload 4, 2) := by decide +kernel
theorem dX5_columnOf_60 : decode cX5_columnOf 60 = .ok (.ireturn, 1) := by decide +kernel
set_option maxRecDepth 20000 in
theorem ggX5_wanted_X5_of : GoodIn wsX5_wanted wsX5_of := goodIn_r _ [6, 1, 28, 29, 30, 31, 32, 33, 34, 35, 36, 37, 38, 39, 40, 41, 42, 43] (by decide +kernel) (by decide +kernel)
set_option maxRecDepth 20000 in
theorem gX5_wanted_X5_of : GoodIn wsX5_wanted (wsV RX5 64 RX5 yX5_of wsX5_of) := goodIn_app (goodIn_of _ (by decide +kernel)) ggX5_wanted_X5_of
set_option maxRecDepth 20000 in
theorem ggX5_wanted_X5_columnOf : GoodIn wsX5_wanted wsX5_columnOf := goodIn_r _ [10, 2, 3, 4, 5, 6, 1, 11, 12, 13, 14, 15, 16, 17, 18, 19, 20, 28, 29, 30, 31, 32, 33, 34, 35, 36, 37, 38, 39, 40, 41, 42, 43] (by decide +kernel) (by decide +kernel)
set_option maxRecDepth 20000 in
theorem gX5_wanted_X5_columnOf : GoodIn wsX5_wanted (wsV RX5 77 RX5 yX5_columnOf wsX5_columnOf) := goodIn_app (goodIn_of _ (by decide +kernel)) ggX5_wanted_X5_columnOf
set_option maxRecDepth 20000 in
theorem ggX5_wanted_X5_colorOf : GoodIn wsX5_wanted wsX5_colorOf := goodIn_r _ [24, 1, 25, 26, 5, 27, 28, 29, 30, 31, 32, 33, 34, 35, 36, 37, 38, 39, 40, 41, 42, 43] (by decide +kernel) (by decide +kernel)
set_option maxRecDepth 20000 in
theorem gX5_wanted_X5_colorOf : GoodIn wsX5_wanted (wsV RX5 80 RX5 yX5_colorOf wsX5_colorOf) := goodIn_app (goodIn_of _ (by decide +kernel)) ggX5_wanted_X5_colorOf
theorem dX5_wanted_0 : decode cX5_wanted 0 = .ok (.iconst 0, 1) := by decide +kernel
theorem dX5_wanted_1 : decode cX5_wanted 1 = .ok (.istore_n 3, 1) := by decide +kernel
theorem dX5_wanted_2 : decode cX5_wanted 2 = .ok (.iconst 0, 1) := by decide +kernel
theorem dX5_wanted_3 : decode cX5_wanted 3 = .ok (.istore 4, 2) := by decide +kernel
theorem dX5_wanted_5 : decode cX5_wanted 5 = .ok (.iload 4, 2) := by decide +kernel
theorem dX5_wanted_7 : decode cX5_wanted 7 = .ok (.aload_n 0, 1) := by decide +kernel
theorem dX5_wanted_8 : decode cX5_wanted 8 = .ok (.getfield 7, 3) := by decide +kernel
theorem dX5_wanted_11 : decode cX5_wanted 11 = .ok (.bipush 11, 2) := by decide +kernel
theorem dX5_wanted_13 : decode cX5_wanted 13 = .ok (.iaload, 1) := by decide +kernel
theorem dX5_wanted_14 : decode cX5_wanted 14 = .ok (.if_icmp .ge 57, 3) := by decide +kernel
theorem dX5_wanted_17 : decode cX5_wanted 17 = .ok (.aload_n 0, 1) := by decide +kernel
theorem dX5_wanted_18 : decode cX5_wanted 18 = .ok (.iload 4, 2) := by decide +kernel
theorem dX5_wanted_20 : decode cX5_wanted 20 = .ok (.iconst 3, 1) := by decide +kernel
theorem dX5_wanted_21 : decode cX5_wanted 21 = .ok (.invokevirtual 64, 3) := by decide +kernel
theorem dX5_wanted_24 : decode cX5_wanted 24 = .ok (.iconst 2, 1) := by decide +kernel
theorem dX5_wanted_25 : decode cX5_wanted 25 = .ok (.if_icmp .ne 8, 3) := by decide +kernel
theorem dX5_wanted_28 : decode cX5_wanted 28 = .ok (.bipush (-109), 2) := by decide +kernel
theorem dX5_wanted_30 : decode cX5_wanted 30 = .ok (.goto 10, 3) := by decide +kernel
theorem dX5_wanted_33 : decode cX5_wanted 33 = .ok (.aload_n 0, 1) := by decide +kernel
theorem dX5_wanted_34 : decode cX5_wanted 34 = .ok (.iload 4, 2) := by decide +kernel
theorem dX5_wanted_36 : decode cX5_wanted 36 = .ok (.iload_n 1, 1) := by decide +kernel
theorem dX5_wanted_37 : decode cX5_wanted 37 = .ok (.invokevirtual 77, 3) := by decide +kernel
theorem dX5_wanted_40 : decode cX5_wanted 40 = .ok (.istore 5, 2) := by decide +kernel
theorem dX5_wanted_42 : decode cX5_wanted 42 = .ok (.iload_n 3, 1) := by decide +kernel
theorem dX5_wanted_43 : decode cX5_wanted 43 = .ok (.iload 5, 2) := by decide +kernel
theorem dX5_wanted_45 : decode cX5_wanted 45 = .ok (.bipush (-109), 2) := by decide +kernel
theorem dX5_wanted_47 : decode cX5_wanted 47 = .ok (.if_icmp .ne 7, 3) := by decide +kernel
theorem dX5_wanted_50 : decode cX5_wanted 50 = .ok (.iconst 0, 1) := by decide +kernel
theorem dX5_wanted_51 : decode cX5_wanted 51 = .ok (.goto 12, 3) := by decide +kernel
theorem dX5_wanted_54 : decode cX5_wanted 54 = .ok (.aload_n 0, 1) := by decide +kernel
theorem dX5_wanted_55 : decode cX5_wanted 55 = .ok (.iload 4, 2) := by decide +kernel
theorem dX5_wanted_57 : decode cX5_wanted 57 = .ok (.iload 5, 2) := by decide +kernel
theorem dX5_wanted_59 : decode cX5_wanted 59 = .ok (.iload_n 2, 1) := by decide +kernel
theorem dX5_wanted_60 : decode cX5_wanted 60 = .ok (.invokevirtual 80, 3) := by decide +kernel
theorem dX5_wanted_63 : decode cX5_wanted 63 = .ok (.ior, 1) := by decide +kernel
theorem dX5_wanted_64 : decode cX5_wanted 64 = .ok (.istore_n 3, 1) := by decide +kernel
theorem dX5_wanted_65 : decode cX5_wanted 65 = .ok (.iinc 4 1, 3) := by decide +kernel
theorem dX5_wanted_68 : decode cX5_wanted 68 = .ok (.goto (-63), 3) := by decide +kernel
theorem dX5_wanted_71 : decode cX5_wanted 71 = .ok (.iload_n 3, 1) := by decide +kernel
theorem dX5_wanted_72 : decode cX5_wanted 72 = .ok (.ireturn, 1) := by decide +kernel
set_option maxRecDepth 20000 in
theorem ggX5_addPicture_X5_in : GoodIn wsX5_addPicture wsX5_in := goodIn_r _ [5] (by decide +kernel) (by decide +kernel)
set_option maxRecDepth 20000 in
theorem gX5_addPicture_X5_in : GoodIn wsX5_addPicture (va_wsS RX5 56 yX5_in wsX5_in) := goodIn_app (goodIn_of _ (by decide +kernel)) ggX5_addPicture_X5_in
set_option maxRecDepth 20000 in
theorem ggX5_addPicture_X5_record : GoodIn wsX5_addPicture wsX5_record := goodIn_r _ [9, 10, 11, 1, 12, 13, 14, 15, 4, 16, 17, 18, 19, 20, 21, 22, 23, 24, 25, 26, 27, 28, 29, 30, 31, 32, 33, 34] (by decide +kernel) (by decide +kernel)
set_option maxRecDepth 20000 in
theorem gX5_addPicture_X5_record : GoodIn wsX5_addPicture (wsV RX5 83 RX5 yX5_record wsX5_record) := goodIn_app (goodIn_of _ (by decide +kernel)) ggX5_addPicture_X5_record
theorem dX5_addPicture_0 : decode cX5_addPicture 0 = .ok (.iload_n 1, 1) := by decide +kernel
theorem dX5_addPicture_1 : decode cX5_addPicture 1 = .ok (.iconst 1, 1) := by decide +kernel
theorem dX5_addPicture_2 : decode cX5_addPicture 2 = .ok (.bipush 40, 2) := by decide +kernel
theorem dX5_addPicture_4 : decode cX5_addPicture 4 = .ok (.invokestatic 56, 3) := by decide +kernel
theorem dX5_addPicture_7 : decode cX5_addPicture 7 = .ok (.ifCond .ne 6, 3) := by decide +kernel
theorem dX5_addPicture_10 : decode cX5_addPicture 10 = .ok (.bipush (-101), 2) := by decide +kernel
theorem dX5_addPicture_12 : decode cX5_addPicture 12 = .ok (.ireturn, 1) := by decide +kernel
theorem dX5_addPicture_13 : decode cX5_addPicture 13 = .ok (.aload_n 0, 1) := by decide +kernel
theorem dX5_addPicture_14 : decode cX5_addPicture 14 = .ok (.getfield 7, 3) := by decide +kernel
theorem dX5_addPicture_17 : decode cX5_addPicture 17 = .ok (.bipush 11, 2) := by decide +kernel
theorem dX5_addPicture_19 : decode cX5_addPicture 19 = .ok (.iaload, 1) := by decide +kernel
theorem dX5_addPicture_20 : decode cX5_addPicture 20 = .ok (.iconst 4, 1) := by decide +kernel
theorem dX5_addPicture_21 : decode cX5_addPicture 21 = .ok (.if_icmp .ne 6, 3) := by decide +kernel
theorem dX5_addPicture_24 : decode cX5_addPicture 24 = .ok (.bipush (-103), 2) := by decide +kernel
theorem dX5_addPicture_26 : decode cX5_addPicture 26 = .ok (.ireturn, 1) := by decide +kernel
theorem dX5_addPicture_27 : decode cX5_addPicture 27 = .ok (.aload_n 0, 1) := by decide +kernel
theorem dX5_addPicture_28 : decode cX5_addPicture 28 = .ok (.invokevirtual 83, 3) := by decide +kernel
theorem dX5_addPicture_31 : decode cX5_addPicture 31 = .ok (.aload_n 0, 1) := by decide +kernel
theorem dX5_addPicture_32 : decode cX5_addPicture 32 = .ok (.getfield 7, 3) := by decide +kernel
theorem dX5_addPicture_35 : decode cX5_addPicture 35 = .ok (.bipush 11, 2) := by decide +kernel
theorem dX5_addPicture_37 : decode cX5_addPicture 37 = .ok (.iaload, 1) := by decide +kernel
theorem dX5_addPicture_38 : decode cX5_addPicture 38 = .ok (.istore_n 2, 1) := by decide +kernel
theorem dX5_addPicture_39 : decode cX5_addPicture 39 = .ok (.aload_n 0, 1) := by decide +kernel
theorem dX5_addPicture_40 : decode cX5_addPicture 40 = .ok (.getfield 7, 3) := by decide +kernel
theorem dX5_addPicture_43 : decode cX5_addPicture 43 = .ok (.bipush 11, 2) := by decide +kernel
theorem dX5_addPicture_45 : decode cX5_addPicture 45 = .ok (.dup2, 1) := by decide +kernel
theorem dX5_addPicture_46 : decode cX5_addPicture 46 = .ok (.iaload, 1) := by decide +kernel
theorem dX5_addPicture_47 : decode cX5_addPicture 47 = .ok (.iconst 1, 1) := by decide +kernel
theorem dX5_addPicture_48 : decode cX5_addPicture 48 = .ok (.iadd, 1) := by decide +kernel
theorem dX5_addPicture_49 : decode cX5_addPicture 49 = .ok (.iastore, 1) := by decide +kernel
theorem dX5_addPicture_50 : decode cX5_addPicture 50 = .ok (.aload_n 0, 1) := by decide +kernel
theorem dX5_addPicture_51 : decode cX5_addPicture 51 = .ok (.getfield 7, 3) := by decide +kernel
theorem dX5_addPicture_54 : decode cX5_addPicture 54 = .ok (.bipush 12, 2) := by decide +kernel
theorem dX5_addPicture_56 : decode cX5_addPicture 56 = .ok (.iconst 4, 1) := by decide +kernel
theorem dX5_addPicture_57 : decode cX5_addPicture 57 = .ok (.iload_n 2, 1) := by decide +kernel
theorem dX5_addPicture_58 : decode cX5_addPicture 58 = .ok (.imul, 1) := by decide +kernel
theorem dX5_addPicture_59 : decode cX5_addPicture 59 = .ok (.iadd, 1) := by decide +kernel
theorem dX5_addPicture_60 : decode cX5_addPicture 60 = .ok (.iconst 0, 1) := by decide +kernel
theorem dX5_addPicture_61 : decode cX5_addPicture 61 = .ok (.iadd, 1) := by decide +kernel
theorem dX5_addPicture_62 : decode cX5_addPicture 62 = .ok (.iload_n 1, 1) := by decide +kernel
theorem dX5_addPicture_63 : decode cX5_addPicture 63 = .ok (.iastore, 1) := by decide +kernel
theorem dX5_addPicture_64 : decode cX5_addPicture 64 = .ok (.aload_n 0, 1) := by decide +kernel
theorem dX5_addPicture_65 : decode cX5_addPicture 65 = .ok (.getfield 7, 3) := by decide +kernel
theorem dX5_addPicture_68 : decode cX5_addPicture 68 = .ok (.bipush 12, 2) := by decide +kernel
theorem dX5_addPicture_70 : decode cX5_addPicture 70 = .ok (.iconst 4, 1) := by decide +kernel
theorem dX5_addPicture_71 : decode cX5_addPicture 71 = .ok (.iload_n 2, 1) := by decide +kernel

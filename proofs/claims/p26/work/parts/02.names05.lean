theorem dX4_countNotAsWanted_16 : decode cX4_countNotAsWanted 16 = .ok (.iload_n 2, 1) := by decide +kernel
theorem dX4_countNotAsWanted_17 : decode cX4_countNotAsWanted 17 = .ok (.iconst 0, 1) := by decide +kernel
theorem dX4_countNotAsWanted_18 : decode cX4_countNotAsWanted 18 = .ok (.invokevirtual 179, 3) := by decide +kernel
theorem dX4_countNotAsWanted_21 : decode cX4_countNotAsWanted 21 = .ok (.aload_n 0, 1) := by decide +kernel
theorem dX4_countNotAsWanted_22 : decode cX4_countNotAsWanted 22 = .ok (.getfield 10, 3) := by decide +kernel
theorem dX4_countNotAsWanted_25 : decode cX4_countNotAsWanted 25 = .ok (.iload_n 2, 1) := by decide +kernel
theorem dX4_countNotAsWanted_26 : decode cX4_countNotAsWanted 26 = .ok (.invokevirtual 175, 3) := by decide +kernel
theorem dX4_countNotAsWanted_29 : decode cX4_countNotAsWanted 29 = .ok (.lxor, 1) := by decide +kernel
theorem dX4_countNotAsWanted_30 : decode cX4_countNotAsWanted 30 = .ok (.invokestatic 195, 3) := by decide +kernel
theorem dX4_countNotAsWanted_33 : decode cX4_countNotAsWanted 33 = .ok (.invokestatic 199, 3) := by decide +kernel
theorem dX4_countNotAsWanted_36 : decode cX4_countNotAsWanted 36 = .ok (.iadd, 1) := by decide +kernel
theorem dX4_countNotAsWanted_37 : decode cX4_countNotAsWanted 37 = .ok (.istore_n 1, 1) := by decide +kernel
theorem dX4_countNotAsWanted_38 : decode cX4_countNotAsWanted 38 = .ok (.iinc 2 1, 3) := by decide +kernel
theorem dX4_countNotAsWanted_41 : decode cX4_countNotAsWanted 41 = .ok (.goto (-37), 3) := by decide +kernel
theorem dX4_countNotAsWanted_44 : decode cX4_countNotAsWanted 44 = .ok (.iload_n 1, 1) := by decide +kernel
theorem dX4_countNotAsWanted_45 : decode cX4_countNotAsWanted 45 = .ok (.ireturn, 1) := by decide +kernel
theorem dX4_ticksSinceWritten_0 : decode cX4_ticksSinceWritten 0 = .ok (.aload_n 0, 1) := by decide +kernel
theorem dX4_ticksSinceWritten_1 : decode cX4_ticksSinceWritten 1 = .ok (.getfield 10, 3) := by decide +kernel
theorem dX4_ticksSinceWritten_4 : decode cX4_ticksSinceWritten 4 = .ok (.getfield 205, 3) := by decide +kernel
theorem dX4_ticksSinceWritten_7 : decode cX4_ticksSinceWritten 7 = .ok (.iload_n 1, 1) := by decide +kernel
theorem dX4_ticksSinceWritten_8 : decode cX4_ticksSinceWritten 8 = .ok (.bipush 12, 2) := by decide +kernel
theorem dX4_ticksSinceWritten_10 : decode cX4_ticksSinceWritten 10 = .ok (.imul, 1) := by decide +kernel
theorem dX4_ticksSinceWritten_11 : decode cX4_ticksSinceWritten 11 = .ok (.iload_n 2, 1) := by decide +kernel
theorem dX4_ticksSinceWritten_12 : decode cX4_ticksSinceWritten 12 = .ok (.iadd, 1) := by decide +kernel
theorem dX4_ticksSinceWritten_13 : decode cX4_ticksSinceWritten 13 = .ok (.iaload, 1) := by decide +kernel
theorem dX4_ticksSinceWritten_14 : decode cX4_ticksSinceWritten 14 = .ok (.istore_n 3, 1) := by decide +kernel
theorem dX4_ticksSinceWritten_15 : decode cX4_ticksSinceWritten 15 = .ok (.iload_n 3, 1) := by decide +kernel
theorem dX4_ticksSinceWritten_16 : decode cX4_ticksSinceWritten 16 = .ok (.ifCond .ne 8, 3) := by decide +kernel
theorem dX4_ticksSinceWritten_19 : decode cX4_ticksSinceWritten 19 = .ok (.bipush (-109), 2) := by decide +kernel
theorem dX4_ticksSinceWritten_21 : decode cX4_ticksSinceWritten 21 = .ok (.goto 12, 3) := by decide +kernel
theorem dX4_ticksSinceWritten_24 : decode cX4_ticksSinceWritten 24 = .ok (.aload_n 0, 1) := by decide +kernel
theorem dX4_ticksSinceWritten_25 : decode cX4_ticksSinceWritten 25 = .ok (.getfield 10, 3) := by decide +kernel
theorem dX4_ticksSinceWritten_28 : decode cX4_ticksSinceWritten 28 = .ok (.getfield 131, 3) := by decide +kernel
theorem dX4_ticksSinceWritten_31 : decode cX4_ticksSinceWritten 31 = .ok (.iload_n 3, 1) := by decide +kernel
theorem dX4_ticksSinceWritten_32 : decode cX4_ticksSinceWritten 32 = .ok (.isub, 1) := by decide +kernel
theorem dX4_ticksSinceWritten_33 : decode cX4_ticksSinceWritten 33 = .ok (.ireturn, 1) := by decide +kernel
set_option maxRecDepth 20000 in
theorem ggX4_ticksAround_X3_prepare : GoodIn wsX4_ticksAround wsX3_prepare := goodIn_r _ [13, 14, 15, 16, 17, 18, 19, 20, 21, 22, 23, 24, 25, 26, 27, 28, 29, 30, 31, 32, 33, 34, 35, 36, 37, 38, 39, 40, 41, 42, 43, 44, 45, 46, 47, 48, 49, 50, 51, 52, 7, 53, 54, 55, 56, 57, 58, 59, 60, 61, 62, 63, 64, 65, 66, 67, 68, 69, 70, 12, 71, 112, 113, 114, 115, 116, 117, 118, 119, 120, 121, 122, 123, 124, 125, 126, 127, 128, 129, 130, 131, 132, 133, 134, 135, 136, 137, 138] (by decide +kernel) (by decide +kernel)
set_option maxRecDepth 20000 in
theorem gX4_ticksAround_X3_prepare : GoodIn wsX4_ticksAround (wsV RX4 134 RX3 yX3_prepare wsX3_prepare) := goodIn_app (goodIn_of _ (by decide +kernel)) ggX4_ticksAround_X3_prepare
set_option maxRecDepth 20000 in
theorem ggX4_ticksAround_X3_start : GoodIn wsX4_ticksAround wsX3_start := goodIn_r _ [75, 76, 77, 78, 79, 80, 81, 82, 83, 84, 123, 124, 125, 126, 127, 128, 129, 130, 131, 132, 133, 112, 113, 114, 115, 116, 117, 118, 119, 120, 121, 122] (by decide +kernel) (by decide +kernel)
set_option maxRecDepth 20000 in
theorem gX4_ticksAround_X3_start : GoodIn wsX4_ticksAround (wsV RX4 138 RX3 yX3_start wsX3_start) := goodIn_app (goodIn_of _ (by decide +kernel)) ggX4_ticksAround_X3_start
set_option maxRecDepth 20000 in
theorem ggX4_ticksAround_X3_goOn : GoodIn wsX4_ticksAround wsX3_goOn := goodIn_r _ [88, 83, 89, 90, 91, 12, 92, 82, 18, 17, 80, 76, 93, 52, 7, 53, 94, 95, 96, 97, 98, 99, 100, 101, 6, 8, 78, 84, 20, 102, 42, 43, 44, 123, 124, 125, 126, 127, 128, 129, 130, 131, 132, 133] (by decide +kernel) (by decide +kernel)
set_option maxRecDepth 20000 in
theorem gX4_ticksAround_X3_goOn : GoodIn wsX4_ticksAround (wsV RX4 142 RX3 yX3_goOn wsX3_goOn) := goodIn_app (goodIn_of _ (by decide +kernel)) ggX4_ticksAround_X3_goOn
theorem dX4_ticksAround_0 : decode cX4_ticksAround 0 = .ok (.aload_n 0, 1) := by decide +kernel
theorem dX4_ticksAround_1 : decode cX4_ticksAround 1 = .ok (.getfield 44, 3) := by decide +kernel
theorem dX4_ticksAround_4 : decode cX4_ticksAround 4 = .ok (.aload_n 0, 1) := by decide +kernel
theorem dX4_ticksAround_5 : decode cX4_ticksAround 5 = .ok (.getfield 10, 3) := by decide +kernel
theorem dX4_ticksAround_8 : decode cX4_ticksAround 8 = .ok (.invokevirtual 134, 3) := by decide +kernel
theorem dX4_ticksAround_11 : decode cX4_ticksAround 11 = .ok (.aload_n 0, 1) := by decide +kernel
theorem dX4_ticksAround_12 : decode cX4_ticksAround 12 = .ok (.getfield 44, 3) := by decide +kernel
theorem dX4_ticksAround_15 : decode cX4_ticksAround 15 = .ok (.aload_n 0, 1) := by decide +kernel
theorem dX4_ticksAround_16 : decode cX4_ticksAround 16 = .ok (.getfield 10, 3) := by decide +kernel
theorem dX4_ticksAround_19 : decode cX4_ticksAround 19 = .ok (.aload_n 0, 1) := by decide +kernel
theorem dX4_ticksAround_20 : decode cX4_ticksAround 20 = .ok (.getfield 10, 3) := by decide +kernel
theorem dX4_ticksAround_23 : decode cX4_ticksAround 23 = .ok (.getfield 128, 3) := by decide +kernel
theorem dX4_ticksAround_26 : decode cX4_ticksAround 26 = .ok (.iconst 0, 1) := by decide +kernel
theorem dX4_ticksAround_27 : decode cX4_ticksAround 27 = .ok (.iaload, 1) := by decide +kernel
theorem dX4_ticksAround_28 : decode cX4_ticksAround 28 = .ok (.invokevirtual 138, 3) := by decide +kernel
theorem dX4_ticksAround_31 : decode cX4_ticksAround 31 = .ok (.iconst 0, 1) := by decide +kernel
theorem dX4_ticksAround_32 : decode cX4_ticksAround 32 = .ok (.istore_n 1, 1) := by decide +kernel
theorem dX4_ticksAround_33 : decode cX4_ticksAround 33 = .ok (.iconst 1, 1) := by decide +kernel
theorem dX4_ticksAround_34 : decode cX4_ticksAround 34 = .ok (.istore_n 2, 1) := by decide +kernel
theorem dX4_ticksAround_35 : decode cX4_ticksAround 35 = .ok (.iload_n 2, 1) := by decide +kernel
theorem dX4_ticksAround_36 : decode cX4_ticksAround 36 = .ok (.sipush 500, 3) := by decide +kernel
theorem dX4_ticksAround_39 : decode cX4_ticksAround 39 = .ok (.if_icmp .gt 39, 3) := by decide +kernel
theorem dX4_ticksAround_42 : decode cX4_ticksAround 42 = .ok (.aload_n 0, 1) := by decide +kernel
theorem dX4_ticksAround_43 : decode cX4_ticksAround 43 = .ok (.getfield 44, 3) := by decide +kernel
theorem dX4_ticksAround_46 : decode cX4_ticksAround 46 = .ok (.iconst 1, 1) := by decide +kernel
theorem dX4_ticksAround_47 : decode cX4_ticksAround 47 = .ok (.invokevirtual 142, 3) := by decide +kernel
theorem dX4_ticksAround_50 : decode cX4_ticksAround 50 = .ok (.iload_n 1, 1) := by decide +kernel
theorem dX4_ticksAround_51 : decode cX4_ticksAround 51 = .ok (.aload_n 0, 1) := by decide +kernel
theorem dX4_ticksAround_52 : decode cX4_ticksAround 52 = .ok (.getfield 44, 3) := by decide +kernel
theorem dX4_ticksAround_55 : decode cX4_ticksAround 55 = .ok (.getfield 208, 3) := by decide +kernel
theorem dX4_ticksAround_58 : decode cX4_ticksAround 58 = .ok (.invokestatic 209, 3) := by decide +kernel
theorem dX4_ticksAround_61 : decode cX4_ticksAround 61 = .ok (.iadd, 1) := by decide +kernel
theorem dX4_ticksAround_62 : decode cX4_ticksAround 62 = .ok (.istore_n 1, 1) := by decide +kernel
theorem dX4_ticksAround_63 : decode cX4_ticksAround 63 = .ok (.iload_n 1, 1) := by decide +kernel
theorem dX4_ticksAround_64 : decode cX4_ticksAround 64 = .ok (.sipush 720, 3) := by decide +kernel
theorem dX4_ticksAround_67 : decode cX4_ticksAround 67 = .ok (.if_icmp .lt 5, 3) := by decide +kernel
theorem dX4_ticksAround_70 : decode cX4_ticksAround 70 = .ok (.iload_n 2, 1) := by decide +kernel
theorem dX4_ticksAround_71 : decode cX4_ticksAround 71 = .ok (.ireturn, 1) := by decide +kernel
theorem dX4_ticksAround_72 : decode cX4_ticksAround 72 = .ok (.iinc 2 1, 3) := by decide +kernel
theorem dX4_ticksAround_75 : decode cX4_ticksAround 75 = .ok (.goto (-40), 3) := by decide +kernel
theorem dX4_ticksAround_78 : decode cX4_ticksAround 78 = .ok (.bipush (-109), 2) := by decide +kernel
theorem dX4_ticksAround_80 : decode cX4_ticksAround 80 = .ok (.ireturn, 1) := by decide +kernel
set_option maxRecDepth 20000 in
theorem ggX4_gaps_X4_within : GoodIn wsX4_gaps wsX4_within := goodIn_r _ [7] (by decide +kernel) (by decide +kernel)
set_option maxRecDepth 20000 in
theorem gX4_gaps_X4_within : GoodIn wsX4_gaps (va_wsS RX4 52 yX4_within wsX4_within) := goodIn_app (goodIn_of _ (by decide +kernel)) ggX4_gaps_X4_within
set_option maxRecDepth 20000 in
theorem ggX4_gaps_X3_prepare : GoodIn wsX4_gaps wsX3_prepare := goodIn_r _ [12, 13, 14, 15, 16, 17, 18, 19, 20, 21, 22, 23, 24, 25, 26, 27, 28, 29, 30, 31, 32, 33, 34, 35, 36, 37, 38, 39, 40, 41, 42, 43, 44, 45, 46, 47, 48, 49, 50, 51, 52, 53, 54, 55, 56, 57, 58, 6, 59, 60, 61, 62, 63, 64, 65, 66, 67, 68, 69, 11, 70, 127, 128, 129, 130, 131, 132, 133, 134, 135, 136, 137, 138, 139, 140, 141, 142, 143, 144, 145, 146, 147, 148, 149, 150, 151, 152, 153] (by decide +kernel) (by decide +kernel)
set_option maxRecDepth 20000 in
theorem gX4_gaps_X3_prepare : GoodIn wsX4_gaps (wsV RX4 134 RX3 yX3_prepare wsX3_prepare) := goodIn_app (goodIn_of _ (by decide +kernel)) ggX4_gaps_X3_prepare
set_option maxRecDepth 20000 in
theorem ggX4_gaps_X3_start : GoodIn wsX4_gaps wsX3_start := goodIn_r _ [74, 75, 76, 77, 78, 79, 80, 81, 82, 83, 138, 139, 140, 141, 142, 143, 144, 145, 146, 147, 148, 127, 128, 129, 130, 131, 132, 133, 134, 135, 136, 137] (by decide +kernel) (by decide +kernel)
set_option maxRecDepth 20000 in
theorem gX4_gaps_X3_start : GoodIn wsX4_gaps (wsV RX4 138 RX3 yX3_start wsX3_start) := goodIn_app (goodIn_of _ (by decide +kernel)) ggX4_gaps_X3_start
set_option maxRecDepth 20000 in
theorem ggX4_gaps_X3_goOn : GoodIn wsX4_gaps wsX3_goOn := goodIn_r _ [87, 82, 88, 89, 90, 11, 91, 81, 17, 16, 79, 75, 92, 51, 52, 53, 93, 94, 95, 96, 97, 98, 99, 100, 101, 102, 77, 83, 19, 103, 41, 42, 43, 138, 139, 140, 141, 142, 143, 144, 145, 146, 147, 148] (by decide +kernel) (by decide +kernel)
set_option maxRecDepth 20000 in
theorem gX4_gaps_X3_goOn : GoodIn wsX4_gaps (wsV RX4 142 RX3 yX3_goOn wsX3_goOn) := goodIn_app (goodIn_of _ (by decide +kernel)) ggX4_gaps_X3_goOn
set_option maxRecDepth 20000 in
theorem ggX4_gaps_X3_firstArmAt : GoodIn wsX4_gaps wsX3_firstArmAt := goodIn_r _ [107, 83, 138, 139, 140, 141, 142, 143, 144, 145, 146, 147, 148] (by decide +kernel) (by decide +kernel)
set_option maxRecDepth 20000 in
theorem gX4_gaps_X3_firstArmAt : GoodIn wsX4_gaps (wsV RX4 214 RX3 yX3_firstArmAt wsX3_firstArmAt) := goodIn_app (goodIn_of _ (by decide +kernel)) ggX4_gaps_X3_firstArmAt
set_option maxRecDepth 20000 in
theorem ggX4_gaps_X3_secondArmAt : GoodIn wsX4_gaps wsX3_secondArmAt := goodIn_r _ [111, 14, 83, 68, 69, 11, 70, 138, 139, 140, 141, 142, 143, 144, 145, 146, 147, 148] (by decide +kernel) (by decide +kernel)
set_option maxRecDepth 20000 in
theorem gX4_gaps_X3_secondArmAt : GoodIn wsX4_gaps (wsV RX4 217 RX3 yX3_secondArmAt wsX3_secondArmAt) := goodIn_app (goodIn_of _ (by decide +kernel)) ggX4_gaps_X3_secondArmAt
set_option maxRecDepth 20000 in
theorem ggX4_gaps_X2_isCoveredAt : GoodIn wsX4_gaps wsX2_isCoveredAt := goodIn_r _ [115, 26, 27, 116, 117, 36, 37, 31, 38, 39, 40, 41, 42, 43, 44, 45, 46, 47, 48, 49, 50, 51, 52, 53, 127, 128, 129, 130, 131, 132, 133, 134, 135, 136, 137, 149, 150, 151, 152, 153] (by decide +kernel) (by decide +kernel)
set_option maxRecDepth 20000 in
theorem gX4_gaps_X2_isCoveredAt : GoodIn wsX4_gaps (wsV RX4 220 RX2 yX2_isCoveredAt wsX2_isCoveredAt) := goodIn_app (goodIn_of _ (by decide +kernel)) ggX4_gaps_X2_isCoveredAt
theorem dX4_gaps_0 : decode cX4_gaps 0 = .ok (.iload_n 1, 1) := by decide +kernel
theorem dX4_gaps_1 : decode cX4_gaps 1 = .ok (.iconst 0, 1) := by decide +kernel
theorem dX4_gaps_2 : decode cX4_gaps 2 = .ok (.sipush 200, 3) := by decide +kernel
theorem dX4_gaps_5 : decode cX4_gaps 5 = .ok (.invokestatic 52, 3) := by decide +kernel
theorem dX4_gaps_8 : decode cX4_gaps 8 = .ok (.ifCond .ne 6, 3) := by decide +kernel
theorem dX4_gaps_11 : decode cX4_gaps 11 = .ok (.bipush (-101), 2) := by decide +kernel
theorem dX4_gaps_13 : decode cX4_gaps 13 = .ok (.ireturn, 1) := by decide +kernel
theorem dX4_gaps_14 : decode cX4_gaps 14 = .ok (.aload_n 0, 1) := by decide +kernel
theorem dX4_gaps_15 : decode cX4_gaps 15 = .ok (.getfield 44, 3) := by decide +kernel
theorem dX4_gaps_18 : decode cX4_gaps 18 = .ok (.aload_n 0, 1) := by decide +kernel
theorem dX4_gaps_19 : decode cX4_gaps 19 = .ok (.getfield 10, 3) := by decide +kernel
theorem dX4_gaps_22 : decode cX4_gaps 22 = .ok (.invokevirtual 134, 3) := by decide +kernel
theorem dX4_gaps_25 : decode cX4_gaps 25 = .ok (.aload_n 0, 1) := by decide +kernel
theorem dX4_gaps_26 : decode cX4_gaps 26 = .ok (.getfield 44, 3) := by decide +kernel
theorem dX4_gaps_29 : decode cX4_gaps 29 = .ok (.aload_n 0, 1) := by decide +kernel
theorem dX4_gaps_30 : decode cX4_gaps 30 = .ok (.getfield 10, 3) := by decide +kernel
theorem dX4_gaps_33 : decode cX4_gaps 33 = .ok (.aload_n 0, 1) := by decide +kernel
theorem dX4_gaps_34 : decode cX4_gaps 34 = .ok (.getfield 10, 3) := by decide +kernel
theorem dX4_gaps_37 : decode cX4_gaps 37 = .ok (.getfield 128, 3) := by decide +kernel
theorem dX4_gaps_40 : decode cX4_gaps 40 = .ok (.iconst 0, 1) := by decide +kernel
theorem dX4_gaps_41 : decode cX4_gaps 41 = .ok (.iaload, 1) := by decide +kernel
theorem dX4_gaps_42 : decode cX4_gaps 42 = .ok (.invokevirtual 138, 3) := by decide +kernel
theorem dX4_gaps_45 : decode cX4_gaps 45 = .ok (.aload_n 0, 1) := by decide +kernel
theorem dX4_gaps_46 : decode cX4_gaps 46 = .ok (.getfield 44, 3) := by decide +kernel
theorem dX4_gaps_49 : decode cX4_gaps 49 = .ok (.iload_n 1, 1) := by decide +kernel
theorem dX4_gaps_50 : decode cX4_gaps 50 = .ok (.invokevirtual 142, 3) := by decide +kernel
theorem dX4_gaps_53 : decode cX4_gaps 53 = .ok (.iconst 0, 1) := by decide +kernel
theorem dX4_gaps_54 : decode cX4_gaps 54 = .ok (.istore_n 2, 1) := by decide +kernel
theorem dX4_gaps_55 : decode cX4_gaps 55 = .ok (.iconst 0, 1) := by decide +kernel
theorem dX4_gaps_56 : decode cX4_gaps 56 = .ok (.istore_n 3, 1) := by decide +kernel
theorem dX4_gaps_57 : decode cX4_gaps 57 = .ok (.iload_n 3, 1) := by decide +kernel
theorem dX4_gaps_58 : decode cX4_gaps 58 = .ok (.sipush 720, 3) := by decide +kernel
theorem dX4_gaps_61 : decode cX4_gaps 61 = .ok (.if_icmp .ge 57, 3) := by decide +kernel
theorem dX4_gaps_64 : decode cX4_gaps 64 = .ok (.aload_n 0, 1) := by decide +kernel
theorem dX4_gaps_65 : decode cX4_gaps 65 = .ok (.getfield 44, 3) := by decide +kernel
theorem dX4_gaps_68 : decode cX4_gaps 68 = .ok (.iload_n 3, 1) := by decide +kernel
theorem dX4_gaps_69 : decode cX4_gaps 69 = .ok (.invokevirtual 214, 3) := by decide +kernel
theorem dX4_gaps_72 : decode cX4_gaps 72 = .ok (.ifCond .gt 14, 3) := by decide +kernel
theorem dX4_gaps_75 : decode cX4_gaps 75 = .ok (.aload_n 0, 1) := by decide +kernel
theorem dX4_gaps_76 : decode cX4_gaps 76 = .ok (.getfield 44, 3) := by decide +kernel
theorem dX4_gaps_79 : decode cX4_gaps 79 = .ok (.iload_n 3, 1) := by decide +kernel
theorem dX4_gaps_80 : decode cX4_gaps 80 = .ok (.invokevirtual 217, 3) := by decide +kernel
theorem dX4_gaps_83 : decode cX4_gaps 83 = .ok (.ifCond .le 7, 3) := by decide +kernel
theorem dX4_gaps_86 : decode cX4_gaps 86 = .ok (.iconst 1, 1) := by decide +kernel
theorem dX4_gaps_87 : decode cX4_gaps 87 = .ok (.goto 4, 3) := by decide +kernel
theorem dX4_gaps_90 : decode cX4_gaps 90 = .ok (.iconst 0, 1) := by decide +kernel
theorem dX4_gaps_91 : decode cX4_gaps 91 = .ok (.istore 4, 2) := by decide +kernel
theorem dX4_gaps_93 : decode cX4_gaps 93 = .ok (.iload 4, 2) := by decide +kernel
theorem dX4_gaps_95 : decode cX4_gaps 95 = .ok (.ifCond .ne 17, 3) := by decide +kernel
theorem dX4_gaps_98 : decode cX4_gaps 98 = .ok (.aload_n 0, 1) := by decide +kernel
theorem dX4_gaps_99 : decode cX4_gaps 99 = .ok (.getfield 10, 3) := by decide +kernel
theorem dX4_gaps_102 : decode cX4_gaps 102 = .ok (.iload_n 3, 1) := by decide +kernel
theorem dX4_gaps_103 : decode cX4_gaps 103 = .ok (.invokevirtual 220, 3) := by decide +kernel
theorem dX4_gaps_106 : decode cX4_gaps 106 = .ok (.ifCond .eq 6, 3) := by decide +kernel
theorem dX4_gaps_109 : decode cX4_gaps 109 = .ok (.iinc 2 1, 3) := by decide +kernel
theorem dX4_gaps_112 : decode cX4_gaps 112 = .ok (.iinc 3 1, 3) := by decide +kernel
theorem dX4_gaps_115 : decode cX4_gaps 115 = .ok (.goto (-58), 3) := by decide +kernel
theorem dX4_gaps_118 : decode cX4_gaps 118 = .ok (.iload_n 2, 1) := by decide +kernel
theorem dX4_gaps_119 : decode cX4_gaps 119 = .ok (.ireturn, 1) := by decide +kernel
set_option maxRecDepth 20000 in
theorem ggX4_bestSpeed_X4_within : GoodIn wsX4_bestSpeed wsX4_within := goodIn_r _ [12] (by decide +kernel) (by decide +kernel)
set_option maxRecDepth 20000 in
theorem gX4_bestSpeed_X4_within : GoodIn wsX4_bestSpeed (va_wsS RX4 52 yX4_within wsX4_within) := goodIn_app (goodIn_of _ (by decide +kernel)) ggX4_bestSpeed_X4_within
set_option maxRecDepth 20000 in
theorem ggX4_bestSpeed_X3_prepare : GoodIn wsX4_bestSpeed wsX3_prepare := goodIn_r _ [17, 18, 19, 20, 21, 22, 23, 24, 25, 26, 27, 28, 29, 30, 31, 32, 33, 34, 35, 36, 37, 38, 39, 40, 41, 42, 43, 44, 45, 46, 47, 48, 49, 50, 51, 52, 53, 54, 55, 56, 57, 58, 59, 60, 61, 62, 63, 11, 64, 4, 65, 66, 67, 68, 69, 70, 71, 72, 73, 16, 74, 155, 156, 157, 158, 159, 160, 161, 162, 163, 164, 165, 144, 145, 146, 147, 148, 149, 150, 151, 152, 153, 154, 166, 167, 168, 169, 170] (by decide +kernel) (by decide +kernel)
set_option maxRecDepth 20000 in
theorem gX4_bestSpeed_X3_prepare : GoodIn wsX4_bestSpeed (wsV RX4 134 RX3 yX3_prepare wsX3_prepare) := goodIn_app (goodIn_of _ (by decide +kernel)) ggX4_bestSpeed_X3_prepare
set_option maxRecDepth 20000 in
theorem ggX4_bestSpeed_X2_litAt : GoodIn wsX4_bestSpeed wsX2_litAt := goodIn_r _ [78, 79, 80, 81, 82, 57, 83, 84, 85, 86, 155, 156, 157, 158, 159, 160, 161, 162, 163, 164, 165] (by decide +kernel) (by decide +kernel)
set_option maxRecDepth 20000 in
theorem gX4_bestSpeed_X2_litAt : GoodIn wsX4_bestSpeed (wsV RX4 179 RX2 yX2_litAt wsX2_litAt) := goodIn_app (goodIn_of _ (by decide +kernel)) ggX4_bestSpeed_X2_litAt
set_option maxRecDepth 20000 in
theorem ggX4_bestSpeed_X4_notDark : GoodIn wsX4_bestSpeed wsX4_notDark := goodIn_r _ [64, 4] (by decide +kernel) (by decide +kernel)
set_option maxRecDepth 20000 in
theorem gX4_bestSpeed_X4_notDark : GoodIn wsX4_bestSpeed (va_wsS RX4 195 yX4_notDark wsX4_notDark) := goodIn_app (goodIn_of _ (by decide +kernel)) ggX4_bestSpeed_X4_notDark
set_option maxRecDepth 20000 in
theorem ggX4_bestSpeed_X3_start : GoodIn wsX4_bestSpeed wsX3_start := goodIn_r _ [91, 92, 93, 94, 95, 96, 97, 98, 99, 100, 144, 145, 146, 147, 148, 149, 150, 151, 152, 153, 154, 155, 156, 157, 158, 159, 160, 161, 162, 163, 164, 165] (by decide +kernel) (by decide +kernel)
set_option maxRecDepth 20000 in
theorem gX4_bestSpeed_X3_start : GoodIn wsX4_bestSpeed (wsV RX4 138 RX3 yX3_start wsX3_start) := goodIn_app (goodIn_of _ (by decide +kernel)) ggX4_bestSpeed_X3_start
set_option maxRecDepth 20000 in
theorem ggX4_bestSpeed_X3_goOn : GoodIn wsX4_bestSpeed wsX3_goOn := goodIn_r _ [104, 99, 105, 106, 107, 16, 108, 98, 22, 21, 96, 92, 109, 56, 57, 58, 110, 82, 83, 111, 112, 113, 114, 115, 116, 117, 94, 100, 24, 118, 46, 47, 48, 144, 145, 146, 147, 148, 149, 150, 151, 152, 153, 154] (by decide +kernel) (by decide +kernel)
set_option maxRecDepth 20000 in
theorem gX4_bestSpeed_X3_goOn : GoodIn wsX4_bestSpeed (wsV RX4 142 RX3 yX3_goOn wsX3_goOn) := goodIn_app (goodIn_of _ (by decide +kernel)) ggX4_bestSpeed_X3_goOn
set_option maxRecDepth 20000 in
theorem ggX4_bestSpeed_X4_countRight : GoodIn wsX4_bestSpeed wsX4_countRight := goodIn_r _ [122, 2, 123, 124, 82, 57, 83, 1, 125, 3, 126, 127, 128, 16, 129, 100, 130, 131, 132, 133, 19, 72, 73, 74, 134, 66, 67, 68, 69, 70, 71, 135, 136, 137, 138, 139, 140, 141, 142, 143, 155, 156, 157, 158, 159, 160, 161, 162, 163, 164, 165, 144, 145, 146, 147, 148, 149, 150, 151, 152, 153, 154] (by decide +kernel) (by decide +kernel)
set_option maxRecDepth 20000 in
theorem gX4_bestSpeed_X4_countRight : GoodIn wsX4_bestSpeed (wsV RX4 228 RX4 yX4_countRight wsX4_countRight) := goodIn_app (goodIn_of _ (by decide +kernel)) ggX4_bestSpeed_X4_countRight
theorem dX4_bestSpeed_0 : decode cX4_bestSpeed 0 = .ok (.iload_n 1, 1) := by decide +kernel
theorem dX4_bestSpeed_1 : decode cX4_bestSpeed 1 = .ok (.iconst 1, 1) := by decide +kernel
theorem dX4_bestSpeed_2 : decode cX4_bestSpeed 2 = .ok (.bipush 40, 2) := by decide +kernel
theorem dX4_bestSpeed_4 : decode cX4_bestSpeed 4 = .ok (.invokestatic 52, 3) := by decide +kernel
theorem dX4_bestSpeed_7 : decode cX4_bestSpeed 7 = .ok (.ifCond .ne 6, 3) := by decide +kernel
theorem dX4_bestSpeed_10 : decode cX4_bestSpeed 10 = .ok (.bipush (-101), 2) := by decide +kernel
theorem dX4_bestSpeed_12 : decode cX4_bestSpeed 12 = .ok (.ireturn, 1) := by decide +kernel
theorem dX4_bestSpeed_13 : decode cX4_bestSpeed 13 = .ok (.aload_n 0, 1) := by decide +kernel
theorem dX4_bestSpeed_14 : decode cX4_bestSpeed 14 = .ok (.getfield 44, 3) := by decide +kernel
theorem dX4_bestSpeed_17 : decode cX4_bestSpeed 17 = .ok (.aload_n 0, 1) := by decide +kernel
theorem dX4_bestSpeed_18 : decode cX4_bestSpeed 18 = .ok (.getfield 10, 3) := by decide +kernel
theorem dX4_bestSpeed_21 : decode cX4_bestSpeed 21 = .ok (.invokevirtual 134, 3) := by decide +kernel
theorem dX4_bestSpeed_24 : decode cX4_bestSpeed 24 = .ok (.iconst 0, 1) := by decide +kernel
theorem dX4_bestSpeed_25 : decode cX4_bestSpeed 25 = .ok (.istore_n 2, 1) := by decide +kernel
theorem dX4_bestSpeed_26 : decode cX4_bestSpeed 26 = .ok (.iload_n 2, 1) := by decide +kernel
theorem dX4_bestSpeed_27 : decode cX4_bestSpeed 27 = .ok (.sipush 720, 3) := by decide +kernel
theorem dX4_bestSpeed_30 : decode cX4_bestSpeed 30 = .ok (.if_icmp .ge 45, 3) := by decide +kernel
theorem dX4_bestSpeed_33 : decode cX4_bestSpeed 33 = .ok (.aload_n 0, 1) := by decide +kernel
theorem dX4_bestSpeed_34 : decode cX4_bestSpeed 34 = .ok (.getfield 48, 3) := by decide +kernel
theorem dX4_bestSpeed_37 : decode cX4_bestSpeed 37 = .ok (.iload_n 2, 1) := by decide +kernel
theorem dX4_bestSpeed_38 : decode cX4_bestSpeed 38 = .ok (.ldc2_w 223, 3) := by decide +kernel
theorem dX4_bestSpeed_41 : decode cX4_bestSpeed 41 = .ok (.aload_n 0, 1) := by decide +kernel
theorem dX4_bestSpeed_42 : decode cX4_bestSpeed 42 = .ok (.getfield 10, 3) := by decide +kernel
theorem dX4_bestSpeed_45 : decode cX4_bestSpeed 45 = .ok (.iload_n 2, 1) := by decide +kernel
theorem dX4_bestSpeed_46 : decode cX4_bestSpeed 46 = .ok (.iload_n 1, 1) := by decide +kernel
theorem dX4_bestSpeed_47 : decode cX4_bestSpeed 47 = .ok (.invokevirtual 179, 3) := by decide +kernel
theorem dX4_bestSpeed_50 : decode cX4_bestSpeed 50 = .ok (.aload_n 0, 1) := by decide +kernel
theorem dX4_bestSpeed_51 : decode cX4_bestSpeed 51 = .ok (.getfield 44, 3) := by decide +kernel
theorem dX4_bestSpeed_54 : decode cX4_bestSpeed 54 = .ok (.getfield 225, 3) := by decide +kernel
theorem dX4_bestSpeed_57 : decode cX4_bestSpeed 57 = .ok (.iload_n 2, 1) := by decide +kernel
theorem dX4_bestSpeed_58 : decode cX4_bestSpeed 58 = .ok (.laload, 1) := by decide +kernel
theorem dX4_bestSpeed_59 : decode cX4_bestSpeed 59 = .ok (.lxor, 1) := by decide +kernel
theorem dX4_bestSpeed_60 : decode cX4_bestSpeed 60 = .ok (.invokestatic 195, 3) := by decide +kernel
theorem dX4_bestSpeed_63 : decode cX4_bestSpeed 63 = .ok (.ldc2_w 119, 3) := by decide +kernel
theorem dX4_bestSpeed_66 : decode cX4_bestSpeed 66 = .ok (.lxor, 1) := by decide +kernel
theorem dX4_bestSpeed_67 : decode cX4_bestSpeed 67 = .ok (.land, 1) := by decide +kernel
theorem dX4_bestSpeed_68 : decode cX4_bestSpeed 68 = .ok (.lastore, 1) := by decide +kernel
theorem dX4_bestSpeed_69 : decode cX4_bestSpeed 69 = .ok (.iinc 2 1, 3) := by decide +kernel
theorem dX4_bestSpeed_72 : decode cX4_bestSpeed 72 = .ok (.goto (-46), 3) := by decide +kernel
theorem dX4_bestSpeed_75 : decode cX4_bestSpeed 75 = .ok (.getstatic 121, 3) := by decide +kernel
theorem dX4_bestSpeed_78 : decode cX4_bestSpeed 78 = .ok (.iconst 0, 1) := by decide +kernel
theorem dX4_bestSpeed_79 : decode cX4_bestSpeed 79 = .ok (.iaload, 1) := by decide +kernel
theorem dX4_bestSpeed_80 : decode cX4_bestSpeed 80 = .ok (.istore_n 2, 1) := by decide +kernel
theorem dX4_bestSpeed_81 : decode cX4_bestSpeed 81 = .ok (.iconst (-1), 1) := by decide +kernel
theorem dX4_bestSpeed_82 : decode cX4_bestSpeed 82 = .ok (.istore_n 3, 1) := by decide +kernel
theorem dX4_bestSpeed_83 : decode cX4_bestSpeed 83 = .ok (.getstatic 121, 3) := by decide +kernel
theorem dX4_bestSpeed_86 : decode cX4_bestSpeed 86 = .ok (.iconst 0, 1) := by decide +kernel
theorem dX4_bestSpeed_87 : decode cX4_bestSpeed 87 = .ok (.iaload, 1) := by decide +kernel
theorem dX4_bestSpeed_88 : decode cX4_bestSpeed 88 = .ok (.istore 4, 2) := by decide +kernel
theorem dX4_bestSpeed_90 : decode cX4_bestSpeed 90 = .ok (.iload 4, 2) := by decide +kernel
theorem dX4_bestSpeed_92 : decode cX4_bestSpeed 92 = .ok (.getstatic 125, 3) := by decide +kernel
theorem dX4_bestSpeed_95 : decode cX4_bestSpeed 95 = .ok (.iconst 0, 1) := by decide +kernel
theorem dX4_bestSpeed_96 : decode cX4_bestSpeed 96 = .ok (.iaload, 1) := by decide +kernel
theorem dX4_bestSpeed_97 : decode cX4_bestSpeed 97 = .ok (.if_icmp .gt 49, 3) := by decide +kernel
theorem dX4_bestSpeed_100 : decode cX4_bestSpeed 100 = .ok (.aload_n 0, 1) := by decide +kernel
theorem dX4_bestSpeed_101 : decode cX4_bestSpeed 101 = .ok (.getfield 44, 3) := by decide +kernel
theorem dX4_bestSpeed_104 : decode cX4_bestSpeed 104 = .ok (.aload_n 0, 1) := by decide +kernel
theorem dX4_bestSpeed_105 : decode cX4_bestSpeed 105 = .ok (.getfield 10, 3) := by decide +kernel
theorem dX4_bestSpeed_108 : decode cX4_bestSpeed 108 = .ok (.iload 4, 2) := by decide +kernel
theorem dX4_bestSpeed_110 : decode cX4_bestSpeed 110 = .ok (.invokevirtual 138, 3) := by decide +kernel
theorem dX4_bestSpeed_113 : decode cX4_bestSpeed 113 = .ok (.aload_n 0, 1) := by decide +kernel
theorem dX4_bestSpeed_114 : decode cX4_bestSpeed 114 = .ok (.getfield 44, 3) := by decide +kernel
theorem dX4_bestSpeed_117 : decode cX4_bestSpeed 117 = .ok (.iload_n 1, 1) := by decide +kernel
theorem dX4_bestSpeed_118 : decode cX4_bestSpeed 118 = .ok (.invokevirtual 142, 3) := by decide +kernel
theorem dX4_bestSpeed_121 : decode cX4_bestSpeed 121 = .ok (.aload_n 0, 1) := by decide +kernel
theorem dX4_bestSpeed_122 : decode cX4_bestSpeed 122 = .ok (.iload_n 1, 1) := by decide +kernel
theorem dX4_bestSpeed_123 : decode cX4_bestSpeed 123 = .ok (.invokevirtual 228, 3) := by decide +kernel
theorem dX4_bestSpeed_126 : decode cX4_bestSpeed 126 = .ok (.istore 5, 2) := by decide +kernel
theorem dX4_bestSpeed_128 : decode cX4_bestSpeed 128 = .ok (.iload 5, 2) := by decide +kernel
theorem dX4_bestSpeed_130 : decode cX4_bestSpeed 130 = .ok (.iload_n 3, 1) := by decide +kernel
theorem dX4_bestSpeed_131 : decode cX4_bestSpeed 131 = .ok (.if_icmp .le 9, 3) := by decide +kernel
theorem dX4_bestSpeed_134 : decode cX4_bestSpeed 134 = .ok (.iload 5, 2) := by decide +kernel
theorem dX4_bestSpeed_136 : decode cX4_bestSpeed 136 = .ok (.istore_n 3, 1) := by decide +kernel
theorem dX4_bestSpeed_137 : decode cX4_bestSpeed 137 = .ok (.iload 4, 2) := by decide +kernel
theorem dX4_bestSpeed_139 : decode cX4_bestSpeed 139 = .ok (.istore_n 2, 1) := by decide +kernel
theorem dX4_bestSpeed_140 : decode cX4_bestSpeed 140 = .ok (.iinc 4 10, 3) := by decide +kernel
theorem dX4_bestSpeed_143 : decode cX4_bestSpeed 143 = .ok (.goto (-53), 3) := by decide +kernel
theorem dX4_bestSpeed_146 : decode cX4_bestSpeed 146 = .ok (.iload_n 2, 1) := by decide +kernel
theorem dX4_bestSpeed_147 : decode cX4_bestSpeed 147 = .ok (.ireturn, 1) := by decide +kernel
set_option maxRecDepth 20000 in
theorem ggX4_meetings_X2_pictureNumbered : GoodIn wsX4_meetings wsX2_pictureNumbered := goodIn_r _ [6, 7, 8, 9, 10, 11, 62, 63, 64, 65, 66, 67, 68, 69, 70, 71, 72] (by decide +kernel) (by decide +kernel)
set_option maxRecDepth 20000 in
theorem gX4_meetings_X2_pictureNumbered : GoodIn wsX4_meetings (wsV RX4 71 RX2 yX2_pictureNumbered wsX2_pictureNumbered) := goodIn_app (goodIn_of _ (by decide +kernel)) ggX4_meetings_X2_pictureNumbered
set_option maxRecDepth 20000 in
theorem ggX4_meetings_X0_wantedAt : GoodIn wsX4_meetings wsX0_wantedAt := goodIn_r _ [16, 17, 18, 19, 20, 21, 15, 22, 23, 24, 25, 26, 27, 28, 29, 30, 31, 32, 33, 34, 35, 36, 37, 38, 39, 40, 41, 73, 74, 75, 76, 77] (by decide +kernel) (by decide +kernel)
set_option maxRecDepth 20000 in
theorem gX4_meetings_X0_wantedAt : GoodIn wsX4_meetings (wsV RX4 231 RX0 yX0_wantedAt wsX0_wantedAt) := goodIn_app (goodIn_of _ (by decide +kernel)) ggX4_meetings_X0_wantedAt
set_option maxRecDepth 20000 in
theorem ggX4_meetings_X4_notDark : GoodIn wsX4_meetings wsX4_notDark := goodIn_r _ [44, 45] (by decide +kernel) (by decide +kernel)
set_option maxRecDepth 20000 in
theorem gX4_meetings_X4_notDark : GoodIn wsX4_meetings (va_wsS RX4 195 yX4_notDark wsX4_notDark) := goodIn_app (goodIn_of _ (by decide +kernel)) ggX4_meetings_X4_notDark
set_option maxRecDepth 20000 in
theorem ggX4_meetings_J13_bitCount_95d88 : GoodIn wsX4_meetings wsJ13_bitCount_95d88 := goodIn_r _ [49, 50, 51, 52] (by decide +kernel) (by decide +kernel)
set_option maxRecDepth 20000 in
theorem gX4_meetings_J13_bitCount_95d88 : GoodIn wsX4_meetings (va_wsS RX4 199 yJ13_bitCount_95d88 wsJ13_bitCount_95d88) := goodIn_app (goodIn_of _ (by decide +kernel)) ggX4_meetings_J13_bitCount_95d88
theorem dX4_meetings_0 : decode cX4_meetings 0 = .ok (.aload_n 0, 1) := by decide +kernel
theorem dX4_meetings_1 : decode cX4_meetings 1 = .ok (.getfield 10, 3) := by decide +kernel
theorem dX4_meetings_4 : decode cX4_meetings 4 = .ok (.iload_n 1, 1) := by decide +kernel
theorem dX4_meetings_5 : decode cX4_meetings 5 = .ok (.invokevirtual 71, 3) := by decide +kernel
theorem dX4_meetings_8 : decode cX4_meetings 8 = .ok (.astore_n 3, 1) := by decide +kernel
theorem dX4_meetings_9 : decode cX4_meetings 9 = .ok (.aload_n 0, 1) := by decide +kernel
theorem dX4_meetings_10 : decode cX4_meetings 10 = .ok (.getfield 10, 3) := by decide +kernel
theorem dX4_meetings_13 : decode cX4_meetings 13 = .ok (.iload_n 2, 1) := by decide +kernel
theorem dX4_meetings_14 : decode cX4_meetings 14 = .ok (.invokevirtual 71, 3) := by decide +kernel
theorem dX4_meetings_17 : decode cX4_meetings 17 = .ok (.astore 4, 2) := by decide +kernel
theorem dX4_meetings_19 : decode cX4_meetings 19 = .ok (.aload_n 3, 1) := by decide +kernel
theorem dX4_meetings_20 : decode cX4_meetings 20 = .ok (.ifnull 13, 3) := by decide +kernel
theorem dX4_meetings_23 : decode cX4_meetings 23 = .ok (.aload 4, 2) := by decide +kernel
theorem dX4_meetings_25 : decode cX4_meetings 25 = .ok (.ifnull 8, 3) := by decide +kernel
theorem dX4_meetings_28 : decode cX4_meetings 28 = .ok (.iload_n 1, 1) := by decide +kernel
theorem dX4_meetings_29 : decode cX4_meetings 29 = .ok (.iload_n 2, 1) := by decide +kernel
theorem dX4_meetings_30 : decode cX4_meetings 30 = .ok (.if_icmp .ne 6, 3) := by decide +kernel
theorem dX4_meetings_33 : decode cX4_meetings 33 = .ok (.bipush (-101), 2) := by decide +kernel
theorem dX4_meetings_35 : decode cX4_meetings 35 = .ok (.ireturn, 1) := by decide +kernel
theorem dX4_meetings_36 : decode cX4_meetings 36 = .ok (.iconst 0, 1) := by decide +kernel
theorem dX4_meetings_37 : decode cX4_meetings 37 = .ok (.istore 5, 2) := by decide +kernel
theorem dX4_meetings_39 : decode cX4_meetings 39 = .ok (.iconst 0, 1) := by decide +kernel
theorem dX4_meetings_40 : decode cX4_meetings 40 = .ok (.istore 6, 2) := by decide +kernel
theorem dX4_meetings_42 : decode cX4_meetings 42 = .ok (.iload 6, 2) := by decide +kernel
theorem dX4_meetings_44 : decode cX4_meetings 44 = .ok (.sipush 720, 3) := by decide +kernel
theorem dX4_meetings_47 : decode cX4_meetings 47 = .ok (.if_icmp .ge 37, 3) := by decide +kernel
theorem dX4_meetings_50 : decode cX4_meetings 50 = .ok (.iload 5, 2) := by decide +kernel
theorem dX4_meetings_52 : decode cX4_meetings 52 = .ok (.aload_n 3, 1) := by decide +kernel
theorem dX4_meetings_53 : decode cX4_meetings 53 = .ok (.iload 6, 2) := by decide +kernel
theorem dX4_meetings_55 : decode cX4_meetings 55 = .ok (.invokevirtual 231, 3) := by decide +kernel
theorem dX4_meetings_58 : decode cX4_meetings 58 = .ok (.invokestatic 195, 3) := by decide +kernel
theorem dX4_meetings_61 : decode cX4_meetings 61 = .ok (.aload 4, 2) := by decide +kernel
theorem dX4_meetings_63 : decode cX4_meetings 63 = .ok (.iload 6, 2) := by decide +kernel
theorem dX4_meetings_65 : decode cX4_meetings 65 = .ok (.invokevirtual 231, 3) := by decide +kernel
theorem dX4_meetings_68 : decode cX4_meetings 68 = .ok (.invokestatic 195, 3) := by decide +kernel
theorem dX4_meetings_71 : decode cX4_meetings 71 = .ok (.land, 1) := by decide +kernel
theorem dX4_meetings_72 : decode cX4_meetings 72 = .ok (.invokestatic 199, 3) := by decide +kernel
theorem dX4_meetings_75 : decode cX4_meetings 75 = .ok (.iadd, 1) := by decide +kernel
theorem dX4_meetings_76 : decode cX4_meetings 76 = .ok (.istore 5, 2) := by decide +kernel
theorem dX4_meetings_78 : decode cX4_meetings 78 = .ok (.iinc 6 1, 3) := by decide +kernel
theorem dX4_meetings_81 : decode cX4_meetings 81 = .ok (.goto (-39), 3) := by decide +kernel
theorem dX4_meetings_84 : decode cX4_meetings 84 = .ok (.iload 5, 2) := by decide +kernel
theorem dX4_meetings_86 : decode cX4_meetings 86 = .ok (.ireturn, 1) := by decide +kernel
set_option maxRecDepth 20000 in
theorem ggX4_countRight_X3_firstArmAt : GoodIn wsX4_countRight wsX3_firstArmAt := goodIn_r _ [14, 15, 51, 52, 53, 54, 55, 56, 57, 58, 59, 60, 61] (by decide +kernel) (by decide +kernel)
set_option maxRecDepth 20000 in
theorem gX4_countRight_X3_firstArmAt : GoodIn wsX4_countRight (wsV RX4 214 RX3 yX3_firstArmAt wsX3_firstArmAt) := goodIn_app (goodIn_of _ (by decide +kernel)) ggX4_countRight_X3_firstArmAt
set_option maxRecDepth 20000 in
theorem ggX4_countRight_X3_secondArmAt : GoodIn wsX4_countRight wsX3_secondArmAt := goodIn_r _ [19, 20, 15, 21, 22, 13, 23, 51, 52, 53, 54, 55, 56, 57, 58, 59, 60, 61] (by decide +kernel) (by decide +kernel)
set_option maxRecDepth 20000 in
theorem gX4_countRight_X3_secondArmAt : GoodIn wsX4_countRight (wsV RX4 217 RX3 yX3_secondArmAt wsX3_secondArmAt) := goodIn_app (goodIn_of _ (by decide +kernel)) ggX4_countRight_X3_secondArmAt
set_option maxRecDepth 20000 in
theorem ggX4_countRight_J13_bitCount_95d88 : GoodIn wsX4_countRight wsJ13_bitCount_95d88 := goodIn_r _ [27, 28, 29, 30] (by decide +kernel) (by decide +kernel)
set_option maxRecDepth 20000 in
theorem gX4_countRight_J13_bitCount_95d88 : GoodIn wsX4_countRight (va_wsS RX4 199 yJ13_bitCount_95d88 wsJ13_bitCount_95d88) := goodIn_app (goodIn_of _ (by decide +kernel)) ggX4_countRight_J13_bitCount_95d88
theorem dX4_countRight_0 : decode cX4_countRight 0 = .ok (.iconst 0, 1) := by decide +kernel
theorem dX4_countRight_1 : decode cX4_countRight 1 = .ok (.iload_n 1, 1) := by decide +kernel
theorem dX4_countRight_2 : decode cX4_countRight 2 = .ok (.aload_n 0, 1) := by decide +kernel
theorem dX4_countRight_3 : decode cX4_countRight 3 = .ok (.getfield 10, 3) := by decide +kernel
theorem dX4_countRight_6 : decode cX4_countRight 6 = .ok (.getfield 128, 3) := by decide +kernel
theorem dX4_countRight_9 : decode cX4_countRight 9 = .ok (.iconst 3, 1) := by decide +kernel
theorem dX4_countRight_10 : decode cX4_countRight 10 = .ok (.iaload, 1) := by decide +kernel
theorem dX4_countRight_11 : decode cX4_countRight 11 = .ok (.isub, 1) := by decide +kernel
theorem dX4_countRight_12 : decode cX4_countRight 12 = .ok (.invokestatic 232, 3) := by decide +kernel
theorem dX4_countRight_15 : decode cX4_countRight 15 = .ok (.istore_n 2, 1) := by decide +kernel
theorem dX4_countRight_16 : decode cX4_countRight 16 = .ok (.iconst 0, 1) := by decide +kernel
theorem dX4_countRight_17 : decode cX4_countRight 17 = .ok (.istore_n 3, 1) := by decide +kernel
theorem dX4_countRight_18 : decode cX4_countRight 18 = .ok (.iconst 0, 1) := by decide +kernel
theorem dX4_countRight_19 : decode cX4_countRight 19 = .ok (.istore 4, 2) := by decide +kernel
theorem dX4_countRight_21 : decode cX4_countRight 21 = .ok (.iload 4, 2) := by decide +kernel
theorem dX4_countRight_23 : decode cX4_countRight 23 = .ok (.sipush 720, 3) := by decide +kernel
theorem dX4_countRight_26 : decode cX4_countRight 26 = .ok (.if_icmp .ge 84, 3) := by decide +kernel
theorem dX4_countRight_29 : decode cX4_countRight 29 = .ok (.aload_n 0, 1) := by decide +kernel
theorem dX4_countRight_30 : decode cX4_countRight 30 = .ok (.getfield 44, 3) := by decide +kernel
theorem dX4_countRight_33 : decode cX4_countRight 33 = .ok (.iload 4, 2) := by decide +kernel
theorem dX4_countRight_35 : decode cX4_countRight 35 = .ok (.invokevirtual 214, 3) := by decide +kernel
theorem dX4_countRight_38 : decode cX4_countRight 38 = .ok (.iload_n 2, 1) := by decide +kernel
theorem dX4_countRight_39 : decode cX4_countRight 39 = .ok (.if_icmp .le 15, 3) := by decide +kernel
theorem dX4_countRight_42 : decode cX4_countRight 42 = .ok (.aload_n 0, 1) := by decide +kernel
theorem dX4_countRight_43 : decode cX4_countRight 43 = .ok (.getfield 10, 3) := by decide +kernel
theorem dX4_countRight_46 : decode cX4_countRight 46 = .ok (.getfield 116, 3) := by decide +kernel
theorem dX4_countRight_49 : decode cX4_countRight 49 = .ok (.iconst 0, 1) := by decide +kernel
theorem dX4_countRight_50 : decode cX4_countRight 50 = .ok (.laload, 1) := by decide +kernel
theorem dX4_countRight_51 : decode cX4_countRight 51 = .ok (.goto 4, 3) := by decide +kernel
theorem dX4_countRight_54 : decode cX4_countRight 54 = .ok (.lconst 0, 1) := by decide +kernel
theorem dX4_countRight_55 : decode cX4_countRight 55 = .ok (.lstore 5, 2) := by decide +kernel
theorem dX4_countRight_57 : decode cX4_countRight 57 = .ok (.aload_n 0, 1) := by decide +kernel
theorem dX4_countRight_58 : decode cX4_countRight 58 = .ok (.getfield 44, 3) := by decide +kernel
theorem dX4_countRight_61 : decode cX4_countRight 61 = .ok (.iload 4, 2) := by decide +kernel
theorem dX4_countRight_63 : decode cX4_countRight 63 = .ok (.invokevirtual 217, 3) := by decide +kernel
theorem dX4_countRight_66 : decode cX4_countRight 66 = .ok (.iload_n 2, 1) := by decide +kernel
theorem dX4_countRight_67 : decode cX4_countRight 67 = .ok (.if_icmp .le 15, 3) := by decide +kernel
theorem dX4_countRight_70 : decode cX4_countRight 70 = .ok (.aload_n 0, 1) := by decide +kernel
theorem dX4_countRight_71 : decode cX4_countRight 71 = .ok (.getfield 10, 3) := by decide +kernel
theorem dX4_countRight_74 : decode cX4_countRight 74 = .ok (.getfield 116, 3) := by decide +kernel
theorem dX4_countRight_77 : decode cX4_countRight 77 = .ok (.iconst 1, 1) := by decide +kernel
theorem dX4_countRight_78 : decode cX4_countRight 78 = .ok (.laload, 1) := by decide +kernel
theorem dX4_countRight_79 : decode cX4_countRight 79 = .ok (.goto 4, 3) := by decide +kernel
theorem dX4_countRight_82 : decode cX4_countRight 82 = .ok (.lconst 0, 1) := by decide +kernel
theorem dX4_countRight_83 : decode cX4_countRight 83 = .ok (.lstore 7, 2) := by decide +kernel
theorem dX4_countRight_85 : decode cX4_countRight 85 = .ok (.iload_n 3, 1) := by decide +kernel
theorem dX4_countRight_86 : decode cX4_countRight 86 = .ok (.lload 5, 2) := by decide +kernel
theorem dX4_countRight_88 : decode cX4_countRight 88 = .ok (.lload 7, 2) := by decide +kernel
theorem dX4_countRight_90 : decode cX4_countRight 90 = .ok (.lor, 1) := by decide +kernel
theorem dX4_countRight_91 : decode cX4_countRight 91 = .ok (.aload_n 0, 1) := by decide +kernel
theorem dX4_countRight_92 : decode cX4_countRight 92 = .ok (.getfield 48, 3) := by decide +kernel
theorem dX4_countRight_95 : decode cX4_countRight 95 = .ok (.iload 4, 2) := by decide +kernel
theorem dX4_countRight_97 : decode cX4_countRight 97 = .ok (.laload, 1) := by decide +kernel
theorem dX4_countRight_98 : decode cX4_countRight 98 = .ok (.lor, 1) := by decide +kernel
theorem dX4_countRight_99 : decode cX4_countRight 99 = .ok (.invokestatic 199, 3) := by decide +kernel
theorem dX4_countRight_102 : decode cX4_countRight 102 = .ok (.iadd, 1) := by decide +kernel
theorem dX4_countRight_103 : decode cX4_countRight 103 = .ok (.istore_n 3, 1) := by decide +kernel
theorem dX4_countRight_104 : decode cX4_countRight 104 = .ok (.iinc 4 1, 3) := by decide +kernel
theorem dX4_countRight_107 : decode cX4_countRight 107 = .ok (.goto (-86), 3) := by decide +kernel
theorem dX4_countRight_110 : decode cX4_countRight 110 = .ok (.iload_n 3, 1) := by decide +kernel
theorem dX4_countRight_111 : decode cX4_countRight 111 = .ok (.ireturn, 1) := by decide +kernel
theorem dX4_within_0 : decode cX4_within 0 = .ok (.iload_n 0, 1) := by decide +kernel
theorem dX4_within_1 : decode cX4_within 1 = .ok (.iload_n 1, 1) := by decide +kernel
theorem dX4_within_2 : decode cX4_within 2 = .ok (.if_icmp .lt 12, 3) := by decide +kernel
theorem dX4_within_5 : decode cX4_within 5 = .ok (.iload_n 0, 1) := by decide +kernel
theorem dX4_within_6 : decode cX4_within 6 = .ok (.iload_n 2, 1) := by decide +kernel
theorem dX4_within_7 : decode cX4_within 7 = .ok (.if_icmp .gt 7, 3) := by decide +kernel
theorem dX4_within_10 : decode cX4_within 10 = .ok (.iconst 1, 1) := by decide +kernel
theorem dX4_within_11 : decode cX4_within 11 = .ok (.goto 4, 3) := by decide +kernel
theorem dX4_within_14 : decode cX4_within 14 = .ok (.iconst 0, 1) := by decide +kernel
theorem dX4_within_15 : decode cX4_within 15 = .ok (.ireturn, 1) := by decide +kernel
theorem dX4_colorIn_0 : decode cX4_colorIn 0 = .ok (.lload_n 0, 1) := by decide +kernel
theorem dX4_colorIn_1 : decode cX4_colorIn 1 = .ok (.iload_n 2, 1) := by decide +kernel
theorem dX4_colorIn_2 : decode cX4_colorIn 2 = .ok (.iconst 3, 1) := by decide +kernel
theorem dX4_colorIn_3 : decode cX4_colorIn 3 = .ok (.imul, 1) := by decide +kernel
theorem dX4_colorIn_4 : decode cX4_colorIn 4 = .ok (.lshr, 1) := by decide +kernel
theorem dX4_colorIn_5 : decode cX4_colorIn 5 = .ok (.l2i, 1) := by decide +kernel
theorem dX4_colorIn_6 : decode cX4_colorIn 6 = .ok (.bipush 7, 2) := by decide +kernel
theorem dX4_colorIn_8 : decode cX4_colorIn 8 = .ok (.iand, 1) := by decide +kernel
theorem dX4_colorIn_9 : decode cX4_colorIn 9 = .ok (.ireturn, 1) := by decide +kernel
theorem dX4_withColor_0 : decode cX4_withColor 0 = .ok (.iload_n 2, 1) := by decide +kernel
theorem dX4_withColor_1 : decode cX4_withColor 1 = .ok (.iconst 3, 1) := by decide +kernel
theorem dX4_withColor_2 : decode cX4_withColor 2 = .ok (.imul, 1) := by decide +kernel
theorem dX4_withColor_3 : decode cX4_withColor 3 = .ok (.istore 4, 2) := by decide +kernel
theorem dX4_withColor_5 : decode cX4_withColor 5 = .ok (.lload_n 0, 1) := by decide +kernel
theorem dX4_withColor_6 : decode cX4_withColor 6 = .ok (.ldc2_w 235, 3) := by decide +kernel
theorem dX4_withColor_9 : decode cX4_withColor 9 = .ok (.iload 4, 2) := by decide +kernel
theorem dX4_withColor_11 : decode cX4_withColor 11 = .ok (.lshl, 1) := by decide +kernel
theorem dX4_withColor_12 : decode cX4_withColor 12 = .ok (.ldc2_w 119, 3) := by decide +kernel
theorem dX4_withColor_15 : decode cX4_withColor 15 = .ok (.lxor, 1) := by decide +kernel
theorem dX4_withColor_16 : decode cX4_withColor 16 = .ok (.land, 1) := by decide +kernel
theorem dX4_withColor_17 : decode cX4_withColor 17 = .ok (.iload_n 3, 1) := by decide +kernel
theorem dX4_withColor_18 : decode cX4_withColor 18 = .ok (.i2l, 1) := by decide +kernel
theorem dX4_withColor_19 : decode cX4_withColor 19 = .ok (.iload 4, 2) := by decide +kernel
theorem dX4_withColor_21 : decode cX4_withColor 21 = .ok (.lshl, 1) := by decide +kernel
theorem dX4_withColor_22 : decode cX4_withColor 22 = .ok (.lor, 1) := by decide +kernel
theorem dX4_withColor_23 : decode cX4_withColor 23 = .ok (.lreturn, 1) := by decide +kernel
theorem dX4_notDark_0 : decode cX4_notDark 0 = .ok (.lload_n 0, 1) := by decide +kernel
theorem dX4_notDark_1 : decode cX4_notDark 1 = .ok (.lload_n 0, 1) := by decide +kernel
theorem dX4_notDark_2 : decode cX4_notDark 2 = .ok (.iconst 1, 1) := by decide +kernel
theorem dX4_notDark_3 : decode cX4_notDark 3 = .ok (.lshr, 1) := by decide +kernel
theorem dX4_notDark_4 : decode cX4_notDark 4 = .ok (.lor, 1) := by decide +kernel
theorem dX4_notDark_5 : decode cX4_notDark 5 = .ok (.lload_n 0, 1) := by decide +kernel
theorem dX4_notDark_6 : decode cX4_notDark 6 = .ok (.iconst 2, 1) := by decide +kernel
theorem dX4_notDark_7 : decode cX4_notDark 7 = .ok (.lshr, 1) := by decide +kernel
theorem dX4_notDark_8 : decode cX4_notDark 8 = .ok (.lor, 1) := by decide +kernel
theorem dX4_notDark_9 : decode cX4_notDark 9 = .ok (.ldc2_w 223, 3) := by decide +kernel
theorem dX4_notDark_12 : decode cX4_notDark 12 = .ok (.land, 1) := by decide +kernel
theorem dX4_notDark_13 : decode cX4_notDark 13 = .ok (.lreturn, 1) := by decide +kernel
theorem dJ13_bitCount_95d88_0 : decode cJ13_bitCount_95d88 0 = .ok (.lload_n 0, 1) := by decide +kernel
theorem dJ13_bitCount_95d88_1 : decode cJ13_bitCount_95d88 1 = .ok (.lload_n 0, 1) := by decide +kernel
theorem dJ13_bitCount_95d88_2 : decode cJ13_bitCount_95d88 2 = .ok (.iconst 1, 1) := by decide +kernel
theorem dJ13_bitCount_95d88_3 : decode cJ13_bitCount_95d88 3 = .ok (.lushr, 1) := by decide +kernel
theorem dJ13_bitCount_95d88_4 : decode cJ13_bitCount_95d88 4 = .ok (.ldc2_w 314, 3) := by decide +kernel
theorem dJ13_bitCount_95d88_7 : decode cJ13_bitCount_95d88 7 = .ok (.land, 1) := by decide +kernel
theorem dJ13_bitCount_95d88_8 : decode cJ13_bitCount_95d88 8 = .ok (.lsub, 1) := by decide +kernel
theorem dJ13_bitCount_95d88_9 : decode cJ13_bitCount_95d88 9 = .ok (.lstore_n 0, 1) := by decide +kernel
theorem dJ13_bitCount_95d88_10 : decode cJ13_bitCount_95d88 10 = .ok (.lload_n 0, 1) := by decide +kernel
theorem dJ13_bitCount_95d88_11 : decode cJ13_bitCount_95d88 11 = .ok (.ldc2_w 316, 3) := by decide +kernel
theorem dJ13_bitCount_95d88_14 : decode cJ13_bitCount_95d88 14 = .ok (.land, 1) := by decide +kernel
theorem dJ13_bitCount_95d88_15 : decode cJ13_bitCount_95d88 15 = .ok (.lload_n 0, 1) := by decide +kernel
theorem dJ13_bitCount_95d88_16 : decode cJ13_bitCount_95d88 16 = .ok (.iconst 2, 1) := by decide +kernel
theorem dJ13_bitCount_95d88_17 : decode cJ13_bitCount_95d88 17 = .ok (.lushr, 1) := by decide +kernel
theorem dJ13_bitCount_95d88_18 : decode cJ13_bitCount_95d88 18 = .ok (.ldc2_w 316, 3) := by decide +kernel
theorem dJ13_bitCount_95d88_21 : decode cJ13_bitCount_95d88 21 = .ok (.land, 1) := by decide +kernel
theorem dJ13_bitCount_95d88_22 : decode cJ13_bitCount_95d88 22 = .ok (.ladd, 1) := by decide +kernel
theorem dJ13_bitCount_95d88_23 : decode cJ13_bitCount_95d88 23 = .ok (.lstore_n 0, 1) := by decide +kernel
theorem dJ13_bitCount_95d88_24 : decode cJ13_bitCount_95d88 24 = .ok (.lload_n 0, 1) := by decide +kernel
theorem dJ13_bitCount_95d88_25 : decode cJ13_bitCount_95d88 25 = .ok (.lload_n 0, 1) := by decide +kernel
theorem dJ13_bitCount_95d88_26 : decode cJ13_bitCount_95d88 26 = .ok (.iconst 4, 1) := by decide +kernel
theorem dJ13_bitCount_95d88_27 : decode cJ13_bitCount_95d88 27 = .ok (.lushr, 1) := by decide +kernel
theorem dJ13_bitCount_95d88_28 : decode cJ13_bitCount_95d88 28 = .ok (.ladd, 1) := by decide +kernel
theorem dJ13_bitCount_95d88_29 : decode cJ13_bitCount_95d88 29 = .ok (.ldc2_w 318, 3) := by decide +kernel
theorem dJ13_bitCount_95d88_32 : decode cJ13_bitCount_95d88 32 = .ok (.land, 1) := by decide +kernel
theorem dJ13_bitCount_95d88_33 : decode cJ13_bitCount_95d88 33 = .ok (.lstore_n 0, 1) := by decide +kernel
theorem dJ13_bitCount_95d88_34 : decode cJ13_bitCount_95d88 34 = .ok (.lload_n 0, 1) := by decide +kernel
theorem dJ13_bitCount_95d88_35 : decode cJ13_bitCount_95d88 35 = .ok (.lload_n 0, 1) := by decide +kernel
theorem dJ13_bitCount_95d88_36 : decode cJ13_bitCount_95d88 36 = .ok (.bipush 8, 2) := by decide +kernel
theorem dJ13_bitCount_95d88_38 : decode cJ13_bitCount_95d88 38 = .ok (.lushr, 1) := by decide +kernel
theorem dJ13_bitCount_95d88_39 : decode cJ13_bitCount_95d88 39 = .ok (.ladd, 1) := by decide +kernel
theorem dJ13_bitCount_95d88_40 : decode cJ13_bitCount_95d88 40 = .ok (.lstore_n 0, 1) := by decide +kernel
theorem dJ13_bitCount_95d88_41 : decode cJ13_bitCount_95d88 41 = .ok (.lload_n 0, 1) := by decide +kernel
theorem dJ13_bitCount_95d88_42 : decode cJ13_bitCount_95d88 42 = .ok (.lload_n 0, 1) := by decide +kernel
theorem dJ13_bitCount_95d88_43 : decode cJ13_bitCount_95d88 43 = .ok (.bipush 16, 2) := by decide +kernel
theorem dJ13_bitCount_95d88_45 : decode cJ13_bitCount_95d88 45 = .ok (.lushr, 1) := by decide +kernel
theorem dJ13_bitCount_95d88_46 : decode cJ13_bitCount_95d88 46 = .ok (.ladd, 1) := by decide +kernel
theorem dJ13_bitCount_95d88_47 : decode cJ13_bitCount_95d88 47 = .ok (.lstore_n 0, 1) := by decide +kernel
theorem dJ13_bitCount_95d88_48 : decode cJ13_bitCount_95d88 48 = .ok (.lload_n 0, 1) := by decide +kernel
theorem dJ13_bitCount_95d88_49 : decode cJ13_bitCount_95d88 49 = .ok (.lload_n 0, 1) := by decide +kernel
theorem dJ13_bitCount_95d88_50 : decode cJ13_bitCount_95d88 50 = .ok (.bipush 32, 2) := by decide +kernel
theorem dJ13_bitCount_95d88_52 : decode cJ13_bitCount_95d88 52 = .ok (.lushr, 1) := by decide +kernel
theorem dJ13_bitCount_95d88_53 : decode cJ13_bitCount_95d88 53 = .ok (.ladd, 1) := by decide +kernel
theorem dJ13_bitCount_95d88_54 : decode cJ13_bitCount_95d88 54 = .ok (.lstore_n 0, 1) := by decide +kernel
theorem dJ13_bitCount_95d88_55 : decode cJ13_bitCount_95d88 55 = .ok (.lload_n 0, 1) := by decide +kernel
theorem dJ13_bitCount_95d88_56 : decode cJ13_bitCount_95d88 56 = .ok (.l2i, 1) := by decide +kernel
theorem dJ13_bitCount_95d88_57 : decode cJ13_bitCount_95d88 57 = .ok (.bipush 127, 2) := by decide +kernel
theorem dJ13_bitCount_95d88_59 : decode cJ13_bitCount_95d88 59 = .ok (.iand, 1) := by decide +kernel
theorem dJ13_bitCount_95d88_60 : decode cJ13_bitCount_95d88 60 = .ok (.ireturn, 1) := by decide +kernel
theorem dJ9_floorMod_7cf53_0 : decode cJ9_floorMod_7cf53 0 = .ok (.iload_n 0, 1) := by decide +kernel
theorem dJ9_floorMod_7cf53_1 : decode cJ9_floorMod_7cf53 1 = .ok (.iload_n 1, 1) := by decide +kernel
theorem dJ9_floorMod_7cf53_2 : decode cJ9_floorMod_7cf53 2 = .ok (.irem, 1) := by decide +kernel
theorem dJ9_floorMod_7cf53_3 : decode cJ9_floorMod_7cf53 3 = .ok (.istore_n 2, 1) := by decide +kernel
theorem dJ9_floorMod_7cf53_4 : decode cJ9_floorMod_7cf53 4 = .ok (.iload_n 0, 1) := by decide +kernel
theorem dJ9_floorMod_7cf53_5 : decode cJ9_floorMod_7cf53 5 = .ok (.iload_n 1, 1) := by decide +kernel
theorem dJ9_floorMod_7cf53_6 : decode cJ9_floorMod_7cf53 6 = .ok (.ixor, 1) := by decide +kernel
theorem dJ9_floorMod_7cf53_7 : decode cJ9_floorMod_7cf53 7 = .ok (.ifCond .ge 11, 3) := by decide +kernel
theorem dJ9_floorMod_7cf53_10 : decode cJ9_floorMod_7cf53 10 = .ok (.iload_n 2, 1) := by decide +kernel
theorem dJ9_floorMod_7cf53_11 : decode cJ9_floorMod_7cf53 11 = .ok (.ifCond .eq 7, 3) := by decide +kernel
theorem dJ9_floorMod_7cf53_14 : decode cJ9_floorMod_7cf53 14 = .ok (.iload_n 2, 1) := by decide +kernel
theorem dJ9_floorMod_7cf53_15 : decode cJ9_floorMod_7cf53 15 = .ok (.iload_n 1, 1) := by decide +kernel
theorem dJ9_floorMod_7cf53_16 : decode cJ9_floorMod_7cf53 16 = .ok (.iadd, 1) := by decide +kernel
theorem dJ9_floorMod_7cf53_17 : decode cJ9_floorMod_7cf53 17 = .ok (.ireturn, 1) := by decide +kernel
theorem dJ9_floorMod_7cf53_18 : decode cJ9_floorMod_7cf53 18 = .ok (.iload_n 2, 1) := by decide +kernel
theorem dJ9_floorMod_7cf53_19 : decode cJ9_floorMod_7cf53 19 = .ok (.ireturn, 1) := by decide +kernel
theorem dJ9_abs_0f7a4_0 : decode cJ9_abs_0f7a4 0 = .ok (.iload_n 0, 1) := by decide +kernel
theorem dJ9_abs_0f7a4_1 : decode cJ9_abs_0f7a4 1 = .ok (.ifCond .ge 8, 3) := by decide +kernel
theorem dJ9_abs_0f7a4_4 : decode cJ9_abs_0f7a4 4 = .ok (.iload_n 0, 1) := by decide +kernel
theorem dJ9_abs_0f7a4_5 : decode cJ9_abs_0f7a4 5 = .ok (.ineg, 1) := by decide +kernel
theorem dJ9_abs_0f7a4_6 : decode cJ9_abs_0f7a4 6 = .ok (.goto 4, 3) := by decide +kernel
theorem dJ9_abs_0f7a4_9 : decode cJ9_abs_0f7a4 9 = .ok (.iload_n 0, 1) := by decide +kernel
theorem dJ9_abs_0f7a4_10 : decode cJ9_abs_0f7a4 10 = .ok (.ireturn, 1) := by decide +kernel
theorem dJ9_max_7cf53_0 : decode cJ9_max_7cf53 0 = .ok (.iload_n 0, 1) := by decide +kernel
theorem dJ9_max_7cf53_1 : decode cJ9_max_7cf53 1 = .ok (.iload_n 1, 1) := by decide +kernel
theorem dJ9_max_7cf53_2 : decode cJ9_max_7cf53 2 = .ok (.if_icmp .lt 7, 3) := by decide +kernel
theorem dJ9_max_7cf53_5 : decode cJ9_max_7cf53 5 = .ok (.iload_n 0, 1) := by decide +kernel
theorem dJ9_max_7cf53_6 : decode cJ9_max_7cf53 6 = .ok (.goto 4, 3) := by decide +kernel
theorem dJ9_max_7cf53_9 : decode cJ9_max_7cf53 9 = .ok (.iload_n 1, 1) := by decide +kernel
theorem dJ9_max_7cf53_10 : decode cJ9_max_7cf53 10 = .ok (.ireturn, 1) := by decide +kernel
theorem dJ9_min_7cf53_0 : decode cJ9_min_7cf53 0 = .ok (.iload_n 0, 1) := by decide +kernel
theorem dJ9_min_7cf53_1 : decode cJ9_min_7cf53 1 = .ok (.iload_n 1, 1) := by decide +kernel
theorem dJ9_min_7cf53_2 : decode cJ9_min_7cf53 2 = .ok (.if_icmp .gt 7, 3) := by decide +kernel
theorem dJ9_min_7cf53_5 : decode cJ9_min_7cf53 5 = .ok (.iload_n 0, 1) := by decide +kernel
theorem dJ9_min_7cf53_6 : decode cJ9_min_7cf53 6 = .ok (.goto 4, 3) := by decide +kernel
theorem dJ9_min_7cf53_9 : decode cJ9_min_7cf53 9 = .ok (.iload_n 1, 1) := by decide +kernel
theorem dJ9_min_7cf53_10 : decode cJ9_min_7cf53 10 = .ok (.ireturn, 1) := by decide +kernel
theorem dL_lot_0 : decode cL_lot 0 = .ok (.iload_n 1, 1) := by decide +kernel
theorem dL_lot_1 : decode cL_lot 1 = .ok (.aload_n 0, 1) := by decide +kernel
theorem dL_lot_2 : decode cL_lot 2 = .ok (.arraylength, 1) := by decide +kernel
theorem dL_lot_3 : decode cL_lot 3 = .ok (.if_icmp .ge 9, 3) := by decide +kernel
theorem dL_lot_6 : decode cL_lot 6 = .ok (.aload_n 0, 1) := by decide +kernel
theorem dL_lot_7 : decode cL_lot 7 = .ok (.iload_n 1, 1) := by decide +kernel
theorem dL_lot_8 : decode cL_lot 8 = .ok (.iaload, 1) := by decide +kernel
theorem dL_lot_9 : decode cL_lot 9 = .ok (.goto 15, 3) := by decide +kernel
theorem dL_lot_12 : decode cL_lot 12 = .ok (.ldc 7, 2) := by decide +kernel
theorem dL_lot_14 : decode cL_lot 14 = .ok (.iload_n 1, 1) := by decide +kernel
theorem dL_lot_15 : decode cL_lot 15 = .ok (.sipush 1933, 3) := by decide +kernel
theorem dL_lot_18 : decode cL_lot 18 = .ok (.iadd, 1) := by decide +kernel
theorem dL_lot_19 : decode cL_lot 19 = .ok (.imul, 1) := by decide +kernel
theorem dL_lot_20 : decode cL_lot 20 = .ok (.sipush 1741, 3) := by decide +kernel
theorem dL_lot_23 : decode cL_lot 23 = .ok (.iadd, 1) := by decide +kernel
theorem dL_lot_24 : decode cL_lot 24 = .ok (.ireturn, 1) := by decide +kernel
theorem dL_low_0 : decode cL_low 0 = .ok (.iload_n 0, 1) := by decide +kernel
theorem dL_low_1 : decode cL_low 1 = .ok (.ldc 8, 2) := by decide +kernel
theorem dL_low_3 : decode cL_low 3 = .ok (.iand, 1) := by decide +kernel
theorem dL_low_4 : decode cL_low 4 = .ok (.iload_n 1, 1) := by decide +kernel
theorem dL_low_5 : decode cL_low 5 = .ok (.irem, 1) := by decide +kernel
theorem dL_low_6 : decode cL_low 6 = .ok (.ireturn, 1) := by decide +kernel
theorem dL_size_0 : decode cL_size 0 = .ok (.iload_n 0, 1) := by decide +kernel
theorem dL_size_1 : decode cL_size 1 = .ok (.ifCond .ge 8, 3) := by decide +kernel
theorem dL_size_4 : decode cL_size 4 = .ok (.iload_n 0, 1) := by decide +kernel
theorem dL_size_5 : decode cL_size 5 = .ok (.ineg, 1) := by decide +kernel
theorem dL_size_6 : decode cL_size 6 = .ok (.goto 4, 3) := by decide +kernel
theorem dL_size_9 : decode cL_size 9 = .ok (.iload_n 0, 1) := by decide +kernel
theorem dL_size_10 : decode cL_size 10 = .ok (.ireturn, 1) := by decide +kernel
set_option maxRecDepth 20000 in
theorem ggL_places_L_low : GoodIn wsL_places wsL_low := goodIn_r _ [4, 5] (by decide +kernel) (by decide +kernel)
set_option maxRecDepth 20000 in
theorem gL_places_L_low : GoodIn wsL_places (va_wsS RL 9 yL_low wsL_low) := goodIn_app (goodIn_of _ (by decide +kernel)) ggL_places_L_low
set_option maxRecDepth 20000 in
theorem ggL_places_X4_count : GoodIn wsL_places wsX4_count := goodIn_r _ [10, 11, 12, 13, 14, 15, 16, 17, 18, 19, 20, 21, 22, 9, 23, 24, 25, 26, 27, 28, 29, 30, 31, 32, 33, 34, 35, 36, 37, 38, 39, 40, 41, 42, 43, 44, 45, 46, 47, 48, 49, 50, 51, 52, 53, 54, 55, 56, 57, 58, 59, 60, 61, 62, 63, 64, 65, 66, 67, 68, 69, 70, 71, 72, 73, 74, 75, 76, 77, 78, 79, 80, 81, 82, 83, 84, 85, 86, 87, 137, 138, 139, 140, 141, 142, 143, 144, 145, 146, 147, 148, 149, 150, 151, 152, 153, 154, 155, 156, 157, 158, 159, 160, 161] (by decide +kernel) (by decide +kernel)
set_option maxRecDepth 20000 in
theorem gL_places_X4_count : GoodIn wsL_places (wsV RL 15 RX4 yX4_count wsX4_count) := goodIn_app (goodIn_of _ (by decide +kernel)) ggL_places_X4_count
set_option maxRecDepth 20000 in
theorem ggL_places_X4_columnAt : GoodIn wsL_places wsX4_columnAt := goodIn_r _ [91, 11, 92, 93, 94, 27, 95, 57, 58, 96, 9, 97, 98, 99, 67, 68, 62, 69, 70, 71, 72, 73, 74, 75, 76, 77, 78, 79, 80, 81, 82, 33, 83, 100, 85, 86, 87, 64, 137, 138, 139, 140, 141, 142, 143, 144, 145, 146, 147, 148, 149, 150, 151, 152, 153, 154, 155, 156, 157, 158, 159, 160, 161] (by decide +kernel) (by decide +kernel)
set_option maxRecDepth 20000 in
theorem gL_places_X4_columnAt : GoodIn wsL_places (wsV RL 21 RX4 yX4_columnAt wsX4_columnAt) := goodIn_app (goodIn_of _ (by decide +kernel)) ggL_places_X4_columnAt
set_option maxRecDepth 20000 in
theorem ggL_places_X4_picture : GoodIn wsL_places wsX4_picture := goodIn_r _ [104, 11, 105, 106, 107, 108, 92, 93, 94, 27, 95, 57, 58, 96, 9, 97, 109, 110, 111, 62, 112, 79, 65, 39, 40, 41, 113, 43, 44, 45, 46, 47, 48, 114, 76, 77, 78, 80, 81, 82, 33, 83, 137, 138, 139, 140, 141, 142, 143, 144, 145, 157, 158, 159, 160, 161, 146, 147, 148, 149, 150, 151, 152, 153, 154, 155, 156] (by decide +kernel) (by decide +kernel)
set_option maxRecDepth 20000 in
theorem gL_places_X4_picture : GoodIn wsL_places (wsV RL 24 RX4 yX4_picture wsX4_picture) := goodIn_app (goodIn_of _ (by decide +kernel)) ggL_places_X4_picture
set_option maxRecDepth 20000 in
theorem ggL_places_X4_color : GoodIn wsL_places wsX4_color := goodIn_r _ [118, 11, 105, 119, 92, 93, 94, 27, 95, 57, 58, 96, 9, 97, 98, 120, 121, 122, 137, 138, 139, 140, 141, 142, 143, 144, 145, 157, 158, 159, 160, 161, 146, 147, 148, 149, 150, 151, 152, 153, 154, 155, 156] (by decide +kernel) (by decide +kernel)
set_option maxRecDepth 20000 in
theorem gL_places_X4_color : GoodIn wsL_places (wsV RL 27 RX4 yX4_color wsX4_color) := goodIn_app (goodIn_of _ (by decide +kernel)) ggL_places_X4_color
set_option maxRecDepth 20000 in
theorem ggL_places_X4_place : GoodIn wsL_places wsX4_place := goodIn_r _ [126, 11, 98, 96, 9, 97, 53, 54, 55, 27, 56, 57, 58, 59, 60, 61, 62, 63, 64, 65, 66, 67, 68, 69, 70, 71, 72, 73, 74, 75, 76, 77, 78, 79, 80, 81, 82, 33, 83, 84, 85, 86, 87, 120, 121, 122, 24, 25, 26, 28, 29, 30, 31, 32, 34, 35, 36, 37, 127, 128, 129, 130, 131, 15, 137, 138, 139, 140, 141, 142, 143, 144, 145, 146, 147, 148, 149, 150, 151, 152, 153, 154, 155, 156, 157, 158, 159, 160, 161] (by decide +kernel) (by decide +kernel)
set_option maxRecDepth 20000 in
theorem gL_places_X4_place : GoodIn wsL_places (wsV RL 31 RX4 yX4_place wsX4_place) := goodIn_app (goodIn_of _ (by decide +kernel)) ggL_places_X4_place
set_option maxRecDepth 20000 in
theorem ggL_places_X4_setting : GoodIn wsL_places wsX4_setting := goodIn_r _ [135, 11, 136, 98, 96, 9, 97, 137, 138, 139, 140, 141, 142, 143, 144, 145, 146, 147, 148, 149, 150, 151, 152, 153, 154, 155, 156] (by decide +kernel) (by decide +kernel)
set_option maxRecDepth 20000 in
theorem gL_places_X4_setting : GoodIn wsL_places (wsV RL 34 RX4 yX4_setting wsX4_setting) := goodIn_app (goodIn_of _ (by decide +kernel)) ggL_places_X4_setting
theorem dL_places_0 : decode cL_places 0 = .ok (.iconst 0, 1) := by decide +kernel
theorem dL_places_1 : decode cL_places 1 = .ok (.istore_n 2, 1) := by decide +kernel
theorem dL_places_2 : decode cL_places 2 = .ok (.iload_n 2, 1) := by decide +kernel
theorem dL_places_3 : decode cL_places 3 = .ok (.bipush 24, 2) := by decide +kernel
theorem dL_places_5 : decode cL_places 5 = .ok (.if_icmp .ge 227, 3) := by decide +kernel
theorem dL_places_8 : decode cL_places 8 = .ok (.iload_n 2, 1) := by decide +kernel
theorem dL_places_9 : decode cL_places 9 = .ok (.bipush 12, 2) := by decide +kernel
theorem dL_places_11 : decode cL_places 11 = .ok (.if_icmp .ge 15, 3) := by decide +kernel
theorem dL_places_14 : decode cL_places 14 = .ok (.iload_n 1, 1) := by decide +kernel
theorem dL_places_15 : decode cL_places 15 = .ok (.iload_n 2, 1) := by decide +kernel
theorem dL_places_16 : decode cL_places 16 = .ok (.ishr, 1) := by decide +kernel
theorem dL_places_17 : decode cL_places 17 = .ok (.sipush 720, 3) := by decide +kernel
theorem dL_places_20 : decode cL_places 20 = .ok (.invokestatic 9, 3) := by decide +kernel
theorem dL_places_23 : decode cL_places 23 = .ok (.goto 31, 3) := by decide +kernel
theorem dL_places_26 : decode cL_places 26 = .ok (.aload_n 0, 1) := by decide +kernel
theorem dL_places_27 : decode cL_places 27 = .ok (.iconst 1, 1) := by decide +kernel
theorem dL_places_28 : decode cL_places 28 = .ok (.invokevirtual 15, 3) := by decide +kernel
theorem dL_places_31 : decode cL_places 31 = .ok (.iload_n 1, 1) := by decide +kernel
theorem dL_places_32 : decode cL_places 32 = .ok (.iload_n 2, 1) := by decide +kernel
theorem dL_places_33 : decode cL_places 33 = .ok (.bipush 9, 2) := by decide +kernel
theorem dL_places_35 : decode cL_places 35 = .ok (.isub, 1) := by decide +kernel
theorem dL_places_36 : decode cL_places 36 = .ok (.ishr, 1) := by decide +kernel
theorem dL_places_37 : decode cL_places 37 = .ok (.bipush 61, 2) := by decide +kernel
theorem dL_places_39 : decode cL_places 39 = .ok (.invokestatic 9, 3) := by decide +kernel
theorem dL_places_42 : decode cL_places 42 = .ok (.iadd, 1) := by decide +kernel
theorem dL_places_43 : decode cL_places 43 = .ok (.bipush 30, 2) := by decide +kernel
theorem dL_places_45 : decode cL_places 45 = .ok (.isub, 1) := by decide +kernel
theorem dL_places_46 : decode cL_places 46 = .ok (.sipush 720, 3) := by decide +kernel
theorem dL_places_49 : decode cL_places 49 = .ok (.iadd, 1) := by decide +kernel
theorem dL_places_50 : decode cL_places 50 = .ok (.sipush 720, 3) := by decide +kernel
theorem dL_places_53 : decode cL_places 53 = .ok (.irem, 1) := by decide +kernel
theorem dL_places_54 : decode cL_places 54 = .ok (.istore_n 3, 1) := by decide +kernel
theorem dL_places_55 : decode cL_places 55 = .ok (.iload_n 1, 1) := by decide +kernel
theorem dL_places_56 : decode cL_places 56 = .ok (.iload_n 2, 1) := by decide +kernel
theorem dL_places_57 : decode cL_places 57 = .ok (.iconst 2, 1) := by decide +kernel
theorem dL_places_58 : decode cL_places 58 = .ok (.idiv, 1) := by decide +kernel
theorem dL_places_59 : decode cL_places 59 = .ok (.ishr, 1) := by decide +kernel
theorem dL_places_60 : decode cL_places 60 = .ok (.bipush 12, 2) := by decide +kernel
theorem dL_places_62 : decode cL_places 62 = .ok (.invokestatic 9, 3) := by decide +kernel
theorem dL_places_65 : decode cL_places 65 = .ok (.istore 4, 2) := by decide +kernel
theorem dL_places_67 : decode cL_places 67 = .ok (.iconst 0, 1) := by decide +kernel
theorem dL_places_68 : decode cL_places 68 = .ok (.istore 5, 2) := by decide +kernel
theorem dL_places_70 : decode cL_places 70 = .ok (.iconst 0, 1) := by decide +kernel
theorem dL_places_71 : decode cL_places 71 = .ok (.istore 6, 2) := by decide +kernel
theorem dL_places_73 : decode cL_places 73 = .ok (.iload 6, 2) := by decide +kernel
theorem dL_places_75 : decode cL_places 75 = .ok (.aload_n 0, 1) := by decide +kernel
theorem dL_places_76 : decode cL_places 76 = .ok (.iconst 0, 1) := by decide +kernel
theorem dL_places_77 : decode cL_places 77 = .ok (.invokevirtual 15, 3) := by decide +kernel
theorem dL_places_80 : decode cL_places 80 = .ok (.if_icmp .ge 55, 3) := by decide +kernel
theorem dL_places_83 : decode cL_places 83 = .ok (.aload_n 0, 1) := by decide +kernel
theorem dL_places_84 : decode cL_places 84 = .ok (.iload 6, 2) := by decide +kernel
theorem dL_places_86 : decode cL_places 86 = .ok (.iload_n 3, 1) := by decide +kernel
theorem dL_places_87 : decode cL_places 87 = .ok (.invokevirtual 21, 3) := by decide +kernel
theorem dL_places_90 : decode cL_places 90 = .ok (.istore 7, 2) := by decide +kernel
theorem dL_places_92 : decode cL_places 92 = .ok (.iload 5, 2) := by decide +kernel
theorem dL_places_94 : decode cL_places 94 = .ok (.aload_n 0, 1) := by decide +kernel
theorem dL_places_95 : decode cL_places 95 = .ok (.iload 6, 2) := by decide +kernel
theorem dL_places_97 : decode cL_places 97 = .ok (.iconst 3, 1) := by decide +kernel
theorem dL_places_98 : decode cL_places 98 = .ok (.invokevirtual 24, 3) := by decide +kernel
theorem dL_places_101 : decode cL_places 101 = .ok (.iconst 2, 1) := by decide +kernel
theorem dL_places_102 : decode cL_places 102 = .ok (.if_icmp .eq 10, 3) := by decide +kernel
theorem dL_places_105 : decode cL_places 105 = .ok (.iload 7, 2) := by decide +kernel
theorem dL_places_107 : decode cL_places 107 = .ok (.bipush (-109), 2) := by decide +kernel
theorem dL_places_109 : decode cL_places 109 = .ok (.if_icmp .ne 7, 3) := by decide +kernel
theorem dL_places_112 : decode cL_places 112 = .ok (.iconst 0, 1) := by decide +kernel
theorem dL_places_113 : decode cL_places 113 = .ok (.goto 13, 3) := by decide +kernel
theorem dL_places_116 : decode cL_places 116 = .ok (.aload_n 0, 1) := by decide +kernel
theorem dL_places_117 : decode cL_places 117 = .ok (.iload 6, 2) := by decide +kernel
theorem dL_places_119 : decode cL_places 119 = .ok (.iload 7, 2) := by decide +kernel
theorem dL_places_121 : decode cL_places 121 = .ok (.iload 4, 2) := by decide +kernel
theorem dL_places_123 : decode cL_places 123 = .ok (.invokevirtual 27, 3) := by decide +kernel
theorem dL_places_126 : decode cL_places 126 = .ok (.ior, 1) := by decide +kernel
theorem dL_places_127 : decode cL_places 127 = .ok (.istore 5, 2) := by decide +kernel
theorem dL_places_129 : decode cL_places 129 = .ok (.iinc 6 1, 3) := by decide +kernel
theorem dL_places_132 : decode cL_places 132 = .ok (.goto (-59), 3) := by decide +kernel
theorem dL_places_135 : decode cL_places 135 = .ok (.aload_n 0, 1) := by decide +kernel
theorem dL_places_136 : decode cL_places 136 = .ok (.iload_n 3, 1) := by decide +kernel
theorem dL_places_137 : decode cL_places 137 = .ok (.iload 4, 2) := by decide +kernel
theorem dL_places_139 : decode cL_places 139 = .ok (.iconst 1, 1) := by decide +kernel
theorem dL_places_140 : decode cL_places 140 = .ok (.invokevirtual 31, 3) := by decide +kernel
theorem dL_places_143 : decode cL_places 143 = .ok (.istore 6, 2) := by decide +kernel
theorem dL_places_145 : decode cL_places 145 = .ok (.aload_n 0, 1) := by decide +kernel
theorem dL_places_146 : decode cL_places 146 = .ok (.iload_n 3, 1) := by decide +kernel
theorem dL_places_147 : decode cL_places 147 = .ok (.iload 4, 2) := by decide +kernel
theorem dL_places_149 : decode cL_places 149 = .ok (.iconst 2, 1) := by decide +kernel
theorem dL_places_150 : decode cL_places 150 = .ok (.invokevirtual 31, 3) := by decide +kernel
theorem dL_places_153 : decode cL_places 153 = .ok (.istore 7, 2) := by decide +kernel
theorem dL_places_155 : decode cL_places 155 = .ok (.aload_n 0, 1) := by decide +kernel
theorem dL_places_156 : decode cL_places 156 = .ok (.iload_n 3, 1) := by decide +kernel
theorem dL_places_157 : decode cL_places 157 = .ok (.iload 4, 2) := by decide +kernel
theorem dL_places_159 : decode cL_places 159 = .ok (.iconst 0, 1) := by decide +kernel
theorem dL_places_160 : decode cL_places 160 = .ok (.invokevirtual 31, 3) := by decide +kernel
theorem dL_places_163 : decode cL_places 163 = .ok (.iload 5, 2) := by decide +kernel

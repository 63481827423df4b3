theorem dX5_isCovered_2 : decode cX5_isCovered 2 = .ok (.iconst 0, 1) := by decide +kernel
theorem dX5_isCovered_3 : decode cX5_isCovered 3 = .ok (.istore_n 3, 1) := by decide +kernel
theorem dX5_isCovered_4 : decode cX5_isCovered 4 = .ok (.iload_n 3, 1) := by decide +kernel
theorem dX5_isCovered_5 : decode cX5_isCovered 5 = .ok (.aload_n 0, 1) := by decide +kernel
theorem dX5_isCovered_6 : decode cX5_isCovered 6 = .ok (.getfield 7, 3) := by decide +kernel
theorem dX5_isCovered_9 : decode cX5_isCovered 9 = .ok (.bipush 11, 2) := by decide +kernel
theorem dX5_isCovered_11 : decode cX5_isCovered 11 = .ok (.iaload, 1) := by decide +kernel
theorem dX5_isCovered_12 : decode cX5_isCovered 12 = .ok (.if_icmp .ge 40, 3) := by decide +kernel
theorem dX5_isCovered_15 : decode cX5_isCovered 15 = .ok (.iload_n 2, 1) := by decide +kernel
theorem dX5_isCovered_16 : decode cX5_isCovered 16 = .ok (.ifCond .ne 24, 3) := by decide +kernel
theorem dX5_isCovered_19 : decode cX5_isCovered 19 = .ok (.aload_n 0, 1) := by decide +kernel
theorem dX5_isCovered_20 : decode cX5_isCovered 20 = .ok (.iload_n 3, 1) := by decide +kernel
theorem dX5_isCovered_21 : decode cX5_isCovered 21 = .ok (.iconst 3, 1) := by decide +kernel
theorem dX5_isCovered_22 : decode cX5_isCovered 22 = .ok (.invokevirtual 64, 3) := by decide +kernel
theorem dX5_isCovered_25 : decode cX5_isCovered 25 = .ok (.iconst 2, 1) := by decide +kernel
theorem dX5_isCovered_26 : decode cX5_isCovered 26 = .ok (.if_icmp .eq 18, 3) := by decide +kernel
theorem dX5_isCovered_29 : decode cX5_isCovered 29 = .ok (.aload_n 0, 1) := by decide +kernel
theorem dX5_isCovered_30 : decode cX5_isCovered 30 = .ok (.iload_n 3, 1) := by decide +kernel
theorem dX5_isCovered_31 : decode cX5_isCovered 31 = .ok (.iload_n 1, 1) := by decide +kernel
theorem dX5_isCovered_32 : decode cX5_isCovered 32 = .ok (.invokevirtual 77, 3) := by decide +kernel
theorem dX5_isCovered_35 : decode cX5_isCovered 35 = .ok (.bipush (-109), 2) := by decide +kernel
theorem dX5_isCovered_37 : decode cX5_isCovered 37 = .ok (.if_icmp .eq 7, 3) := by decide +kernel
theorem dX5_isCovered_40 : decode cX5_isCovered 40 = .ok (.iconst 1, 1) := by decide +kernel
theorem dX5_isCovered_41 : decode cX5_isCovered 41 = .ok (.goto 4, 3) := by decide +kernel
theorem dX5_isCovered_44 : decode cX5_isCovered 44 = .ok (.iconst 0, 1) := by decide +kernel
theorem dX5_isCovered_45 : decode cX5_isCovered 45 = .ok (.istore_n 2, 1) := by decide +kernel
theorem dX5_isCovered_46 : decode cX5_isCovered 46 = .ok (.iinc 3 1, 3) := by decide +kernel
theorem dX5_isCovered_49 : decode cX5_isCovered 49 = .ok (.goto (-45), 3) := by decide +kernel
theorem dX5_isCovered_52 : decode cX5_isCovered 52 = .ok (.iload_n 2, 1) := by decide +kernel
theorem dX5_isCovered_53 : decode cX5_isCovered 53 = .ok (.ireturn, 1) := by decide +kernel
set_option maxRecDepth 20000 in
theorem ggX5_mark_X5_tick : GoodIn wsX5_mark wsX5_tick := goodIn_r _ [7, 1, 8, 9, 10, 6, 11, 12, 13, 14, 15, 16, 17, 18, 19, 20, 21, 22, 23, 24, 25, 26, 27, 28, 29, 30, 31, 32, 33, 34, 35, 36, 37, 38, 39, 40, 41, 42, 43] (by decide +kernel) (by decide +kernel)
set_option maxRecDepth 20000 in
theorem gX5_mark_X5_tick : GoodIn wsX5_mark (wsV RX5 155 RX5 yX5_tick wsX5_tick) := goodIn_app (goodIn_of _ (by decide +kernel)) ggX5_mark_X5_tick
set_option maxRecDepth 20000 in
theorem ggX5_mark_X5_around : GoodIn wsX5_mark wsX5_around := goodIn_r _ [17] (by decide +kernel) (by decide +kernel)
set_option maxRecDepth 20000 in
theorem gX5_mark_X5_around : GoodIn wsX5_mark (va_wsS RX5 70 yX5_around wsX5_around) := goodIn_app (goodIn_of _ (by decide +kernel)) ggX5_mark_X5_around
theorem dX5_mark_0 : decode cX5_mark 0 = .ok (.aload_n 0, 1) := by decide +kernel
theorem dX5_mark_1 : decode cX5_mark 1 = .ok (.getfield 7, 3) := by decide +kernel
theorem dX5_mark_4 : decode cX5_mark 4 = .ok (.iconst 4, 1) := by decide +kernel
theorem dX5_mark_5 : decode cX5_mark 5 = .ok (.iaload, 1) := by decide +kernel
theorem dX5_mark_6 : decode cX5_mark 6 = .ok (.istore_n 1, 1) := by decide +kernel
theorem dX5_mark_7 : decode cX5_mark 7 = .ok (.aload_n 0, 1) := by decide +kernel
theorem dX5_mark_8 : decode cX5_mark 8 = .ok (.invokevirtual 155, 3) := by decide +kernel
theorem dX5_mark_11 : decode cX5_mark 11 = .ok (.aload_n 0, 1) := by decide +kernel
theorem dX5_mark_12 : decode cX5_mark 12 = .ok (.getfield 7, 3) := by decide +kernel
theorem dX5_mark_15 : decode cX5_mark 15 = .ok (.iconst 5, 1) := by decide +kernel
theorem dX5_mark_16 : decode cX5_mark 16 = .ok (.iaload, 1) := by decide +kernel
theorem dX5_mark_17 : decode cX5_mark 17 = .ok (.ifCond .ge 7, 3) := by decide +kernel
theorem dX5_mark_20 : decode cX5_mark 20 = .ok (.iconst (-1), 1) := by decide +kernel
theorem dX5_mark_21 : decode cX5_mark 21 = .ok (.goto 4, 3) := by decide +kernel
theorem dX5_mark_24 : decode cX5_mark 24 = .ok (.iconst 1, 1) := by decide +kernel
theorem dX5_mark_25 : decode cX5_mark 25 = .ok (.istore_n 2, 1) := by decide +kernel
theorem dX5_mark_26 : decode cX5_mark 26 = .ok (.iload_n 1, 1) := by decide +kernel
theorem dX5_mark_27 : decode cX5_mark 27 = .ok (.aload_n 0, 1) := by decide +kernel
theorem dX5_mark_28 : decode cX5_mark 28 = .ok (.getfield 7, 3) := by decide +kernel
theorem dX5_mark_31 : decode cX5_mark 31 = .ok (.iconst 4, 1) := by decide +kernel
theorem dX5_mark_32 : decode cX5_mark 32 = .ok (.iaload, 1) := by decide +kernel
theorem dX5_mark_33 : decode cX5_mark 33 = .ok (.if_icmp .eq 44, 3) := by decide +kernel
theorem dX5_mark_36 : decode cX5_mark 36 = .ok (.iload_n 1, 1) := by decide +kernel
theorem dX5_mark_37 : decode cX5_mark 37 = .ok (.iload_n 2, 1) := by decide +kernel
theorem dX5_mark_38 : decode cX5_mark 38 = .ok (.iadd, 1) := by decide +kernel
theorem dX5_mark_39 : decode cX5_mark 39 = .ok (.invokestatic 70, 3) := by decide +kernel
theorem dX5_mark_42 : decode cX5_mark 42 = .ok (.istore_n 1, 1) := by decide +kernel
theorem dX5_mark_43 : decode cX5_mark 43 = .ok (.aload_n 0, 1) := by decide +kernel
theorem dX5_mark_44 : decode cX5_mark 44 = .ok (.getfield 37, 3) := by decide +kernel
theorem dX5_mark_47 : decode cX5_mark 47 = .ok (.iload_n 1, 1) := by decide +kernel
theorem dX5_mark_48 : decode cX5_mark 48 = .ok (.iconst 1, 1) := by decide +kernel
theorem dX5_mark_49 : decode cX5_mark 49 = .ok (.iastore, 1) := by decide +kernel
theorem dX5_mark_50 : decode cX5_mark 50 = .ok (.aload_n 0, 1) := by decide +kernel
theorem dX5_mark_51 : decode cX5_mark 51 = .ok (.getfield 37, 3) := by decide +kernel
theorem dX5_mark_54 : decode cX5_mark 54 = .ok (.iload_n 1, 1) := by decide +kernel
theorem dX5_mark_55 : decode cX5_mark 55 = .ok (.sipush 360, 3) := by decide +kernel
theorem dX5_mark_58 : decode cX5_mark 58 = .ok (.iadd, 1) := by decide +kernel
theorem dX5_mark_59 : decode cX5_mark 59 = .ok (.sipush 720, 3) := by decide +kernel
theorem dX5_mark_62 : decode cX5_mark 62 = .ok (.irem, 1) := by decide +kernel
theorem dX5_mark_63 : decode cX5_mark 63 = .ok (.dup2, 1) := by decide +kernel
theorem dX5_mark_64 : decode cX5_mark 64 = .ok (.iaload, 1) := by decide +kernel
theorem dX5_mark_65 : decode cX5_mark 65 = .ok (.aload_n 0, 1) := by decide +kernel
theorem dX5_mark_66 : decode cX5_mark 66 = .ok (.getfield 7, 3) := by decide +kernel
theorem dX5_mark_69 : decode cX5_mark 69 = .ok (.bipush 8, 2) := by decide +kernel
theorem dX5_mark_71 : decode cX5_mark 71 = .ok (.iaload, 1) := by decide +kernel
theorem dX5_mark_72 : decode cX5_mark 72 = .ok (.ior, 1) := by decide +kernel
theorem dX5_mark_73 : decode cX5_mark 73 = .ok (.iastore, 1) := by decide +kernel
theorem dX5_mark_74 : decode cX5_mark 74 = .ok (.goto (-48), 3) := by decide +kernel
theorem dX5_mark_77 : decode cX5_mark 77 = .ok (.return_, 1) := by decide +kernel
set_option maxRecDepth 20000 in
theorem ggX5_gaps_X5_in : GoodIn wsX5_gaps wsX5_in := goodIn_r _ [5] (by decide +kernel) (by decide +kernel)
set_option maxRecDepth 20000 in
theorem gX5_gaps_X5_in : GoodIn wsX5_gaps (va_wsS RX5 56 yX5_in wsX5_in) := goodIn_app (goodIn_of _ (by decide +kernel)) ggX5_gaps_X5_in
set_option maxRecDepth 20000 in
theorem ggX5_gaps_X5_setAside : GoodIn wsX5_gaps wsX5_setAside := goodIn_r _ [9, 10, 11, 12, 13, 79, 80, 81, 82, 83, 84, 85, 86, 87, 88, 89, 90, 91, 92, 93, 94] (by decide +kernel) (by decide +kernel)
set_option maxRecDepth 20000 in
theorem gX5_gaps_X5_setAside : GoodIn wsX5_gaps (wsV RX5 180 RX5 yX5_setAside wsX5_setAside) := goodIn_app (goodIn_of _ (by decide +kernel)) ggX5_gaps_X5_setAside
set_option maxRecDepth 20000 in
theorem ggX5_gaps_X5_layWants : GoodIn wsX5_gaps wsX5_layWants := goodIn_r _ [17, 18, 19, 20, 21, 4, 22, 11, 23, 24, 25, 26, 27, 28, 29, 30, 31, 32, 33, 34, 35, 36, 37, 38, 39, 40, 41, 42, 43, 44, 45, 46, 47, 79, 80, 81, 82, 83, 84, 85, 86, 87, 88, 89, 90, 91, 92, 93, 94] (by decide +kernel) (by decide +kernel)
set_option maxRecDepth 20000 in
theorem gX5_gaps_X5_layWants : GoodIn wsX5_gaps (wsV RX5 158 RX5 yX5_layWants wsX5_layWants) := goodIn_app (goodIn_of _ (by decide +kernel)) ggX5_gaps_X5_layWants
set_option maxRecDepth 20000 in
theorem ggX5_gaps_X5_mark : GoodIn wsX5_gaps wsX5_mark := goodIn_r _ [51, 11, 1, 52, 53, 54, 4, 55, 56, 57, 58, 59, 60, 61, 62, 31, 32, 33, 63, 64, 65, 66, 18, 13, 67, 68, 69, 70, 79, 80, 81, 82, 83, 84, 85, 86, 87, 88, 89, 90, 91, 92, 93, 94] (by decide +kernel) (by decide +kernel)
set_option maxRecDepth 20000 in
theorem gX5_gaps_X5_mark : GoodIn wsX5_gaps (wsV RX5 186 RX5 yX5_mark wsX5_mark) := goodIn_app (goodIn_of _ (by decide +kernel)) ggX5_gaps_X5_mark
set_option maxRecDepth 20000 in
theorem ggX5_gaps_X5_bringBack : GoodIn wsX5_gaps wsX5_bringBack := goodIn_r _ [74, 11, 10, 13, 12, 79, 80, 81, 82, 83, 84, 85, 86, 87, 88, 89, 90, 91, 92, 93, 94] (by decide +kernel) (by decide +kernel)
set_option maxRecDepth 20000 in
theorem gX5_gaps_X5_bringBack : GoodIn wsX5_gaps (wsV RX5 183 RX5 yX5_bringBack wsX5_bringBack) := goodIn_app (goodIn_of _ (by decide +kernel)) ggX5_gaps_X5_bringBack
set_option maxRecDepth 20000 in
theorem ggX5_gaps_X5_isCovered : GoodIn wsX5_gaps wsX5_isCovered := goodIn_r _ [78, 11, 23, 24, 25, 4, 26, 27, 28, 29, 30, 31, 32, 33, 34, 35, 36, 37, 38, 39, 40, 79, 80, 81, 82, 83, 84, 85, 86, 87, 88, 89, 90, 91, 92, 93, 94] (by decide +kernel) (by decide +kernel)
set_option maxRecDepth 20000 in
theorem gX5_gaps_X5_isCovered : GoodIn wsX5_gaps (wsV RX5 189 RX5 yX5_isCovered wsX5_isCovered) := goodIn_app (goodIn_of _ (by decide +kernel)) ggX5_gaps_X5_isCovered
theorem dX5_gaps_0 : decode cX5_gaps 0 = .ok (.iload_n 1, 1) := by decide +kernel
theorem dX5_gaps_1 : decode cX5_gaps 1 = .ok (.iconst 0, 1) := by decide +kernel
theorem dX5_gaps_2 : decode cX5_gaps 2 = .ok (.sipush 200, 3) := by decide +kernel
theorem dX5_gaps_5 : decode cX5_gaps 5 = .ok (.invokestatic 56, 3) := by decide +kernel
theorem dX5_gaps_8 : decode cX5_gaps 8 = .ok (.ifCond .ne 6, 3) := by decide +kernel
theorem dX5_gaps_11 : decode cX5_gaps 11 = .ok (.bipush (-101), 2) := by decide +kernel
theorem dX5_gaps_13 : decode cX5_gaps 13 = .ok (.ireturn, 1) := by decide +kernel
theorem dX5_gaps_14 : decode cX5_gaps 14 = .ok (.aload_n 0, 1) := by decide +kernel
theorem dX5_gaps_15 : decode cX5_gaps 15 = .ok (.invokevirtual 180, 3) := by decide +kernel
theorem dX5_gaps_18 : decode cX5_gaps 18 = .ok (.aload_n 0, 1) := by decide +kernel
theorem dX5_gaps_19 : decode cX5_gaps 19 = .ok (.invokevirtual 158, 3) := by decide +kernel
theorem dX5_gaps_22 : decode cX5_gaps 22 = .ok (.iconst 0, 1) := by decide +kernel
theorem dX5_gaps_23 : decode cX5_gaps 23 = .ok (.istore_n 2, 1) := by decide +kernel
theorem dX5_gaps_24 : decode cX5_gaps 24 = .ok (.iload_n 2, 1) := by decide +kernel
theorem dX5_gaps_25 : decode cX5_gaps 25 = .ok (.sipush 720, 3) := by decide +kernel
theorem dX5_gaps_28 : decode cX5_gaps 28 = .ok (.if_icmp .ge 16, 3) := by decide +kernel
theorem dX5_gaps_31 : decode cX5_gaps 31 = .ok (.aload_n 0, 1) := by decide +kernel
theorem dX5_gaps_32 : decode cX5_gaps 32 = .ok (.getfield 37, 3) := by decide +kernel
theorem dX5_gaps_35 : decode cX5_gaps 35 = .ok (.iload_n 2, 1) := by decide +kernel
theorem dX5_gaps_36 : decode cX5_gaps 36 = .ok (.iconst 0, 1) := by decide +kernel
theorem dX5_gaps_37 : decode cX5_gaps 37 = .ok (.iastore, 1) := by decide +kernel
theorem dX5_gaps_38 : decode cX5_gaps 38 = .ok (.iinc 2 1, 3) := by decide +kernel
theorem dX5_gaps_41 : decode cX5_gaps 41 = .ok (.goto (-17), 3) := by decide +kernel
theorem dX5_gaps_44 : decode cX5_gaps 44 = .ok (.iconst 0, 1) := by decide +kernel
theorem dX5_gaps_45 : decode cX5_gaps 45 = .ok (.istore_n 2, 1) := by decide +kernel
theorem dX5_gaps_46 : decode cX5_gaps 46 = .ok (.iload_n 2, 1) := by decide +kernel
theorem dX5_gaps_47 : decode cX5_gaps 47 = .ok (.iload_n 1, 1) := by decide +kernel
theorem dX5_gaps_48 : decode cX5_gaps 48 = .ok (.if_icmp .ge 13, 3) := by decide +kernel
theorem dX5_gaps_51 : decode cX5_gaps 51 = .ok (.aload_n 0, 1) := by decide +kernel
theorem dX5_gaps_52 : decode cX5_gaps 52 = .ok (.invokevirtual 186, 3) := by decide +kernel
theorem dX5_gaps_55 : decode cX5_gaps 55 = .ok (.iinc 2 1, 3) := by decide +kernel
theorem dX5_gaps_58 : decode cX5_gaps 58 = .ok (.goto (-12), 3) := by decide +kernel
theorem dX5_gaps_61 : decode cX5_gaps 61 = .ok (.aload_n 0, 1) := by decide +kernel
theorem dX5_gaps_62 : decode cX5_gaps 62 = .ok (.invokevirtual 183, 3) := by decide +kernel
theorem dX5_gaps_65 : decode cX5_gaps 65 = .ok (.iconst 0, 1) := by decide +kernel
theorem dX5_gaps_66 : decode cX5_gaps 66 = .ok (.istore_n 2, 1) := by decide +kernel
theorem dX5_gaps_67 : decode cX5_gaps 67 = .ok (.iconst 0, 1) := by decide +kernel
theorem dX5_gaps_68 : decode cX5_gaps 68 = .ok (.istore_n 3, 1) := by decide +kernel
theorem dX5_gaps_69 : decode cX5_gaps 69 = .ok (.iload_n 3, 1) := by decide +kernel
theorem dX5_gaps_70 : decode cX5_gaps 70 = .ok (.sipush 720, 3) := by decide +kernel
theorem dX5_gaps_73 : decode cX5_gaps 73 = .ok (.if_icmp .ge 34, 3) := by decide +kernel
theorem dX5_gaps_76 : decode cX5_gaps 76 = .ok (.iload_n 2, 1) := by decide +kernel
theorem dX5_gaps_77 : decode cX5_gaps 77 = .ok (.aload_n 0, 1) := by decide +kernel
theorem dX5_gaps_78 : decode cX5_gaps 78 = .ok (.getfield 37, 3) := by decide +kernel
theorem dX5_gaps_81 : decode cX5_gaps 81 = .ok (.iload_n 3, 1) := by decide +kernel
theorem dX5_gaps_82 : decode cX5_gaps 82 = .ok (.iaload, 1) := by decide +kernel
theorem dX5_gaps_83 : decode cX5_gaps 83 = .ok (.ifCond .ne 15, 3) := by decide +kernel
theorem dX5_gaps_86 : decode cX5_gaps 86 = .ok (.aload_n 0, 1) := by decide +kernel
theorem dX5_gaps_87 : decode cX5_gaps 87 = .ok (.iload_n 3, 1) := by decide +kernel
theorem dX5_gaps_88 : decode cX5_gaps 88 = .ok (.invokevirtual 189, 3) := by decide +kernel
theorem dX5_gaps_91 : decode cX5_gaps 91 = .ok (.ifCond .eq 7, 3) := by decide +kernel
theorem dX5_gaps_94 : decode cX5_gaps 94 = .ok (.iconst 1, 1) := by decide +kernel
theorem dX5_gaps_95 : decode cX5_gaps 95 = .ok (.goto 4, 3) := by decide +kernel
theorem dX5_gaps_98 : decode cX5_gaps 98 = .ok (.iconst 0, 1) := by decide +kernel
theorem dX5_gaps_99 : decode cX5_gaps 99 = .ok (.iadd, 1) := by decide +kernel
theorem dX5_gaps_100 : decode cX5_gaps 100 = .ok (.istore_n 2, 1) := by decide +kernel
theorem dX5_gaps_101 : decode cX5_gaps 101 = .ok (.iinc 3 1, 3) := by decide +kernel
theorem dX5_gaps_104 : decode cX5_gaps 104 = .ok (.goto (-35), 3) := by decide +kernel
theorem dX5_gaps_107 : decode cX5_gaps 107 = .ok (.iload_n 2, 1) := by decide +kernel
theorem dX5_gaps_108 : decode cX5_gaps 108 = .ok (.ireturn, 1) := by decide +kernel
set_option maxRecDepth 20000 in
theorem ggX5_bestSpeed_X5_in : GoodIn wsX5_bestSpeed wsX5_in := goodIn_r _ [5] (by decide +kernel) (by decide +kernel)
set_option maxRecDepth 20000 in
theorem gX5_bestSpeed_X5_in : GoodIn wsX5_bestSpeed (va_wsS RX5 56 yX5_in wsX5_in) := goodIn_app (goodIn_of _ (by decide +kernel)) ggX5_bestSpeed_X5_in
set_option maxRecDepth 20000 in
theorem ggX5_bestSpeed_X5_setAside : GoodIn wsX5_bestSpeed wsX5_setAside := goodIn_r _ [9, 10, 1, 11, 12, 86, 87, 88, 89, 90, 91, 92, 93, 94, 95, 96, 97, 98, 99, 100, 101] (by decide +kernel) (by decide +kernel)
set_option maxRecDepth 20000 in
theorem gX5_bestSpeed_X5_setAside : GoodIn wsX5_bestSpeed (wsV RX5 180 RX5 yX5_setAside wsX5_setAside) := goodIn_app (goodIn_of _ (by decide +kernel)) ggX5_bestSpeed_X5_setAside
set_option maxRecDepth 20000 in
theorem ggX5_bestSpeed_X5_layWants : GoodIn wsX5_bestSpeed wsX5_layWants := goodIn_r _ [16, 17, 18, 19, 20, 4, 21, 1, 22, 23, 24, 25, 26, 27, 28, 29, 30, 31, 32, 33, 34, 35, 36, 37, 38, 39, 40, 41, 42, 43, 44, 45, 46, 86, 87, 88, 89, 90, 91, 92, 93, 94, 95, 96, 97, 98, 99, 100, 101] (by decide +kernel) (by decide +kernel)
set_option maxRecDepth 20000 in
theorem gX5_bestSpeed_X5_layWants : GoodIn wsX5_bestSpeed (wsV RX5 158 RX5 yX5_layWants wsX5_layWants) := goodIn_app (goodIn_of _ (by decide +kernel)) ggX5_bestSpeed_X5_layWants
set_option maxRecDepth 20000 in
theorem ggX5_bestSpeed_X5_goOn : GoodIn wsX5_bestSpeed wsX5_goOn := goodIn_r _ [50, 51, 52, 53, 4, 54, 1, 55, 56, 57, 58, 59, 60, 61, 30, 31, 32, 62, 63, 64, 65, 17, 12, 66, 67, 68, 69, 86, 87, 88, 89, 90, 91, 92, 93, 94, 95, 96, 97, 98, 99, 100, 101] (by decide +kernel) (by decide +kernel)
set_option maxRecDepth 20000 in
theorem gX5_bestSpeed_X5_goOn : GoodIn wsX5_bestSpeed (wsV RX5 161 RX5 yX5_goOn wsX5_goOn) := goodIn_app (goodIn_of _ (by decide +kernel)) ggX5_bestSpeed_X5_goOn
set_option maxRecDepth 20000 in
theorem ggX5_bestSpeed_X5_litPlaces : GoodIn wsX5_bestSpeed wsX5_litPlaces := goodIn_r _ [73, 17, 74, 75, 76, 4, 77, 12, 1, 78, 79, 80, 81, 86, 87, 88, 89, 90, 91, 92, 93, 94, 95, 96, 97, 98, 99, 100, 101] (by decide +kernel) (by decide +kernel)
set_option maxRecDepth 20000 in
theorem gX5_bestSpeed_X5_litPlaces : GoodIn wsX5_bestSpeed (wsV RX5 170 RX5 yX5_litPlaces wsX5_litPlaces) := goodIn_app (goodIn_of _ (by decide +kernel)) ggX5_bestSpeed_X5_litPlaces
set_option maxRecDepth 20000 in
theorem ggX5_bestSpeed_X5_bringBack : GoodIn wsX5_bestSpeed wsX5_bringBack := goodIn_r _ [85, 1, 10, 12, 11, 86, 87, 88, 89, 90, 91, 92, 93, 94, 95, 96, 97, 98, 99, 100, 101] (by decide +kernel) (by decide +kernel)
set_option maxRecDepth 20000 in
theorem gX5_bestSpeed_X5_bringBack : GoodIn wsX5_bestSpeed (wsV RX5 183 RX5 yX5_bringBack wsX5_bringBack) := goodIn_app (goodIn_of _ (by decide +kernel)) ggX5_bestSpeed_X5_bringBack
theorem dX5_bestSpeed_0 : decode cX5_bestSpeed 0 = .ok (.iload_n 1, 1) := by decide +kernel
theorem dX5_bestSpeed_1 : decode cX5_bestSpeed 1 = .ok (.iconst 1, 1) := by decide +kernel
theorem dX5_bestSpeed_2 : decode cX5_bestSpeed 2 = .ok (.bipush 40, 2) := by decide +kernel
theorem dX5_bestSpeed_4 : decode cX5_bestSpeed 4 = .ok (.invokestatic 56, 3) := by decide +kernel
theorem dX5_bestSpeed_7 : decode cX5_bestSpeed 7 = .ok (.ifCond .ne 6, 3) := by decide +kernel
theorem dX5_bestSpeed_10 : decode cX5_bestSpeed 10 = .ok (.bipush (-101), 2) := by decide +kernel
theorem dX5_bestSpeed_12 : decode cX5_bestSpeed 12 = .ok (.ireturn, 1) := by decide +kernel
theorem dX5_bestSpeed_13 : decode cX5_bestSpeed 13 = .ok (.aload_n 0, 1) := by decide +kernel
theorem dX5_bestSpeed_14 : decode cX5_bestSpeed 14 = .ok (.invokevirtual 180, 3) := by decide +kernel
theorem dX5_bestSpeed_17 : decode cX5_bestSpeed 17 = .ok (.aload_n 0, 1) := by decide +kernel
theorem dX5_bestSpeed_18 : decode cX5_bestSpeed 18 = .ok (.invokevirtual 158, 3) := by decide +kernel
theorem dX5_bestSpeed_21 : decode cX5_bestSpeed 21 = .ok (.iconst 0, 1) := by decide +kernel
theorem dX5_bestSpeed_22 : decode cX5_bestSpeed 22 = .ok (.istore_n 2, 1) := by decide +kernel
theorem dX5_bestSpeed_23 : decode cX5_bestSpeed 23 = .ok (.iconst (-1), 1) := by decide +kernel
theorem dX5_bestSpeed_24 : decode cX5_bestSpeed 24 = .ok (.istore_n 3, 1) := by decide +kernel
theorem dX5_bestSpeed_25 : decode cX5_bestSpeed 25 = .ok (.bipush (-60), 2) := by decide +kernel
theorem dX5_bestSpeed_27 : decode cX5_bestSpeed 27 = .ok (.istore 4, 2) := by decide +kernel
theorem dX5_bestSpeed_29 : decode cX5_bestSpeed 29 = .ok (.iload 4, 2) := by decide +kernel
theorem dX5_bestSpeed_31 : decode cX5_bestSpeed 31 = .ok (.bipush 60, 2) := by decide +kernel
theorem dX5_bestSpeed_33 : decode cX5_bestSpeed 33 = .ok (.if_icmp .gt 59, 3) := by decide +kernel
theorem dX5_bestSpeed_36 : decode cX5_bestSpeed 36 = .ok (.aload_n 0, 1) := by decide +kernel
theorem dX5_bestSpeed_37 : decode cX5_bestSpeed 37 = .ok (.getfield 7, 3) := by decide +kernel
theorem dX5_bestSpeed_40 : decode cX5_bestSpeed 40 = .ok (.iconst 0, 1) := by decide +kernel
theorem dX5_bestSpeed_41 : decode cX5_bestSpeed 41 = .ok (.iload 4, 2) := by decide +kernel
theorem dX5_bestSpeed_43 : decode cX5_bestSpeed 43 = .ok (.iastore, 1) := by decide +kernel
theorem dX5_bestSpeed_44 : decode cX5_bestSpeed 44 = .ok (.aload_n 0, 1) := by decide +kernel
theorem dX5_bestSpeed_45 : decode cX5_bestSpeed 45 = .ok (.iload_n 1, 1) := by decide +kernel
theorem dX5_bestSpeed_46 : decode cX5_bestSpeed 46 = .ok (.invokevirtual 161, 3) := by decide +kernel
theorem dX5_bestSpeed_49 : decode cX5_bestSpeed 49 = .ok (.aload_n 0, 1) := by decide +kernel
theorem dX5_bestSpeed_50 : decode cX5_bestSpeed 50 = .ok (.iconst 1, 1) := by decide +kernel
theorem dX5_bestSpeed_51 : decode cX5_bestSpeed 51 = .ok (.invokevirtual 170, 3) := by decide +kernel
theorem dX5_bestSpeed_54 : decode cX5_bestSpeed 54 = .ok (.istore 5, 2) := by decide +kernel
theorem dX5_bestSpeed_56 : decode cX5_bestSpeed 56 = .ok (.iload 5, 2) := by decide +kernel
theorem dX5_bestSpeed_58 : decode cX5_bestSpeed 58 = .ok (.iload_n 3, 1) := by decide +kernel
theorem dX5_bestSpeed_59 : decode cX5_bestSpeed 59 = .ok (.if_icmp .le 8, 3) := by decide +kernel
theorem dX5_bestSpeed_62 : decode cX5_bestSpeed 62 = .ok (.iload 4, 2) := by decide +kernel
theorem dX5_bestSpeed_64 : decode cX5_bestSpeed 64 = .ok (.goto 4, 3) := by decide +kernel
theorem dX5_bestSpeed_67 : decode cX5_bestSpeed 67 = .ok (.iload_n 2, 1) := by decide +kernel
theorem dX5_bestSpeed_68 : decode cX5_bestSpeed 68 = .ok (.istore_n 2, 1) := by decide +kernel
theorem dX5_bestSpeed_69 : decode cX5_bestSpeed 69 = .ok (.iload 5, 2) := by decide +kernel
theorem dX5_bestSpeed_71 : decode cX5_bestSpeed 71 = .ok (.iload_n 3, 1) := by decide +kernel
theorem dX5_bestSpeed_72 : decode cX5_bestSpeed 72 = .ok (.if_icmp .le 8, 3) := by decide +kernel
theorem dX5_bestSpeed_75 : decode cX5_bestSpeed 75 = .ok (.iload 5, 2) := by decide +kernel
theorem dX5_bestSpeed_77 : decode cX5_bestSpeed 77 = .ok (.goto 4, 3) := by decide +kernel
theorem dX5_bestSpeed_80 : decode cX5_bestSpeed 80 = .ok (.iload_n 3, 1) := by decide +kernel
theorem dX5_bestSpeed_81 : decode cX5_bestSpeed 81 = .ok (.istore_n 3, 1) := by decide +kernel
theorem dX5_bestSpeed_82 : decode cX5_bestSpeed 82 = .ok (.aload_n 0, 1) := by decide +kernel
theorem dX5_bestSpeed_83 : decode cX5_bestSpeed 83 = .ok (.invokevirtual 183, 3) := by decide +kernel
theorem dX5_bestSpeed_86 : decode cX5_bestSpeed 86 = .ok (.iinc 4 10, 3) := by decide +kernel
theorem dX5_bestSpeed_89 : decode cX5_bestSpeed 89 = .ok (.goto (-60), 3) := by decide +kernel
theorem dX5_bestSpeed_92 : decode cX5_bestSpeed 92 = .ok (.iload_n 2, 1) := by decide +kernel
theorem dX5_bestSpeed_93 : decode cX5_bestSpeed 93 = .ok (.ireturn, 1) := by decide +kernel
set_option maxRecDepth 20000 in
theorem ggX5_meets_X5_columnOf : GoodIn wsX5_meets wsX5_columnOf := goodIn_r _ [5, 6, 7, 8, 4, 9, 10, 11, 12, 13, 14, 15, 16, 17, 18, 19, 20, 28, 29, 30, 31, 32, 33, 34, 35, 36, 37, 38, 39, 40, 41, 42, 43] (by decide +kernel) (by decide +kernel)
set_option maxRecDepth 20000 in
theorem gX5_meets_X5_columnOf : GoodIn wsX5_meets (wsV RX5 77 RX5 yX5_columnOf wsX5_columnOf) := goodIn_app (goodIn_of _ (by decide +kernel)) ggX5_meets_X5_columnOf
set_option maxRecDepth 20000 in
theorem ggX5_meets_X5_colorOf : GoodIn wsX5_meets wsX5_colorOf := goodIn_r _ [24, 10, 25, 26, 4, 27, 28, 29, 30, 31, 32, 33, 34, 35, 36, 37, 38, 39, 40, 41, 42, 43] (by decide +kernel) (by decide +kernel)
set_option maxRecDepth 20000 in
theorem gX5_meets_X5_colorOf : GoodIn wsX5_meets (wsV RX5 80 RX5 yX5_colorOf wsX5_colorOf) := goodIn_app (goodIn_of _ (by decide +kernel)) ggX5_meets_X5_colorOf
theorem dX5_meets_0 : decode cX5_meets 0 = .ok (.aload_n 0, 1) := by decide +kernel
theorem dX5_meets_1 : decode cX5_meets 1 = .ok (.iload_n 1, 1) := by decide +kernel
theorem dX5_meets_2 : decode cX5_meets 2 = .ok (.iload_n 3, 1) := by decide +kernel
theorem dX5_meets_3 : decode cX5_meets 3 = .ok (.invokevirtual 77, 3) := by decide +kernel
theorem dX5_meets_6 : decode cX5_meets 6 = .ok (.istore 5, 2) := by decide +kernel
theorem dX5_meets_8 : decode cX5_meets 8 = .ok (.aload_n 0, 1) := by decide +kernel
theorem dX5_meets_9 : decode cX5_meets 9 = .ok (.iload_n 2, 1) := by decide +kernel
theorem dX5_meets_10 : decode cX5_meets 10 = .ok (.iload_n 3, 1) := by decide +kernel
theorem dX5_meets_11 : decode cX5_meets 11 = .ok (.invokevirtual 77, 3) := by decide +kernel
theorem dX5_meets_14 : decode cX5_meets 14 = .ok (.istore 6, 2) := by decide +kernel
theorem dX5_meets_16 : decode cX5_meets 16 = .ok (.iload 5, 2) := by decide +kernel
theorem dX5_meets_18 : decode cX5_meets 18 = .ok (.bipush (-109), 2) := by decide +kernel
theorem dX5_meets_20 : decode cX5_meets 20 = .ok (.if_icmp .eq 38, 3) := by decide +kernel
theorem dX5_meets_23 : decode cX5_meets 23 = .ok (.iload 6, 2) := by decide +kernel
theorem dX5_meets_25 : decode cX5_meets 25 = .ok (.bipush (-109), 2) := by decide +kernel
theorem dX5_meets_27 : decode cX5_meets 27 = .ok (.if_icmp .eq 31, 3) := by decide +kernel
theorem dX5_meets_30 : decode cX5_meets 30 = .ok (.aload_n 0, 1) := by decide +kernel
theorem dX5_meets_31 : decode cX5_meets 31 = .ok (.iload_n 1, 1) := by decide +kernel
theorem dX5_meets_32 : decode cX5_meets 32 = .ok (.iload 5, 2) := by decide +kernel
theorem dX5_meets_34 : decode cX5_meets 34 = .ok (.iload 4, 2) := by decide +kernel
theorem dX5_meets_36 : decode cX5_meets 36 = .ok (.invokevirtual 80, 3) := by decide +kernel
theorem dX5_meets_39 : decode cX5_meets 39 = .ok (.ifCond .eq 19, 3) := by decide +kernel
theorem dX5_meets_42 : decode cX5_meets 42 = .ok (.aload_n 0, 1) := by decide +kernel
theorem dX5_meets_43 : decode cX5_meets 43 = .ok (.iload_n 2, 1) := by decide +kernel
theorem dX5_meets_44 : decode cX5_meets 44 = .ok (.iload 6, 2) := by decide +kernel
theorem dX5_meets_46 : decode cX5_meets 46 = .ok (.iload 4, 2) := by decide +kernel
theorem dX5_meets_48 : decode cX5_meets 48 = .ok (.invokevirtual 80, 3) := by decide +kernel
theorem dX5_meets_51 : decode cX5_meets 51 = .ok (.ifCond .eq 7, 3) := by decide +kernel
theorem dX5_meets_54 : decode cX5_meets 54 = .ok (.iconst 1, 1) := by decide +kernel
theorem dX5_meets_55 : decode cX5_meets 55 = .ok (.goto 4, 3) := by decide +kernel
theorem dX5_meets_58 : decode cX5_meets 58 = .ok (.iconst 0, 1) := by decide +kernel
theorem dX5_meets_59 : decode cX5_meets 59 = .ok (.ireturn, 1) := by decide +kernel
set_option maxRecDepth 20000 in
theorem ggX5_meetings_X5_isPicture : GoodIn wsX5_meetings wsX5_isPicture := goodIn_r _ [5, 6, 7, 8, 4, 9, 39, 40, 41, 42, 43, 44, 45, 46, 47, 48, 49, 50, 51, 52, 53, 54] (by decide +kernel) (by decide +kernel)
set_option maxRecDepth 20000 in
theorem gX5_meetings_X5_isPicture : GoodIn wsX5_meetings (wsV RX5 86 RX5 yX5_isPicture wsX5_isPicture) := goodIn_app (goodIn_of _ (by decide +kernel)) ggX5_meetings_X5_isPicture
set_option maxRecDepth 20000 in
theorem ggX5_meetings_X5_of : GoodIn wsX5_meetings wsX5_of := goodIn_r _ [13, 6, 39, 40, 41, 42, 43, 44, 45, 46, 47, 48, 49, 50, 51, 52, 53, 54] (by decide +kernel) (by decide +kernel)
set_option maxRecDepth 20000 in
theorem gX5_meetings_X5_of : GoodIn wsX5_meetings (wsV RX5 64 RX5 yX5_of wsX5_of) := goodIn_app (goodIn_of _ (by decide +kernel)) ggX5_meetings_X5_of
set_option maxRecDepth 20000 in
theorem ggX5_meetings_X5_meets : GoodIn wsX5_meetings wsX5_meets := goodIn_r _ [17, 18, 19, 20, 4, 21, 10, 11, 12, 13, 6, 22, 23, 24, 25, 26, 27, 28, 29, 30, 31, 32, 33, 34, 35, 36, 37, 38, 39, 40, 41, 42, 43, 44, 45, 46, 47, 48, 49, 50, 51, 52, 53, 54] (by decide +kernel) (by decide +kernel)
set_option maxRecDepth 20000 in
theorem gX5_meetings_X5_meets : GoodIn wsX5_meetings (wsV RX5 192 RX5 yX5_meets wsX5_meets) := goodIn_app (goodIn_of _ (by decide +kernel)) ggX5_meetings_X5_meets
theorem dX5_meetings_0 : decode cX5_meetings 0 = .ok (.aload_n 0, 1) := by decide +kernel
theorem dX5_meetings_1 : decode cX5_meetings 1 = .ok (.iload_n 1, 1) := by decide +kernel
theorem dX5_meetings_2 : decode cX5_meetings 2 = .ok (.invokevirtual 86, 3) := by decide +kernel
theorem dX5_meetings_5 : decode cX5_meetings 5 = .ok (.ifCond .eq 16, 3) := by decide +kernel
theorem dX5_meetings_8 : decode cX5_meetings 8 = .ok (.aload_n 0, 1) := by decide +kernel
theorem dX5_meetings_9 : decode cX5_meetings 9 = .ok (.iload_n 2, 1) := by decide +kernel
theorem dX5_meetings_10 : decode cX5_meetings 10 = .ok (.invokevirtual 86, 3) := by decide +kernel
theorem dX5_meetings_13 : decode cX5_meetings 13 = .ok (.ifCond .eq 8, 3) := by decide +kernel
theorem dX5_meetings_16 : decode cX5_meetings 16 = .ok (.iload_n 1, 1) := by decide +kernel
theorem dX5_meetings_17 : decode cX5_meetings 17 = .ok (.iload_n 2, 1) := by decide +kernel
theorem dX5_meetings_18 : decode cX5_meetings 18 = .ok (.if_icmp .ne 6, 3) := by decide +kernel
theorem dX5_meetings_21 : decode cX5_meetings 21 = .ok (.bipush (-101), 2) := by decide +kernel
theorem dX5_meetings_23 : decode cX5_meetings 23 = .ok (.ireturn, 1) := by decide +kernel
theorem dX5_meetings_24 : decode cX5_meetings 24 = .ok (.iconst 0, 1) := by decide +kernel
theorem dX5_meetings_25 : decode cX5_meetings 25 = .ok (.istore_n 3, 1) := by decide +kernel
theorem dX5_meetings_26 : decode cX5_meetings 26 = .ok (.aload_n 0, 1) := by decide +kernel
theorem dX5_meetings_27 : decode cX5_meetings 27 = .ok (.iload_n 1, 1) := by decide +kernel
theorem dX5_meetings_28 : decode cX5_meetings 28 = .ok (.iconst 3, 1) := by decide +kernel
theorem dX5_meetings_29 : decode cX5_meetings 29 = .ok (.invokevirtual 64, 3) := by decide +kernel
theorem dX5_meetings_32 : decode cX5_meetings 32 = .ok (.iconst 2, 1) := by decide +kernel
theorem dX5_meetings_33 : decode cX5_meetings 33 = .ok (.if_icmp .eq 17, 3) := by decide +kernel
theorem dX5_meetings_36 : decode cX5_meetings 36 = .ok (.aload_n 0, 1) := by decide +kernel
theorem dX5_meetings_37 : decode cX5_meetings 37 = .ok (.iload_n 2, 1) := by decide +kernel
theorem dX5_meetings_38 : decode cX5_meetings 38 = .ok (.iconst 3, 1) := by decide +kernel
theorem dX5_meetings_39 : decode cX5_meetings 39 = .ok (.invokevirtual 64, 3) := by decide +kernel
theorem dX5_meetings_42 : decode cX5_meetings 42 = .ok (.iconst 2, 1) := by decide +kernel
theorem dX5_meetings_43 : decode cX5_meetings 43 = .ok (.if_icmp .eq 7, 3) := by decide +kernel
theorem dX5_meetings_46 : decode cX5_meetings 46 = .ok (.iconst 1, 1) := by decide +kernel
theorem dX5_meetings_47 : decode cX5_meetings 47 = .ok (.goto 4, 3) := by decide +kernel
theorem dX5_meetings_50 : decode cX5_meetings 50 = .ok (.iconst 0, 1) := by decide +kernel
theorem dX5_meetings_51 : decode cX5_meetings 51 = .ok (.istore 4, 2) := by decide +kernel
theorem dX5_meetings_53 : decode cX5_meetings 53 = .ok (.iconst 0, 1) := by decide +kernel
theorem dX5_meetings_54 : decode cX5_meetings 54 = .ok (.istore 5, 2) := by decide +kernel
theorem dX5_meetings_56 : decode cX5_meetings 56 = .ok (.iload 5, 2) := by decide +kernel
theorem dX5_meetings_58 : decode cX5_meetings 58 = .ok (.sipush 8640, 3) := by decide +kernel
theorem dX5_meetings_61 : decode cX5_meetings 61 = .ok (.if_icmp .ge 41, 3) := by decide +kernel
theorem dX5_meetings_64 : decode cX5_meetings 64 = .ok (.iload 4, 2) := by decide +kernel
theorem dX5_meetings_66 : decode cX5_meetings 66 = .ok (.ifCond .eq 36, 3) := by decide +kernel
theorem dX5_meetings_69 : decode cX5_meetings 69 = .ok (.iload_n 3, 1) := by decide +kernel
theorem dX5_meetings_70 : decode cX5_meetings 70 = .ok (.aload_n 0, 1) := by decide +kernel
theorem dX5_meetings_71 : decode cX5_meetings 71 = .ok (.iload_n 1, 1) := by decide +kernel
theorem dX5_meetings_72 : decode cX5_meetings 72 = .ok (.iload_n 2, 1) := by decide +kernel
theorem dX5_meetings_73 : decode cX5_meetings 73 = .ok (.iload 5, 2) := by decide +kernel
theorem dX5_meetings_75 : decode cX5_meetings 75 = .ok (.bipush 12, 2) := by decide +kernel
theorem dX5_meetings_77 : decode cX5_meetings 77 = .ok (.idiv, 1) := by decide +kernel
theorem dX5_meetings_78 : decode cX5_meetings 78 = .ok (.iload 5, 2) := by decide +kernel
theorem dX5_meetings_80 : decode cX5_meetings 80 = .ok (.bipush 12, 2) := by decide +kernel
theorem dX5_meetings_82 : decode cX5_meetings 82 = .ok (.irem, 1) := by decide +kernel
theorem dX5_meetings_83 : decode cX5_meetings 83 = .ok (.invokevirtual 192, 3) := by decide +kernel
theorem dX5_meetings_86 : decode cX5_meetings 86 = .ok (.ifCond .eq 7, 3) := by decide +kernel
theorem dX5_meetings_89 : decode cX5_meetings 89 = .ok (.iconst 1, 1) := by decide +kernel
theorem dX5_meetings_90 : decode cX5_meetings 90 = .ok (.goto 4, 3) := by decide +kernel
theorem dX5_meetings_93 : decode cX5_meetings 93 = .ok (.iconst 0, 1) := by decide +kernel
theorem dX5_meetings_94 : decode cX5_meetings 94 = .ok (.iadd, 1) := by decide +kernel
theorem dX5_meetings_95 : decode cX5_meetings 95 = .ok (.istore_n 3, 1) := by decide +kernel
theorem dX5_meetings_96 : decode cX5_meetings 96 = .ok (.iinc 5 1, 3) := by decide +kernel
theorem dX5_meetings_99 : decode cX5_meetings 99 = .ok (.goto (-43), 3) := by decide +kernel
theorem dX5_meetings_102 : decode cX5_meetings 102 = .ok (.iload_n 3, 1) := by decide +kernel
theorem dX5_meetings_103 : decode cX5_meetings 103 = .ok (.ireturn, 1) := by decide +kernel
theorem dJ13_bitCount_95d88_0 : decode cJ13_bitCount_95d88 0 = .ok (.lload_n 0, 1) := by decide +kernel
theorem dJ13_bitCount_95d88_1 : decode cJ13_bitCount_95d88 1 = .ok (.lload_n 0, 1) := by decide +kernel
theorem dJ13_bitCount_95d88_2 : decode cJ13_bitCount_95d88 2 = .ok (.iconst 1, 1) := by decide +kernel
theorem dJ13_bitCount_95d88_3 : decode cJ13_bitCount_95d88 3 = .ok (.lushr, 1) := by decide +kernel
theorem dJ13_bitCount_95d88_4 : decode cJ13_bitCount_95d88 4 = .ok (.ldc2_w 314, 3) := by decide +kernel
theorem dJ13_bitCount_95d88_7 : decode cJ13_bitCount_95d88 7 = .ok (.land, 1) := by decide +kernel
theorem dJ13_bitCount_95d88_8 : decode cJ13_bitCount_95d88 8 = .ok (.lsub, 1) := by decide +kernel
theorem dJ13_bitCount_95d88_9 : decode cJ13_bitCount_95d88 9 = .ok (.lstore_n 0, 1) := by decide +kernel
theorem dJ13_bitCount_95d88_10 : decode cJ13_bitCount_95d88 10 = .ok (.lload_n 0, 1) := by decide +kernel
theorem dJ13_bitCount_95d88_11 : decode cJ13_bitCount_95d88 11 = .ok (.ldc2_w 316, 3) := by decide +kernel
theorem dJ13_bitCount_95d88_14 : decode cJ13_bitCount_95d88 14 = .ok (.land, 1) := by decide +kernel
theorem dJ13_bitCount_95d88_15 : decode cJ13_bitCount_95d88 15 = .ok (.lload_n 0, 1) := by decide +kernel
theorem dJ13_bitCount_95d88_16 : decode cJ13_bitCount_95d88 16 = .ok (.iconst 2, 1) := by decide +kernel
theorem dJ13_bitCount_95d88_17 : decode cJ13_bitCount_95d88 17 = .ok (.lushr, 1) := by decide +kernel
theorem dJ13_bitCount_95d88_18 : decode cJ13_bitCount_95d88 18 = .ok (.ldc2_w 316, 3) := by decide +kernel
theorem dJ13_bitCount_95d88_21 : decode cJ13_bitCount_95d88 21 = .ok (.land, 1) := by decide +kernel
theorem dJ13_bitCount_95d88_22 : decode cJ13_bitCount_95d88 22 = .ok (.ladd, 1) := by decide +kernel
theorem dJ13_bitCount_95d88_23 : decode cJ13_bitCount_95d88 23 = .ok (.lstore_n 0, 1) := by decide +kernel
theorem dJ13_bitCount_95d88_24 : decode cJ13_bitCount_95d88 24 = .ok (.lload_n 0, 1) := by decide +kernel
theorem dJ13_bitCount_95d88_25 : decode cJ13_bitCount_95d88 25 = .ok (.lload_n 0, 1) := by decide +kernel
theorem dJ13_bitCount_95d88_26 : decode cJ13_bitCount_95d88 26 = .ok (.iconst 4, 1) := by decide +kernel
theorem dJ13_bitCount_95d88_27 : decode cJ13_bitCount_95d88 27 = .ok (.lushr, 1) := by decide +kernel
theorem dJ13_bitCount_95d88_28 : decode cJ13_bitCount_95d88 28 = .ok (.ladd, 1) := by decide +kernel
theorem dJ13_bitCount_95d88_29 : decode cJ13_bitCount_95d88 29 = .ok (.ldc2_w 318, 3) := by decide +kernel
theorem dJ13_bitCount_95d88_32 : decode cJ13_bitCount_95d88 32 = .ok (.land, 1) := by decide +kernel
theorem dJ13_bitCount_95d88_33 : decode cJ13_bitCount_95d88 33 = .ok (.lstore_n 0, 1) := by decide +kernel
theorem dJ13_bitCount_95d88_34 : decode cJ13_bitCount_95d88 34 = .ok (.lload_n 0, 1) := by decide +kernel
theorem dJ13_bitCount_95d88_35 : decode cJ13_bitCount_95d88 35 = .ok (.lload_n 0, 1) := by decide +kernel
theorem dJ13_bitCount_95d88_36 : decode cJ13_bitCount_95d88 36 = .ok (.bipush 8, 2) := by decide +kernel
theorem dJ13_bitCount_95d88_38 : decode cJ13_bitCount_95d88 38 = .ok (.lushr, 1) := by decide +kernel
theorem dJ13_bitCount_95d88_39 : decode cJ13_bitCount_95d88 39 = .ok (.ladd, 1) := by decide +kernel
theorem dJ13_bitCount_95d88_40 : decode cJ13_bitCount_95d88 40 = .ok (.lstore_n 0, 1) := by decide +kernel
theorem dJ13_bitCount_95d88_41 : decode cJ13_bitCount_95d88 41 = .ok (.lload_n 0, 1) := by decide +kernel
theorem dJ13_bitCount_95d88_42 : decode cJ13_bitCount_95d88 42 = .ok (.lload_n 0, 1) := by decide +kernel
theorem dJ13_bitCount_95d88_43 : decode cJ13_bitCount_95d88 43 = .ok (.bipush 16, 2) := by decide +kernel
theorem dJ13_bitCount_95d88_45 : decode cJ13_bitCount_95d88 45 = .ok (.lushr, 1) := by decide +kernel
theorem dJ13_bitCount_95d88_46 : decode cJ13_bitCount_95d88 46 = .ok (.ladd, 1) := by decide +kernel
theorem dJ13_bitCount_95d88_47 : decode cJ13_bitCount_95d88 47 = .ok (.lstore_n 0, 1) := by decide +kernel
theorem dJ13_bitCount_95d88_48 : decode cJ13_bitCount_95d88 48 = .ok (.lload_n 0, 1) := by decide +kernel
theorem dJ13_bitCount_95d88_49 : decode cJ13_bitCount_95d88 49 = .ok (.lload_n 0, 1) := by decide +kernel
theorem dJ13_bitCount_95d88_50 : decode cJ13_bitCount_95d88 50 = .ok (.bipush 32, 2) := by decide +kernel
theorem dJ13_bitCount_95d88_52 : decode cJ13_bitCount_95d88 52 = .ok (.lushr, 1) := by decide +kernel
theorem dJ13_bitCount_95d88_53 : decode cJ13_bitCount_95d88 53 = .ok (.ladd, 1) := by decide +kernel
theorem dJ13_bitCount_95d88_54 : decode cJ13_bitCount_95d88 54 = .ok (.lstore_n 0, 1) := by decide +kernel
theorem dJ13_bitCount_95d88_55 : decode cJ13_bitCount_95d88 55 = .ok (.lload_n 0, 1) := by decide +kernel
theorem dJ13_bitCount_95d88_56 : decode cJ13_bitCount_95d88 56 = .ok (.l2i, 1) := by decide +kernel
theorem dJ13_bitCount_95d88_57 : decode cJ13_bitCount_95d88 57 = .ok (.bipush 127, 2) := by decide +kernel
theorem dJ13_bitCount_95d88_59 : decode cJ13_bitCount_95d88 59 = .ok (.iand, 1) := by decide +kernel
theorem dJ13_bitCount_95d88_60 : decode cJ13_bitCount_95d88 60 = .ok (.ireturn, 1) := by decide +kernel
theorem dJ9_floorMod_7cf53_0 : decode cJ9_floorMod_7cf53 0 = .ok (.iload_n 0, 1) := by decide +kernel
theorem dJ9_floorMod_7cf53_1 : decode cJ9_floorMod_7cf53 1 = .ok (.iload_n 1, 1) := by decide +kernel
theorem dJ9_floorMod_7cf53_2 : decode cJ9_floorMod_7cf53 2 = .ok (.irem, 1) := by decide +kernel
theorem dJ9_floorMod_7cf53_3 : decode cJ9_floorMod_7cf53 3 = .ok (.istore_n 2, 1) := by decide +kernel
theorem dJ9_floorMod_7cf53_4 : decode cJ9_floorMod_7cf53 4 = .ok (.iload_n 0, 1) := by decide +kernel
theorem dJ9_floorMod_7cf53_5 : decode cJ9_floorMod_7cf53 5 = .ok (.iload_n 1, 1) := by decide +kernel
theorem dJ9_floorMod_7cf53_6 : decode cJ9_floorMod_7cf53 6 = .ok (.ixor, 1) := by decide +kernel
theorem dJ9_floorMod_7cf53_7 : decode cJ9_floorMod_7cf53 7 = .ok (.ifCond .ge 11, 3) := by decide +kernel
theorem dJ9_floorMod_7cf53_10 : decode cJ9_floorMod_7cf53 10 = .ok (.iload_n 2, 1) := by decide +kernel
theorem dJ9_floorMod_7cf53_11 : decode cJ9_floorMod_7cf53 11 = .ok (.ifCond .eq 7, 3) := by decide +kernel
theorem dJ9_floorMod_7cf53_14 : decode cJ9_floorMod_7cf53 14 = .ok (.iload_n 2, 1) := by decide +kernel
theorem dJ9_floorMod_7cf53_15 : decode cJ9_floorMod_7cf53 15 = .ok (.iload_n 1, 1) := by decide +kernel
theorem dJ9_floorMod_7cf53_16 : decode cJ9_floorMod_7cf53 16 = .ok (.iadd, 1) := by decide +kernel
theorem dJ9_floorMod_7cf53_17 : decode cJ9_floorMod_7cf53 17 = .ok (.ireturn, 1) := by decide +kernel
theorem dJ9_floorMod_7cf53_18 : decode cJ9_floorMod_7cf53 18 = .ok (.iload_n 2, 1) := by decide +kernel
theorem dJ9_floorMod_7cf53_19 : decode cJ9_floorMod_7cf53 19 = .ok (.ireturn, 1) := by decide +kernel
theorem dJ9_abs_0f7a4_0 : decode cJ9_abs_0f7a4 0 = .ok (.iload_n 0, 1) := by decide +kernel
theorem dJ9_abs_0f7a4_1 : decode cJ9_abs_0f7a4 1 = .ok (.ifCond .ge 8, 3) := by decide +kernel
theorem dJ9_abs_0f7a4_4 : decode cJ9_abs_0f7a4 4 = .ok (.iload_n 0, 1) := by decide +kernel
theorem dJ9_abs_0f7a4_5 : decode cJ9_abs_0f7a4 5 = .ok (.ineg, 1) := by decide +kernel
theorem dJ9_abs_0f7a4_6 : decode cJ9_abs_0f7a4 6 = .ok (.goto 4, 3) := by decide +kernel
theorem dJ9_abs_0f7a4_9 : decode cJ9_abs_0f7a4 9 = .ok (.iload_n 0, 1) := by decide +kernel
theorem dJ9_abs_0f7a4_10 : decode cJ9_abs_0f7a4 10 = .ok (.ireturn, 1) := by decide +kernel
theorem dJ9_max_7cf53_0 : decode cJ9_max_7cf53 0 = .ok (.iload_n 0, 1) := by decide +kernel
theorem dJ9_max_7cf53_1 : decode cJ9_max_7cf53 1 = .ok (.iload_n 1, 1) := by decide +kernel
theorem dJ9_max_7cf53_2 : decode cJ9_max_7cf53 2 = .ok (.if_icmp .lt 7, 3) := by decide +kernel
theorem dJ9_max_7cf53_5 : decode cJ9_max_7cf53 5 = .ok (.iload_n 0, 1) := by decide +kernel
theorem dJ9_max_7cf53_6 : decode cJ9_max_7cf53 6 = .ok (.goto 4, 3) := by decide +kernel
theorem dJ9_max_7cf53_9 : decode cJ9_max_7cf53 9 = .ok (.iload_n 1, 1) := by decide +kernel
theorem dJ9_max_7cf53_10 : decode cJ9_max_7cf53 10 = .ok (.ireturn, 1) := by decide +kernel
theorem dJ9_min_7cf53_0 : decode cJ9_min_7cf53 0 = .ok (.iload_n 0, 1) := by decide +kernel
theorem dJ9_min_7cf53_1 : decode cJ9_min_7cf53 1 = .ok (.iload_n 1, 1) := by decide +kernel
theorem dJ9_min_7cf53_2 : decode cJ9_min_7cf53 2 = .ok (.if_icmp .gt 7, 3) := by decide +kernel
theorem dJ9_min_7cf53_5 : decode cJ9_min_7cf53 5 = .ok (.iload_n 0, 1) := by decide +kernel
theorem dJ9_min_7cf53_6 : decode cJ9_min_7cf53 6 = .ok (.goto 4, 3) := by decide +kernel
theorem dJ9_min_7cf53_9 : decode cJ9_min_7cf53 9 = .ok (.iload_n 1, 1) := by decide +kernel
theorem dJ9_min_7cf53_10 : decode cJ9_min_7cf53 10 = .ok (.ireturn, 1) := by decide +kernel
set_option maxRecDepth 20000 in
theorem ggL_law_X4_init : GoodIn wsL_law wsX4_init := goodIn_r _ [8, 9, 10, 11, 12, 13, 14, 15, 16, 17, 18, 19, 20, 21, 22, 23, 24, 25, 26, 27, 28, 29, 30, 31, 32, 33, 34, 35, 36, 37, 38, 39, 40, 41, 42, 43, 44, 45, 46, 47, 48, 49, 50, 51, 52, 53, 54, 55, 56, 57, 58, 59, 60, 61, 62, 63, 64, 65, 66, 67, 68, 69, 698, 699, 700, 701, 702, 703, 704, 705, 706, 707, 708, 673, 674, 675, 676, 677, 678, 679, 680, 681, 709, 710, 711, 712, 713, 714, 715, 716, 717, 718, 719, 720, 721, 722, 723, 724, 725, 726, 727, 728, 729, 730] (by decide +kernel) (by decide +kernel)
set_option maxRecDepth 20000 in
theorem gL_law_X4_init : GoodIn wsL_law (wsX4_init) := ggL_law_X4_init
set_option maxRecDepth 20000 in
theorem ggL_law_X5_init : GoodIn wsL_law wsX5_init := goodIn_r _ [72, 73, 10, 11, 44, 74, 75, 76, 77, 78, 79, 80, 81, 82, 83, 682, 683, 684, 685, 686, 687, 688, 689, 690, 691, 692, 693, 694, 695, 696, 697] (by decide +kernel) (by decide +kernel)
set_option maxRecDepth 20000 in
theorem gL_law_X5_init : GoodIn wsL_law (wsX5_init) := ggL_law_X5_init
set_option maxRecDepth 20000 in
theorem ggL_law_X4_addPicture : GoodIn wsL_law wsX4_addPicture := goodIn_r _ [87, 15, 88, 89, 90, 91, 92, 2, 93, 94, 95, 96, 97, 18, 17, 16, 98, 99, 100, 14, 101, 36, 38, 39, 40, 41, 42, 43, 45, 102, 103, 104, 105, 47, 48, 49, 106, 107, 108, 51, 109, 55, 56, 57, 58, 59, 110, 673, 674, 675, 676, 677, 678, 679, 680, 681, 698, 699, 700, 701, 702, 703, 704, 705, 706, 707, 708, 726, 727, 728, 729, 730] (by decide +kernel) (by decide +kernel)
set_option maxRecDepth 20000 in
theorem gL_law_X4_addPicture : GoodIn wsL_law (wsV RL 13 RX4 yX4_addPicture wsX4_addPicture) := goodIn_app (goodIn_of _ (by decide +kernel)) ggL_law_X4_addPicture
set_option maxRecDepth 20000 in
theorem ggL_law_X5_addPicture : GoodIn wsL_law wsX5_addPicture := goodIn_r _ [114, 74, 115, 116, 5, 117, 118, 119, 120, 121, 122, 123, 75, 124, 125, 126, 127, 78, 79, 682, 683, 684, 685, 686, 687, 688, 689, 690, 691, 692, 693, 694, 695, 696, 697] (by decide +kernel) (by decide +kernel)
set_option maxRecDepth 20000 in
theorem gL_law_X5_addPicture : GoodIn wsL_law (wsV RL 17 RX5 yX5_addPicture wsX5_addPicture) := goodIn_app (goodIn_of _ (by decide +kernel)) ggL_law_X5_addPicture
set_option maxRecDepth 20000 in
theorem ggL_law_X4_paint : GoodIn wsL_law wsX4_paint := goodIn_r _ [131, 15, 90, 132, 133, 134, 135, 14, 136, 36, 38, 92, 2, 93, 91, 94, 95, 96, 97, 18, 17, 16, 98, 99, 100, 101, 39, 40, 41, 42, 43, 45, 102, 103, 104, 105, 47, 48, 49, 106, 107, 108, 51, 109, 55, 56, 57, 58, 59, 110, 137, 138, 139, 140, 141, 142, 143, 144, 673, 674, 675, 676, 677, 678, 679, 680, 681, 726, 727, 728, 729, 730, 698, 699, 700, 701, 702, 703, 704, 705, 706, 707, 708] (by decide +kernel) (by decide +kernel)
set_option maxRecDepth 20000 in
theorem gL_law_X4_paint : GoodIn wsL_law (wsV RL 18 RX4 yX4_paint wsX4_paint) := goodIn_app (goodIn_of _ (by decide +kernel)) ggL_law_X4_paint
set_option maxRecDepth 20000 in
theorem ggL_law_X5_paint : GoodIn wsL_law wsX5_paint := goodIn_r _ [148, 149, 150, 151, 5, 152, 74, 115, 116, 117, 153, 154, 155, 156, 157, 158, 159, 118, 119, 120, 121, 122, 123, 75, 124, 125, 126, 127, 78, 79, 160, 161, 162, 163, 164, 165, 166, 167, 168, 169, 170, 682, 683, 684, 685, 686, 687, 688, 689, 690, 691, 692, 693, 694, 695, 696, 697] (by decide +kernel) (by decide +kernel)
set_option maxRecDepth 20000 in
theorem gL_law_X5_paint : GoodIn wsL_law (wsV RL 22 RX5 yX5_paint wsX5_paint) := goodIn_app (goodIn_of _ (by decide +kernel)) ggL_law_X5_paint
set_option maxRecDepth 20000 in
theorem ggL_law_X4_setPlace : GoodIn wsL_law wsX4_setPlace := goodIn_r _ [174, 15, 175, 176, 133, 134, 135, 14, 136, 36, 38, 92, 2, 93, 91, 94, 95, 96, 97, 18, 17, 16, 98, 99, 100, 101, 39, 40, 41, 42, 43, 45, 102, 103, 104, 105, 47, 48, 49, 106, 107, 108, 51, 109, 55, 56, 57, 58, 59, 110, 673, 674, 675, 676, 677, 678, 679, 680, 681, 726, 727, 728, 729, 730, 698, 699, 700, 701, 702, 703, 704, 705, 706, 707, 708] (by decide +kernel) (by decide +kernel)
set_option maxRecDepth 20000 in
theorem gL_law_X4_setPlace : GoodIn wsL_law (wsV RL 23 RX4 yX4_setPlace wsX4_setPlace) := goodIn_app (goodIn_of _ (by decide +kernel)) ggL_law_X4_setPlace
set_option maxRecDepth 20000 in
theorem ggL_law_X5_setPlace : GoodIn wsL_law wsX5_setPlace := goodIn_r _ [180, 74, 149, 150, 151, 5, 152, 115, 116, 117, 118, 119, 120, 121, 122, 123, 75, 124, 125, 126, 127, 78, 79, 153, 154, 155, 156, 682, 683, 684, 685, 686, 687, 688, 689, 690, 691, 692, 693, 694, 695, 696, 697] (by decide +kernel) (by decide +kernel)
set_option maxRecDepth 20000 in
theorem gL_law_X5_setPlace : GoodIn wsL_law (wsV RL 27 RX5 yX5_setPlace wsX5_setPlace) := goodIn_app (goodIn_of _ (by decide +kernel)) ggL_law_X5_setPlace
set_option maxRecDepth 20000 in
theorem ggL_law_X4_setKind : GoodIn wsL_law wsX4_setKind := goodIn_r _ [184, 15, 185, 133, 134, 135, 14, 136, 36, 38, 92, 2, 93, 91, 94, 95, 96, 97, 18, 17, 16, 98, 99, 100, 101, 39, 40, 41, 42, 43, 45, 102, 103, 104, 105, 47, 48, 49, 106, 107, 108, 51, 109, 55, 56, 57, 58, 59, 110, 673, 674, 675, 676, 677, 678, 679, 680, 681, 726, 727, 728, 729, 730, 698, 699, 700, 701, 702, 703, 704, 705, 706, 707, 708] (by decide +kernel) (by decide +kernel)
set_option maxRecDepth 20000 in
theorem gL_law_X4_setKind : GoodIn wsL_law (wsV RL 28 RX4 yX4_setKind wsX4_setKind) := goodIn_app (goodIn_of _ (by decide +kernel)) ggL_law_X4_setKind
set_option maxRecDepth 20000 in
theorem ggL_law_X5_setKind : GoodIn wsL_law wsX5_setKind := goodIn_r _ [189, 149, 150, 151, 5, 152, 74, 115, 116, 117, 190, 191, 192, 193, 118, 119, 120, 121, 122, 123, 75, 124, 125, 126, 127, 78, 79, 682, 683, 684, 685, 686, 687, 688, 689, 690, 691, 692, 693, 694, 695, 696, 697] (by decide +kernel) (by decide +kernel)
set_option maxRecDepth 20000 in
theorem gL_law_X5_setKind : GoodIn wsL_law (wsV RL 32 RX5 yX5_setKind wsX5_setKind) := goodIn_app (goodIn_of _ (by decide +kernel)) ggL_law_X5_setKind
set_option maxRecDepth 20000 in
theorem ggL_law_X4_append : GoodIn wsL_law wsX4_append := goodIn_r _ [197, 21, 20, 91, 92, 2, 93, 673, 674, 675, 676, 677, 678, 679, 680, 681] (by decide +kernel) (by decide +kernel)
set_option maxRecDepth 20000 in
theorem gL_law_X4_append : GoodIn wsL_law (wsV RL 33 RX4 yX4_append wsX4_append) := goodIn_app (goodIn_of _ (by decide +kernel)) ggL_law_X4_append
set_option maxRecDepth 20000 in
theorem ggL_law_X5_append : GoodIn wsL_law wsX5_append := goodIn_r _ [201, 202, 80, 115, 116, 5, 117, 682, 683, 684, 685, 686, 687, 688, 689, 690, 691, 692, 693, 694, 695, 696, 697] (by decide +kernel) (by decide +kernel)
set_option maxRecDepth 20000 in
theorem gL_law_X5_append : GoodIn wsL_law (wsV RL 36 RX5 yX5_append wsX5_append) := goodIn_app (goodIn_of _ (by decide +kernel)) ggL_law_X5_append
set_option maxRecDepth 20000 in
theorem ggL_law_X4_clearText : GoodIn wsL_law wsX4_clearText := goodIn_r _ [206, 21, 673, 674, 675, 676, 677, 678, 679, 680, 681] (by decide +kernel) (by decide +kernel)
set_option maxRecDepth 20000 in
theorem gL_law_X4_clearText : GoodIn wsL_law (wsV RL 37 RX4 yX4_clearText wsX4_clearText) := goodIn_app (goodIn_of _ (by decide +kernel)) ggL_law_X4_clearText
set_option maxRecDepth 20000 in
theorem ggL_law_X5_clearText : GoodIn wsL_law wsX5_clearText := goodIn_r _ [210, 202, 682, 683, 684, 685, 686, 687, 688, 689, 690, 691, 692, 693, 694, 695, 696, 697] (by decide +kernel) (by decide +kernel)
set_option maxRecDepth 20000 in
theorem gL_law_X5_clearText : GoodIn wsL_law (wsV RL 41 RX5 yX5_clearText wsX5_clearText) := goodIn_app (goodIn_of _ (by decide +kernel)) ggL_law_X5_clearText
set_option maxRecDepth 20000 in
theorem ggL_law_X4_load : GoodIn wsL_law wsX4_load := goodIn_r _ [214, 15, 25, 20, 21, 215, 90, 216, 132, 217, 103, 104, 105, 133, 134, 135, 14, 136, 36, 38, 92, 2, 93, 218, 219, 220, 24, 221, 222, 223, 224, 63, 225, 226, 227, 228, 229, 230, 231, 232, 233, 234, 235, 236, 237, 238, 239, 240, 241, 242, 141, 142, 143, 144, 243, 244, 245, 246, 247, 248, 249, 250, 94, 95, 96, 97, 18, 17, 16, 98, 99, 100, 101, 39, 40, 41, 42, 43, 45, 102, 47, 48, 49, 106, 107, 108, 51, 109, 55, 56, 57, 58, 59, 110, 673, 674, 675, 676, 677, 678, 679, 680, 681, 709, 710, 711, 712, 713, 714, 726, 727, 728, 729, 730, 698, 699, 700, 701, 702, 703, 704, 705, 706, 707, 708] (by decide +kernel) (by decide +kernel)
set_option maxRecDepth 20000 in
theorem gL_law_X4_load : GoodIn wsL_law (wsV RL 42 RX4 yX4_load wsX4_load) := goodIn_app (goodIn_of _ (by decide +kernel)) ggL_law_X4_load
set_option maxRecDepth 20000 in
theorem ggL_law_X5_load : GoodIn wsL_law wsX5_load := goodIn_r _ [254, 255, 202, 74, 256, 81, 149, 150, 151, 5, 152, 115, 116, 117, 257, 258, 259, 260, 261, 262, 263, 264, 265, 266, 267, 268, 269, 80, 270, 271, 272, 273, 274, 275, 276, 277, 278, 279, 280, 281, 282, 283, 284, 285, 118, 119, 120, 121, 122, 123, 75, 124, 125, 126, 127, 78, 79, 682, 683, 684, 685, 686, 687, 688, 689, 690, 691, 692, 693, 694, 695, 696, 697] (by decide +kernel) (by decide +kernel)
set_option maxRecDepth 20000 in
theorem gL_law_X5_load : GoodIn wsL_law (wsV RL 45 RX5 yX5_load wsX5_load) := goodIn_app (goodIn_of _ (by decide +kernel)) ggL_law_X5_load
set_option maxRecDepth 20000 in
theorem ggL_law_X4_setSecondArm : GoodIn wsL_law wsX4_setSecondArm := goodIn_r _ [289, 15, 290, 91, 92, 2, 93, 94, 95, 96, 97, 18, 17, 16, 98, 99, 100, 14, 101, 36, 38, 39, 40, 41, 42, 43, 45, 102, 103, 104, 105, 47, 48, 49, 106, 107, 108, 51, 109, 55, 56, 57, 58, 59, 110, 673, 674, 675, 676, 677, 678, 679, 680, 681, 698, 699, 700, 701, 702, 703, 704, 705, 706, 707, 708, 726, 727, 728, 729, 730] (by decide +kernel) (by decide +kernel)
set_option maxRecDepth 20000 in
theorem gL_law_X4_setSecondArm : GoodIn wsL_law (wsV RL 46 RX4 yX4_setSecondArm wsX4_setSecondArm) := goodIn_app (goodIn_of _ (by decide +kernel)) ggL_law_X4_setSecondArm
set_option maxRecDepth 20000 in
theorem ggL_law_X5_setSecondArm : GoodIn wsL_law wsX5_setSecondArm := goodIn_r _ [294, 115, 116, 5, 117, 190, 191, 192, 193, 74, 118, 119, 120, 121, 122, 123, 75, 124, 125, 126, 127, 78, 79, 682, 683, 684, 685, 686, 687, 688, 689, 690, 691, 692, 693, 694, 695, 696, 697] (by decide +kernel) (by decide +kernel)
set_option maxRecDepth 20000 in
theorem gL_law_X5_setSecondArm : GoodIn wsL_law (wsV RL 49 RX5 yX5_setSecondArm wsX5_setSecondArm) := goodIn_app (goodIn_of _ (by decide +kernel)) ggL_law_X5_setSecondArm
set_option maxRecDepth 20000 in
theorem ggL_law_X4_setBroken : GoodIn wsL_law wsX4_setBroken := goodIn_r _ [298, 15, 299, 144, 91, 92, 2, 93, 94, 95, 96, 97, 18, 17, 16, 98, 99, 100, 14, 101, 36, 38, 39, 40, 41, 42, 43, 45, 102, 103, 104, 105, 47, 48, 49, 106, 107, 108, 51, 109, 55, 56, 57, 58, 59, 110, 300, 301, 302, 303, 673, 674, 675, 676, 677, 678, 679, 680, 681, 698, 699, 700, 701, 702, 703, 704, 705, 706, 707, 708, 726, 727, 728, 729, 730] (by decide +kernel) (by decide +kernel)
set_option maxRecDepth 20000 in
theorem gL_law_X4_setBroken : GoodIn wsL_law (wsV RL 50 RX4 yX4_setBroken wsX4_setBroken) := goodIn_app (goodIn_of _ (by decide +kernel)) ggL_law_X4_setBroken
set_option maxRecDepth 20000 in
theorem ggL_law_X5_setBroken : GoodIn wsL_law wsX5_setBroken := goodIn_r _ [307, 74, 115, 116, 5, 117, 157, 158, 159, 118, 119, 120, 121, 122, 123, 75, 124, 125, 126, 127, 78, 79, 308, 309, 310, 311, 682, 683, 684, 685, 686, 687, 688, 689, 690, 691, 692, 693, 694, 695, 696, 697] (by decide +kernel) (by decide +kernel)
set_option maxRecDepth 20000 in
theorem gL_law_X5_setBroken : GoodIn wsL_law (wsV RL 53 RX5 yX5_setBroken wsX5_setBroken) := goodIn_app (goodIn_of _ (by decide +kernel)) ggL_law_X5_setBroken
set_option maxRecDepth 20000 in
theorem ggL_law_X4_set : GoodIn wsL_law wsX4_set := goodIn_r _ [315, 316, 317, 15, 318, 91, 92, 2, 93, 94, 95, 96, 97, 18, 17, 16, 98, 99, 100, 14, 101, 36, 38, 39, 40, 41, 42, 43, 45, 102, 103, 104, 105, 47, 48, 49, 106, 107, 108, 51, 109, 55, 56, 57, 58, 59, 110, 673, 674, 675, 676, 677, 678, 679, 680, 681, 698, 699, 700, 701, 702, 703, 704, 705, 706, 707, 708, 726, 727, 728, 729, 730] (by decide +kernel) (by decide +kernel)
set_option maxRecDepth 20000 in
theorem gL_law_X4_set : GoodIn wsL_law (wsV RL 54 RX4 yX4_set wsX4_set) := goodIn_app (goodIn_of _ (by decide +kernel)) ggL_law_X4_set
set_option maxRecDepth 20000 in
theorem ggL_law_X5_set : GoodIn wsL_law wsX5_set := goodIn_r _ [322, 323, 324, 5, 325, 115, 116, 117, 190, 191, 192, 193, 74, 118, 119, 120, 121, 122, 123, 75, 124, 125, 126, 127, 78, 79, 682, 683, 684, 685, 686, 687, 688, 689, 690, 691, 692, 693, 694, 695, 696, 697] (by decide +kernel) (by decide +kernel)
set_option maxRecDepth 20000 in
theorem gL_law_X5_set : GoodIn wsL_law (wsV RL 57 RX5 yX5_set wsX5_set) := goodIn_app (goodIn_of _ (by decide +kernel)) ggL_law_X5_set
set_option maxRecDepth 20000 in
theorem ggL_law_X4_run : GoodIn wsL_law wsX4_run := goodIn_r _ [329, 15, 330, 29, 318, 331, 91, 92, 2, 93, 94, 95, 96, 97, 18, 17, 16, 98, 99, 100, 14, 101, 36, 38, 39, 40, 41, 42, 43, 45, 102, 103, 104, 105, 47, 48, 49, 106, 107, 108, 51, 109, 55, 56, 57, 58, 59, 110, 332, 333, 334, 28, 335, 336, 337, 338, 339, 340, 67, 68, 341, 342, 343, 344, 345, 346, 347, 348, 349, 350, 351, 352, 353, 354, 355, 356, 357, 358, 359, 360, 361, 362, 363, 364, 365, 366, 367, 368, 369, 370, 371, 372, 373, 374, 375, 376, 377, 378, 379, 380, 381, 382, 383, 384, 385, 386, 387, 388, 389, 390, 391, 392, 393, 394, 69, 395, 396, 397, 398, 399, 400, 401, 402, 403, 404, 405, 406, 407, 408, 409, 410, 411, 412, 413, 414, 415, 416, 417, 418, 419, 420, 421, 422, 423, 424, 425, 426, 427, 428, 429, 430, 431, 432, 433, 434, 435, 301, 302, 303, 436, 437, 438, 439, 673, 674, 675, 676, 677, 678, 679, 680, 681, 698, 699, 700, 701, 702, 703, 704, 705, 706, 707, 708, 726, 727, 728, 729, 730, 715, 716, 717, 718, 719, 720, 721, 722, 723, 724, 725] (by decide +kernel) (by decide +kernel)
set_option maxRecDepth 20000 in
theorem gL_law_X4_run : GoodIn wsL_law (wsV RL 58 RX4 yX4_run wsX4_run) := goodIn_app (goodIn_of _ (by decide +kernel)) ggL_law_X4_run
set_option maxRecDepth 20000 in
theorem ggL_law_X5_run : GoodIn wsL_law wsX5_run := goodIn_r _ [443, 74, 115, 116, 5, 117, 118, 119, 120, 121, 122, 123, 75, 124, 125, 126, 127, 78, 79, 444, 445, 446, 447, 82, 448, 449, 450, 451, 153, 154, 155, 156, 452, 453, 454, 455, 456, 457, 458, 459, 460, 461, 462, 463, 464, 465, 160, 161, 162, 163, 164, 165, 166, 466, 467, 468, 469, 470, 471, 472, 473, 474, 475, 476, 477, 478, 479, 480, 481, 482, 483, 484, 308, 309, 310, 311, 682, 683, 684, 685, 686, 687, 688, 689, 690, 691, 692, 693, 694, 695, 696, 697] (by decide +kernel) (by decide +kernel)
set_option maxRecDepth 20000 in
theorem gL_law_X5_run : GoodIn wsL_law (wsV RL 61 RX5 yX5_run wsX5_run) := goodIn_app (goodIn_of _ (by decide +kernel)) ggL_law_X5_run
set_option maxRecDepth 20000 in
theorem ggL_law_X4_undo : GoodIn wsL_law wsX4_undo := goodIn_r _ [488, 18, 15, 16, 17, 98, 99, 100, 14, 101, 36, 38, 39, 40, 41, 42, 43, 45, 102, 103, 104, 105, 47, 48, 49, 106, 107, 108, 51, 109, 55, 56, 57, 58, 59, 110, 673, 674, 675, 676, 677, 678, 679, 680, 681, 698, 699, 700, 701, 702, 703, 704, 705, 706, 707, 708, 726, 727, 728, 729, 730] (by decide +kernel) (by decide +kernel)
set_option maxRecDepth 20000 in
theorem gL_law_X4_undo : GoodIn wsL_law (wsV RL 62 RX4 yX4_undo wsX4_undo) := goodIn_app (goodIn_of _ (by decide +kernel)) ggL_law_X4_undo
set_option maxRecDepth 20000 in
theorem ggL_law_X5_undo : GoodIn wsL_law wsX5_undo := goodIn_r _ [492, 122, 123, 74, 75, 493, 494, 495, 496, 5, 497, 78, 79, 682, 683, 684, 685, 686, 687, 688, 689, 690, 691, 692, 693, 694, 695, 696, 697] (by decide +kernel) (by decide +kernel)
set_option maxRecDepth 20000 in
theorem gL_law_X5_undo : GoodIn wsL_law (wsV RL 65 RX5 yX5_undo wsX5_undo) := goodIn_app (goodIn_of _ (by decide +kernel)) ggL_law_X5_undo
set_option maxRecDepth 20000 in
theorem ggL_law_X4_count : GoodIn wsL_law wsX4_count := goodIn_r _ [501, 15, 88, 502, 503, 330, 331, 290, 18, 21, 504, 505, 506, 2, 507, 508, 509, 510, 14, 511, 41, 45, 434, 405, 364, 406, 49, 48, 432, 512, 370, 371, 372, 513, 374, 375, 376, 377, 378, 379, 514, 515, 516, 517, 518, 343, 344, 345, 36, 38, 346, 347, 348, 51, 349, 58, 59, 350, 351, 352, 353, 56, 354, 355, 356, 357, 358, 359, 360, 361, 55, 57, 362, 363, 365, 366, 367, 368, 369, 673, 674, 675, 676, 677, 678, 679, 680, 681, 698, 699, 700, 701, 702, 703, 704, 705, 706, 707, 708, 726, 727, 728, 729, 730] (by decide +kernel) (by decide +kernel)
set_option maxRecDepth 20000 in
theorem gL_law_X4_count : GoodIn wsL_law (wsV RL 66 RX4 yX4_count wsX4_count) := goodIn_app (goodIn_of _ (by decide +kernel)) ggL_law_X4_count
set_option maxRecDepth 20000 in
theorem ggL_law_X5_count : GoodIn wsL_law wsX5_count := goodIn_r _ [522, 74, 122, 202, 523, 524, 525, 5, 526, 82, 527, 528, 529, 530, 75, 531, 532, 533, 534, 535, 536, 537, 538, 444, 445, 446, 447, 448, 449, 450, 451, 153, 154, 155, 156, 452, 453, 454, 455, 456, 457, 458, 459, 460, 461, 462, 463, 464, 465, 160, 161, 162, 163, 164, 165, 166, 682, 683, 684, 685, 686, 687, 688, 689, 690, 691, 692, 693, 694, 695, 696, 697] (by decide +kernel) (by decide +kernel)
set_option maxRecDepth 20000 in
theorem gL_law_X5_count : GoodIn wsL_law (wsV RL 69 RX5 yX5_count wsX5_count) := goodIn_app (goodIn_of _ (by decide +kernel)) ggL_law_X5_count
set_option maxRecDepth 20000 in
theorem ggL_law_X4_setting : GoodIn wsL_law wsX4_setting := goodIn_r _ [542, 15, 318, 91, 92, 2, 93, 673, 674, 675, 676, 677, 678, 679, 680, 681, 698, 699, 700, 701, 702, 703, 704, 705, 706, 707, 708] (by decide +kernel) (by decide +kernel)
set_option maxRecDepth 20000 in
theorem gL_law_X4_setting : GoodIn wsL_law (wsV RL 70 RX4 yX4_setting wsX4_setting) := goodIn_app (goodIn_of _ (by decide +kernel)) ggL_law_X4_setting
set_option maxRecDepth 20000 in
theorem ggL_law_X5_setting : GoodIn wsL_law wsX5_setting := goodIn_r _ [546, 74, 115, 116, 5, 117, 682, 683, 684, 685, 686, 687, 688, 689, 690, 691, 692, 693, 694, 695, 696, 697] (by decide +kernel) (by decide +kernel)
set_option maxRecDepth 20000 in
theorem gL_law_X5_setting : GoodIn wsL_law (wsV RL 73 RX5 yX5_setting wsX5_setting) := goodIn_app (goodIn_of _ (by decide +kernel)) ggL_law_X5_setting
set_option maxRecDepth 20000 in
theorem ggL_law_X4_picture : GoodIn wsL_law wsX4_picture := goodIn_r _ [550, 15, 90, 175, 176, 185, 133, 134, 135, 14, 136, 36, 38, 92, 2, 93, 551, 552, 553, 51, 554, 55, 59, 370, 371, 372, 555, 374, 375, 376, 377, 378, 379, 556, 359, 360, 361, 57, 362, 363, 364, 365, 673, 674, 675, 676, 677, 678, 679, 680, 681, 726, 727, 728, 729, 730, 698, 699, 700, 701, 702, 703, 704, 705, 706, 707, 708] (by decide +kernel) (by decide +kernel)
set_option maxRecDepth 20000 in
theorem gL_law_X4_picture : GoodIn wsL_law (wsV RL 74 RX4 yX4_picture wsX4_picture) := goodIn_app (goodIn_of _ (by decide +kernel)) ggL_law_X4_picture
set_option maxRecDepth 20000 in
theorem ggL_law_X5_picture : GoodIn wsL_law wsX5_picture := goodIn_r _ [560, 149, 150, 151, 5, 152, 74, 115, 116, 117, 153, 154, 155, 156, 561, 562, 563, 564, 160, 161, 162, 163, 164, 165, 166, 459, 460, 461, 462, 463, 464, 465, 682, 683, 684, 685, 686, 687, 688, 689, 690, 691, 692, 693, 694, 695, 696, 697] (by decide +kernel) (by decide +kernel)
set_option maxRecDepth 20000 in
theorem gL_law_X5_picture : GoodIn wsL_law (wsV RL 77 RX5 yX5_picture wsX5_picture) := goodIn_app (goodIn_of _ (by decide +kernel)) ggL_law_X5_picture
set_option maxRecDepth 20000 in
theorem ggL_law_X4_color : GoodIn wsL_law wsX4_color := goodIn_r _ [568, 15, 90, 132, 133, 134, 135, 14, 136, 36, 38, 92, 2, 93, 91, 137, 138, 139, 673, 674, 675, 676, 677, 678, 679, 680, 681, 726, 727, 728, 729, 730, 698, 699, 700, 701, 702, 703, 704, 705, 706, 707, 708] (by decide +kernel) (by decide +kernel)
set_option maxRecDepth 20000 in
theorem gL_law_X4_color : GoodIn wsL_law (wsV RL 78 RX4 yX4_color wsX4_color) := goodIn_app (goodIn_of _ (by decide +kernel)) ggL_law_X4_color
set_option maxRecDepth 20000 in
theorem ggL_law_X5_color : GoodIn wsL_law wsX5_color := goodIn_r _ [572, 149, 150, 151, 5, 152, 74, 115, 116, 117, 157, 158, 159, 153, 154, 155, 156, 160, 161, 162, 163, 164, 165, 166, 682, 683, 684, 685, 686, 687, 688, 689, 690, 691, 692, 693, 694, 695, 696, 697] (by decide +kernel) (by decide +kernel)
set_option maxRecDepth 20000 in
theorem gL_law_X5_color : GoodIn wsL_law (wsV RL 81 RX5 yX5_color wsX5_color) := goodIn_app (goodIn_of _ (by decide +kernel)) ggL_law_X5_color
set_option maxRecDepth 20000 in
theorem ggL_law_X4_broken : GoodIn wsL_law wsX4_broken := goodIn_r _ [576, 15, 91, 92, 2, 93, 300, 301, 302, 14, 303, 47, 673, 674, 675, 676, 677, 678, 679, 680, 681, 698, 699, 700, 701, 702, 703, 704, 705, 706, 707, 708] (by decide +kernel) (by decide +kernel)
set_option maxRecDepth 20000 in
theorem gL_law_X4_broken : GoodIn wsL_law (wsV RL 82 RX4 yX4_broken wsX4_broken) := goodIn_app (goodIn_of _ (by decide +kernel)) ggL_law_X4_broken
set_option maxRecDepth 20000 in
theorem ggL_law_X5_broken : GoodIn wsL_law wsX5_broken := goodIn_r _ [580, 115, 116, 5, 117, 157, 158, 159, 308, 309, 310, 311, 74, 682, 683, 684, 685, 686, 687, 688, 689, 690, 691, 692, 693, 694, 695, 696, 697] (by decide +kernel) (by decide +kernel)
set_option maxRecDepth 20000 in
theorem gL_law_X5_broken : GoodIn wsL_law (wsV RL 85 RX5 yX5_broken wsX5_broken) := goodIn_app (goodIn_of _ (by decide +kernel)) ggL_law_X5_broken
set_option maxRecDepth 20000 in
theorem ggL_law_X4_place : GoodIn wsL_law wsX4_place := goodIn_r _ [584, 15, 91, 92, 2, 93, 518, 343, 344, 14, 345, 36, 38, 346, 347, 348, 51, 349, 58, 59, 350, 351, 352, 353, 56, 354, 355, 356, 357, 358, 359, 360, 361, 55, 57, 362, 363, 364, 365, 366, 367, 368, 369, 137, 138, 139, 508, 509, 510, 511, 41, 45, 434, 405, 406, 49, 48, 432, 585, 586, 587, 588, 589, 330, 673, 674, 675, 676, 677, 678, 679, 680, 681, 698, 699, 700, 701, 702, 703, 704, 705, 706, 707, 708, 726, 727, 728, 729, 730] (by decide +kernel) (by decide +kernel)
set_option maxRecDepth 20000 in
theorem gL_law_X4_place : GoodIn wsL_law (wsV RL 86 RX4 yX4_place wsX4_place) := goodIn_app (goodIn_of _ (by decide +kernel)) ggL_law_X4_place
set_option maxRecDepth 20000 in
theorem ggL_law_X5_place : GoodIn wsL_law wsX5_place := goodIn_r _ [593, 115, 116, 5, 117, 157, 158, 159, 448, 449, 450, 451, 74, 153, 154, 155, 156, 452, 453, 454, 455, 456, 457, 458, 459, 460, 461, 462, 463, 464, 465, 160, 161, 162, 163, 164, 165, 166, 527, 528, 529, 530, 75, 531, 532, 533, 534, 682, 683, 684, 685, 686, 687, 688, 689, 690, 691, 692, 693, 694, 695, 696, 697] (by decide +kernel) (by decide +kernel)
set_option maxRecDepth 20000 in
theorem gL_law_X5_place : GoodIn wsL_law (wsV RL 89 RX5 yX5_place wsX5_place) := goodIn_app (goodIn_of _ (by decide +kernel)) ggL_law_X5_place
set_option maxRecDepth 20000 in
theorem ggL_law_X4_columnAt : GoodIn wsL_law wsX4_columnAt := goodIn_r _ [597, 15, 133, 134, 135, 14, 136, 36, 38, 92, 2, 93, 91, 598, 351, 352, 51, 353, 56, 354, 355, 356, 357, 358, 359, 360, 361, 55, 57, 362, 363, 364, 365, 599, 367, 368, 369, 58, 673, 674, 675, 676, 677, 678, 679, 680, 681, 698, 699, 700, 701, 702, 703, 704, 705, 706, 707, 708, 726, 727, 728, 729, 730] (by decide +kernel) (by decide +kernel)
set_option maxRecDepth 20000 in
theorem gL_law_X4_columnAt : GoodIn wsL_law (wsV RL 90 RX4 yX4_columnAt wsX4_columnAt) := goodIn_app (goodIn_of _ (by decide +kernel)) ggL_law_X4_columnAt
set_option maxRecDepth 20000 in
theorem ggL_law_X5_columnAt : GoodIn wsL_law wsX5_columnAt := goodIn_r _ [603, 149, 150, 151, 5, 152, 74, 115, 116, 117, 452, 453, 454, 455, 153, 154, 155, 156, 456, 457, 458, 459, 460, 461, 462, 463, 464, 465, 682, 683, 684, 685, 686, 687, 688, 689, 690, 691, 692, 693, 694, 695, 696, 697] (by decide +kernel) (by decide +kernel)
set_option maxRecDepth 20000 in
theorem gL_law_X5_columnAt : GoodIn wsL_law (wsV RL 93 RX5 yX5_columnAt wsX5_columnAt) := goodIn_app (goodIn_of _ (by decide +kernel)) ggL_law_X5_columnAt
set_option maxRecDepth 20000 in
theorem ggL_law_X4_ticksAround : GoodIn wsL_law wsX4_ticksAround := goodIn_r _ [607, 29, 15, 318, 608, 609, 412, 364, 413, 332, 333, 334, 28, 335, 336, 337, 338, 339, 340, 67, 68, 341, 342, 343, 344, 14, 345, 36, 38, 346, 347, 348, 51, 349, 58, 59, 350, 351, 352, 353, 56, 354, 355, 356, 357, 358, 359, 360, 361, 55, 57, 362, 363, 365, 366, 367, 368, 369, 370, 2, 371, 372, 373, 374, 375, 376, 377, 378, 379, 380, 381, 382, 383, 384, 385, 386, 387, 388, 389, 390, 391, 392, 393, 394, 69, 395, 396, 397, 398, 399, 400, 401, 402, 403, 404, 405, 406, 407, 408, 409, 410, 411, 414, 673, 674, 675, 676, 677, 678, 679, 680, 681, 698, 699, 700, 701, 702, 703, 704, 705, 706, 707, 708, 715, 716, 717, 718, 719, 720, 721, 722, 723, 724, 725, 726, 727, 728, 729, 730] (by decide +kernel) (by decide +kernel)
set_option maxRecDepth 20000 in
theorem gL_law_X4_ticksAround : GoodIn wsL_law (wsV RL 94 RX4 yX4_ticksAround wsX4_ticksAround) := goodIn_app (goodIn_of _ (by decide +kernel)) ggL_law_X4_ticksAround
set_option maxRecDepth 20000 in
theorem ggL_law_X5_ticksAround : GoodIn wsL_law wsX5_ticksAround := goodIn_r _ [613, 74, 614, 615, 616, 5, 617, 76, 77, 75, 444, 445, 446, 447, 82, 448, 449, 450, 451, 153, 154, 155, 156, 452, 453, 454, 455, 456, 457, 458, 459, 460, 461, 462, 463, 464, 465, 160, 161, 162, 163, 164, 165, 166, 470, 471, 472, 473, 474, 475, 476, 477, 478, 479, 480, 481, 482, 483, 484, 308, 309, 310, 311, 618, 619, 620, 621, 682, 683, 684, 685, 686, 687, 688, 689, 690, 691, 692, 693, 694, 695, 696, 697] (by decide +kernel) (by decide +kernel)
set_option maxRecDepth 20000 in
theorem gL_law_X5_ticksAround : GoodIn wsL_law (wsV RL 97 RX5 yX5_ticksAround wsX5_ticksAround) := goodIn_app (goodIn_of _ (by decide +kernel)) ggL_law_X5_ticksAround
set_option maxRecDepth 20000 in
theorem ggL_law_X4_gaps : GoodIn wsL_law wsX4_gaps := goodIn_r _ [625, 29, 15, 318, 91, 92, 2, 93, 332, 333, 334, 28, 335, 336, 337, 338, 339, 340, 67, 68, 341, 342, 343, 344, 14, 345, 36, 38, 346, 347, 348, 51, 349, 58, 59, 350, 351, 352, 353, 56, 354, 355, 356, 357, 358, 359, 360, 361, 55, 57, 362, 363, 364, 365, 366, 367, 368, 369, 370, 371, 372, 373, 374, 375, 376, 377, 378, 379, 380, 381, 382, 383, 384, 385, 386, 387, 388, 389, 390, 391, 392, 393, 394, 69, 395, 396, 397, 398, 399, 400, 401, 402, 403, 404, 405, 406, 407, 408, 409, 410, 411, 412, 413, 414, 626, 425, 426, 427, 627, 437, 438, 439, 628, 629, 630, 631, 632, 633, 673, 674, 675, 676, 677, 678, 679, 680, 681, 698, 699, 700, 701, 702, 703, 704, 705, 706, 707, 708, 715, 716, 717, 718, 719, 720, 721, 722, 723, 724, 725, 726, 727, 728, 729, 730] (by decide +kernel) (by decide +kernel)
set_option maxRecDepth 20000 in
theorem gL_law_X4_gaps : GoodIn wsL_law (wsV RL 98 RX4 yX4_gaps wsX4_gaps) := goodIn_app (goodIn_of _ (by decide +kernel)) ggL_law_X4_gaps
set_option maxRecDepth 20000 in
theorem ggL_law_X5_gaps : GoodIn wsL_law wsX5_gaps := goodIn_r _ [637, 83, 115, 116, 5, 117, 614, 615, 616, 617, 76, 74, 77, 75, 444, 445, 446, 447, 82, 448, 449, 450, 451, 153, 154, 155, 156, 452, 453, 454, 455, 456, 457, 458, 459, 460, 461, 462, 463, 464, 465, 160, 161, 162, 163, 164, 165, 166, 638, 639, 640, 641, 470, 471, 472, 473, 474, 475, 476, 477, 478, 479, 480, 481, 482, 483, 484, 308, 309, 310, 311, 618, 619, 620, 621, 642, 643, 644, 645, 682, 683, 684, 685, 686, 687, 688, 689, 690, 691, 692, 693, 694, 695, 696, 697] (by decide +kernel) (by decide +kernel)
set_option maxRecDepth 20000 in
theorem gL_law_X5_gaps : GoodIn wsL_law (wsV RL 101 RX5 yX5_gaps wsX5_gaps) := goodIn_app (goodIn_of _ (by decide +kernel)) ggL_law_X5_gaps
set_option maxRecDepth 20000 in
theorem ggL_law_X4_bestSpeed : GoodIn wsL_law wsX4_bestSpeed := goodIn_r _ [649, 29, 15, 31, 372, 650, 144, 316, 317, 91, 92, 2, 93, 332, 333, 334, 28, 335, 336, 337, 338, 339, 340, 67, 68, 341, 342, 343, 344, 14, 345, 36, 38, 346, 347, 348, 51, 349, 58, 59, 350, 351, 352, 353, 56, 354, 355, 356, 357, 358, 359, 360, 361, 55, 57, 362, 363, 364, 365, 366, 367, 368, 369, 370, 371, 373, 374, 375, 376, 377, 378, 379, 380, 381, 382, 508, 509, 510, 511, 41, 45, 434, 405, 406, 49, 48, 432, 512, 383, 384, 385, 386, 387, 388, 389, 390, 391, 392, 393, 394, 69, 395, 396, 397, 398, 399, 400, 401, 402, 403, 404, 407, 408, 409, 410, 411, 412, 413, 414, 651, 652, 653, 654, 318, 655, 299, 626, 425, 426, 427, 627, 437, 438, 439, 513, 673, 674, 675, 676, 677, 678, 679, 680, 681, 715, 716, 717, 718, 719, 720, 721, 722, 723, 724, 725, 698, 699, 700, 701, 702, 703, 704, 705, 706, 707, 708, 726, 727, 728, 729, 730] (by decide +kernel) (by decide +kernel)
set_option maxRecDepth 20000 in
theorem gL_law_X4_bestSpeed : GoodIn wsL_law (wsV RL 102 RX4 yX4_bestSpeed wsX4_bestSpeed) := goodIn_app (goodIn_of _ (by decide +kernel)) ggL_law_X4_bestSpeed
set_option maxRecDepth 20000 in
theorem ggL_law_X5_bestSpeed : GoodIn wsL_law wsX5_bestSpeed := goodIn_r _ [659, 74, 115, 116, 5, 117, 614, 615, 616, 617, 76, 77, 75, 444, 445, 446, 447, 82, 448, 449, 450, 451, 153, 154, 155, 156, 452, 453, 454, 455, 456, 457, 458, 459, 460, 461, 462, 463, 464, 465, 160, 161, 162, 163, 164, 165, 166, 466, 467, 468, 469, 470, 471, 472, 473, 474, 475, 476, 477, 478, 479, 480, 481, 482, 483, 484, 308, 309, 310, 311, 523, 524, 525, 526, 527, 528, 529, 530, 531, 532, 533, 534, 618, 619, 620, 621, 682, 683, 684, 685, 686, 687, 688, 689, 690, 691, 692, 693, 694, 695, 696, 697] (by decide +kernel) (by decide +kernel)
set_option maxRecDepth 20000 in
theorem gL_law_X5_bestSpeed : GoodIn wsL_law (wsV RL 105 RX5 yX5_bestSpeed wsX5_bestSpeed) := goodIn_app (goodIn_of _ (by decide +kernel)) ggL_law_X5_bestSpeed
set_option maxRecDepth 20000 in
theorem ggL_law_X4_meetings : GoodIn wsL_law wsX4_meetings := goodIn_r _ [663, 15, 133, 134, 135, 14, 136, 36, 38, 92, 2, 93, 664, 347, 348, 51, 349, 58, 59, 350, 351, 352, 353, 56, 354, 355, 356, 357, 358, 359, 360, 361, 55, 57, 362, 363, 364, 365, 366, 367, 368, 369, 512, 370, 371, 372, 513, 374, 375, 376, 377, 378, 379, 673, 674, 675, 676, 677, 678, 679, 680, 681, 698, 699, 700, 701, 702, 703, 704, 705, 706, 707, 708, 726, 727, 728, 729, 730] (by decide +kernel) (by decide +kernel)
set_option maxRecDepth 20000 in
theorem gL_law_X4_meetings : GoodIn wsL_law (wsV RL 106 RX4 yX4_meetings wsX4_meetings) := goodIn_app (goodIn_of _ (by decide +kernel)) ggL_law_X4_meetings
set_option maxRecDepth 20000 in
theorem ggL_law_X5_meetings : GoodIn wsL_law wsX5_meetings := goodIn_r _ [668, 149, 150, 151, 5, 152, 74, 115, 116, 117, 153, 154, 155, 156, 669, 670, 671, 672, 452, 453, 454, 455, 456, 457, 458, 459, 460, 461, 462, 463, 464, 465, 160, 161, 162, 163, 164, 165, 166, 682, 683, 684, 685, 686, 687, 688, 689, 690, 691, 692, 693, 694, 695, 696, 697] (by decide +kernel) (by decide +kernel)
set_option maxRecDepth 20000 in
theorem gL_law_X5_meetings : GoodIn wsL_law (wsV RL 109 RX5 yX5_meetings wsX5_meetings) := goodIn_app (goodIn_of _ (by decide +kernel)) ggL_law_X5_meetings
theorem dL_law_0 : decode cL_law 0 = .ok (.new 7, 3) := by decide +kernel
theorem dL_law_3 : decode cL_law 3 = .ok (.dup, 1) := by decide +kernel
theorem dL_law_4 : decode cL_law 4 = .ok (.invokespecial 9, 3) := by decide +kernel
theorem dL_law_7 : decode cL_law 7 = .ok (.astore_n 1, 1) := by decide +kernel
theorem dL_law_8 : decode cL_law 8 = .ok (.new 10, 3) := by decide +kernel
theorem dL_law_11 : decode cL_law 11 = .ok (.dup, 1) := by decide +kernel
theorem dL_law_12 : decode cL_law 12 = .ok (.invokespecial 12, 3) := by decide +kernel
theorem dL_law_15 : decode cL_law 15 = .ok (.astore_n 2, 1) := by decide +kernel
theorem dL_law_16 : decode cL_law 16 = .ok (.iconst 0, 1) := by decide +kernel
theorem dL_law_17 : decode cL_law 17 = .ok (.istore_n 3, 1) := by decide +kernel
theorem dL_law_18 : decode cL_law 18 = .ok (.iload_n 3, 1) := by decide +kernel
theorem dL_law_19 : decode cL_law 19 = .ok (.aload_n 0, 1) := by decide +kernel
theorem dL_law_20 : decode cL_law 20 = .ok (.arraylength, 1) := by decide +kernel
theorem dL_law_21 : decode cL_law 21 = .ok (.iconst 5, 1) := by decide +kernel
theorem dL_law_22 : decode cL_law 22 = .ok (.isub, 1) := by decide +kernel
theorem dL_law_23 : decode cL_law 23 = .ok (.if_icmp .gt 792, 3) := by decide +kernel
theorem dL_law_26 : decode cL_law 26 = .ok (.aload_n 0, 1) := by decide +kernel
theorem dL_law_27 : decode cL_law 27 = .ok (.iload_n 3, 1) := by decide +kernel
theorem dL_law_28 : decode cL_law 28 = .ok (.iaload, 1) := by decide +kernel
theorem dL_law_29 : decode cL_law 29 = .ok (.bipush 31, 2) := by decide +kernel
theorem dL_law_31 : decode cL_law 31 = .ok (.iand, 1) := by decide +kernel
theorem dL_law_32 : decode cL_law 32 = .ok (.tableswitch 777 0 22 #[108, 131, 184, 227, 260, 283, 296, 319, 342, 385, 418, 441, 454, 477, 500, 533, 576, 609, 652, 685, 698, 721, 744], 108) := by decide +kernel
theorem dL_law_140 : decode cL_law 140 = .ok (.aload_n 1, 1) := by decide +kernel
theorem dL_law_141 : decode cL_law 141 = .ok (.aload_n 0, 1) := by decide +kernel
theorem dL_law_142 : decode cL_law 142 = .ok (.iload_n 3, 1) := by decide +kernel
theorem dL_law_143 : decode cL_law 143 = .ok (.iconst 1, 1) := by decide +kernel
theorem dL_law_144 : decode cL_law 144 = .ok (.iadd, 1) := by decide +kernel
theorem dL_law_145 : decode cL_law 145 = .ok (.iaload, 1) := by decide +kernel
theorem dL_law_146 : decode cL_law 146 = .ok (.invokevirtual 13, 3) := by decide +kernel
theorem dL_law_149 : decode cL_law 149 = .ok (.aload_n 2, 1) := by decide +kernel
theorem dL_law_150 : decode cL_law 150 = .ok (.aload_n 0, 1) := by decide +kernel
theorem dL_law_151 : decode cL_law 151 = .ok (.iload_n 3, 1) := by decide +kernel
theorem dL_law_152 : decode cL_law 152 = .ok (.iconst 1, 1) := by decide +kernel
theorem dL_law_153 : decode cL_law 153 = .ok (.iadd, 1) := by decide +kernel
theorem dL_law_154 : decode cL_law 154 = .ok (.iaload, 1) := by decide +kernel
theorem dL_law_155 : decode cL_law 155 = .ok (.invokevirtual 17, 3) := by decide +kernel
theorem dL_law_158 : decode cL_law 158 = .ok (.if_icmp .eq 651, 3) := by decide +kernel
theorem dL_law_161 : decode cL_law 161 = .ok (.iconst 0, 1) := by decide +kernel
theorem dL_law_162 : decode cL_law 162 = .ok (.ireturn, 1) := by decide +kernel
theorem dL_law_163 : decode cL_law 163 = .ok (.aload_n 1, 1) := by decide +kernel
theorem dL_law_164 : decode cL_law 164 = .ok (.aload_n 0, 1) := by decide +kernel
theorem dL_law_165 : decode cL_law 165 = .ok (.iload_n 3, 1) := by decide +kernel
theorem dL_law_166 : decode cL_law 166 = .ok (.iconst 1, 1) := by decide +kernel
theorem dL_law_167 : decode cL_law 167 = .ok (.iadd, 1) := by decide +kernel
theorem dL_law_168 : decode cL_law 168 = .ok (.iaload, 1) := by decide +kernel
theorem dL_law_169 : decode cL_law 169 = .ok (.aload_n 0, 1) := by decide +kernel
theorem dL_law_170 : decode cL_law 170 = .ok (.iload_n 3, 1) := by decide +kernel
theorem dL_law_171 : decode cL_law 171 = .ok (.iconst 2, 1) := by decide +kernel
theorem dL_law_172 : decode cL_law 172 = .ok (.iadd, 1) := by decide +kernel
theorem dL_law_173 : decode cL_law 173 = .ok (.iaload, 1) := by decide +kernel
theorem dL_law_174 : decode cL_law 174 = .ok (.aload_n 0, 1) := by decide +kernel
theorem dL_law_175 : decode cL_law 175 = .ok (.iload_n 3, 1) := by decide +kernel
theorem dL_law_176 : decode cL_law 176 = .ok (.iconst 3, 1) := by decide +kernel
theorem dL_law_177 : decode cL_law 177 = .ok (.iadd, 1) := by decide +kernel
theorem dL_law_178 : decode cL_law 178 = .ok (.iaload, 1) := by decide +kernel
theorem dL_law_179 : decode cL_law 179 = .ok (.aload_n 0, 1) := by decide +kernel
theorem dL_law_180 : decode cL_law 180 = .ok (.iload_n 3, 1) := by decide +kernel
theorem dL_law_181 : decode cL_law 181 = .ok (.iconst 4, 1) := by decide +kernel
theorem dL_law_182 : decode cL_law 182 = .ok (.iadd, 1) := by decide +kernel
theorem dL_law_183 : decode cL_law 183 = .ok (.iaload, 1) := by decide +kernel
theorem dL_law_184 : decode cL_law 184 = .ok (.invokevirtual 18, 3) := by decide +kernel
theorem dL_law_187 : decode cL_law 187 = .ok (.aload_n 2, 1) := by decide +kernel
theorem dL_law_188 : decode cL_law 188 = .ok (.aload_n 0, 1) := by decide +kernel
theorem dL_law_189 : decode cL_law 189 = .ok (.iload_n 3, 1) := by decide +kernel
theorem dL_law_190 : decode cL_law 190 = .ok (.iconst 1, 1) := by decide +kernel
theorem dL_law_191 : decode cL_law 191 = .ok (.iadd, 1) := by decide +kernel
theorem dL_law_192 : decode cL_law 192 = .ok (.iaload, 1) := by decide +kernel
theorem dL_law_193 : decode cL_law 193 = .ok (.aload_n 0, 1) := by decide +kernel
theorem dL_law_194 : decode cL_law 194 = .ok (.iload_n 3, 1) := by decide +kernel
theorem dL_law_195 : decode cL_law 195 = .ok (.iconst 2, 1) := by decide +kernel
theorem dL_law_196 : decode cL_law 196 = .ok (.iadd, 1) := by decide +kernel
theorem dL_law_197 : decode cL_law 197 = .ok (.iaload, 1) := by decide +kernel
theorem dL_law_198 : decode cL_law 198 = .ok (.aload_n 0, 1) := by decide +kernel
theorem dL_law_199 : decode cL_law 199 = .ok (.iload_n 3, 1) := by decide +kernel
theorem dL_law_200 : decode cL_law 200 = .ok (.iconst 3, 1) := by decide +kernel
theorem dL_law_201 : decode cL_law 201 = .ok (.iadd, 1) := by decide +kernel
theorem dL_law_202 : decode cL_law 202 = .ok (.iaload, 1) := by decide +kernel
theorem dL_law_203 : decode cL_law 203 = .ok (.aload_n 0, 1) := by decide +kernel
theorem dL_law_204 : decode cL_law 204 = .ok (.iload_n 3, 1) := by decide +kernel
theorem dL_law_205 : decode cL_law 205 = .ok (.iconst 4, 1) := by decide +kernel
theorem dL_law_206 : decode cL_law 206 = .ok (.iadd, 1) := by decide +kernel
theorem dL_law_207 : decode cL_law 207 = .ok (.iaload, 1) := by decide +kernel
theorem dL_law_208 : decode cL_law 208 = .ok (.invokevirtual 22, 3) := by decide +kernel
theorem dL_law_211 : decode cL_law 211 = .ok (.if_icmp .eq 598, 3) := by decide +kernel
theorem dL_law_214 : decode cL_law 214 = .ok (.iconst 0, 1) := by decide +kernel
theorem dL_law_215 : decode cL_law 215 = .ok (.ireturn, 1) := by decide +kernel
theorem dL_law_216 : decode cL_law 216 = .ok (.aload_n 1, 1) := by decide +kernel
theorem dL_law_217 : decode cL_law 217 = .ok (.aload_n 0, 1) := by decide +kernel
theorem dL_law_218 : decode cL_law 218 = .ok (.iload_n 3, 1) := by decide +kernel
theorem dL_law_219 : decode cL_law 219 = .ok (.iconst 1, 1) := by decide +kernel
theorem dL_law_220 : decode cL_law 220 = .ok (.iadd, 1) := by decide +kernel
theorem dL_law_221 : decode cL_law 221 = .ok (.iaload, 1) := by decide +kernel
theorem dL_law_222 : decode cL_law 222 = .ok (.aload_n 0, 1) := by decide +kernel
theorem dL_law_223 : decode cL_law 223 = .ok (.iload_n 3, 1) := by decide +kernel
theorem dL_law_224 : decode cL_law 224 = .ok (.iconst 2, 1) := by decide +kernel
theorem dL_law_225 : decode cL_law 225 = .ok (.iadd, 1) := by decide +kernel
theorem dL_law_226 : decode cL_law 226 = .ok (.iaload, 1) := by decide +kernel
theorem dL_law_227 : decode cL_law 227 = .ok (.aload_n 0, 1) := by decide +kernel
theorem dL_law_228 : decode cL_law 228 = .ok (.iload_n 3, 1) := by decide +kernel
theorem dL_law_229 : decode cL_law 229 = .ok (.iconst 3, 1) := by decide +kernel
theorem dL_law_230 : decode cL_law 230 = .ok (.iadd, 1) := by decide +kernel
theorem dL_law_231 : decode cL_law 231 = .ok (.iaload, 1) := by decide +kernel
theorem dL_law_232 : decode cL_law 232 = .ok (.invokevirtual 23, 3) := by decide +kernel
theorem dL_law_235 : decode cL_law 235 = .ok (.aload_n 2, 1) := by decide +kernel
theorem dL_law_236 : decode cL_law 236 = .ok (.aload_n 0, 1) := by decide +kernel
theorem dL_law_237 : decode cL_law 237 = .ok (.iload_n 3, 1) := by decide +kernel
theorem dL_law_238 : decode cL_law 238 = .ok (.iconst 1, 1) := by decide +kernel
theorem dL_law_239 : decode cL_law 239 = .ok (.iadd, 1) := by decide +kernel
theorem dL_law_240 : decode cL_law 240 = .ok (.iaload, 1) := by decide +kernel
theorem dL_law_241 : decode cL_law 241 = .ok (.aload_n 0, 1) := by decide +kernel
theorem dL_law_242 : decode cL_law 242 = .ok (.iload_n 3, 1) := by decide +kernel
theorem dL_law_243 : decode cL_law 243 = .ok (.iconst 2, 1) := by decide +kernel
theorem dL_law_244 : decode cL_law 244 = .ok (.iadd, 1) := by decide +kernel
theorem dL_law_245 : decode cL_law 245 = .ok (.iaload, 1) := by decide +kernel
theorem dL_law_246 : decode cL_law 246 = .ok (.aload_n 0, 1) := by decide +kernel
theorem dL_law_247 : decode cL_law 247 = .ok (.iload_n 3, 1) := by decide +kernel
theorem dL_law_248 : decode cL_law 248 = .ok (.iconst 3, 1) := by decide +kernel
theorem dL_law_249 : decode cL_law 249 = .ok (.iadd, 1) := by decide +kernel
theorem dL_law_250 : decode cL_law 250 = .ok (.iaload, 1) := by decide +kernel
theorem dL_law_251 : decode cL_law 251 = .ok (.invokevirtual 27, 3) := by decide +kernel
theorem dL_law_254 : decode cL_law 254 = .ok (.if_icmp .eq 555, 3) := by decide +kernel
theorem dL_law_257 : decode cL_law 257 = .ok (.iconst 0, 1) := by decide +kernel
theorem dL_law_258 : decode cL_law 258 = .ok (.ireturn, 1) := by decide +kernel
theorem dL_law_259 : decode cL_law 259 = .ok (.aload_n 1, 1) := by decide +kernel
theorem dL_law_260 : decode cL_law 260 = .ok (.aload_n 0, 1) := by decide +kernel
theorem dL_law_261 : decode cL_law 261 = .ok (.iload_n 3, 1) := by decide +kernel
theorem dL_law_262 : decode cL_law 262 = .ok (.iconst 1, 1) := by decide +kernel
theorem dL_law_263 : decode cL_law 263 = .ok (.iadd, 1) := by decide +kernel
theorem dL_law_264 : decode cL_law 264 = .ok (.iaload, 1) := by decide +kernel
theorem dL_law_265 : decode cL_law 265 = .ok (.aload_n 0, 1) := by decide +kernel
theorem dL_law_266 : decode cL_law 266 = .ok (.iload_n 3, 1) := by decide +kernel
theorem dL_law_267 : decode cL_law 267 = .ok (.iconst 2, 1) := by decide +kernel
theorem dL_law_268 : decode cL_law 268 = .ok (.iadd, 1) := by decide +kernel
theorem dL_law_269 : decode cL_law 269 = .ok (.iaload, 1) := by decide +kernel
theorem dL_law_270 : decode cL_law 270 = .ok (.invokevirtual 28, 3) := by decide +kernel
theorem dL_law_273 : decode cL_law 273 = .ok (.aload_n 2, 1) := by decide +kernel
theorem dL_law_274 : decode cL_law 274 = .ok (.aload_n 0, 1) := by decide +kernel
theorem dL_law_275 : decode cL_law 275 = .ok (.iload_n 3, 1) := by decide +kernel
theorem dL_law_276 : decode cL_law 276 = .ok (.iconst 1, 1) := by decide +kernel
theorem dL_law_277 : decode cL_law 277 = .ok (.iadd, 1) := by decide +kernel
theorem dL_law_278 : decode cL_law 278 = .ok (.iaload, 1) := by decide +kernel
theorem dL_law_279 : decode cL_law 279 = .ok (.aload_n 0, 1) := by decide +kernel
theorem dL_law_280 : decode cL_law 280 = .ok (.iload_n 3, 1) := by decide +kernel
theorem dL_law_281 : decode cL_law 281 = .ok (.iconst 2, 1) := by decide +kernel
theorem dL_law_282 : decode cL_law 282 = .ok (.iadd, 1) := by decide +kernel
theorem dL_law_283 : decode cL_law 283 = .ok (.iaload, 1) := by decide +kernel
theorem dL_law_284 : decode cL_law 284 = .ok (.invokevirtual 32, 3) := by decide +kernel
theorem dL_law_287 : decode cL_law 287 = .ok (.if_icmp .eq 522, 3) := by decide +kernel
theorem dL_law_290 : decode cL_law 290 = .ok (.iconst 0, 1) := by decide +kernel
theorem dL_law_291 : decode cL_law 291 = .ok (.ireturn, 1) := by decide +kernel
theorem dL_law_292 : decode cL_law 292 = .ok (.aload_n 1, 1) := by decide +kernel
theorem dL_law_293 : decode cL_law 293 = .ok (.aload_n 0, 1) := by decide +kernel
theorem dL_law_294 : decode cL_law 294 = .ok (.iload_n 3, 1) := by decide +kernel
theorem dL_law_295 : decode cL_law 295 = .ok (.iconst 1, 1) := by decide +kernel
theorem dL_law_296 : decode cL_law 296 = .ok (.iadd, 1) := by decide +kernel
theorem dL_law_297 : decode cL_law 297 = .ok (.iaload, 1) := by decide +kernel
theorem dL_law_298 : decode cL_law 298 = .ok (.invokevirtual 33, 3) := by decide +kernel
theorem dL_law_301 : decode cL_law 301 = .ok (.aload_n 2, 1) := by decide +kernel
theorem dL_law_302 : decode cL_law 302 = .ok (.aload_n 0, 1) := by decide +kernel
theorem dL_law_303 : decode cL_law 303 = .ok (.iload_n 3, 1) := by decide +kernel
theorem dL_law_304 : decode cL_law 304 = .ok (.iconst 1, 1) := by decide +kernel
theorem dL_law_305 : decode cL_law 305 = .ok (.iadd, 1) := by decide +kernel
theorem dL_law_306 : decode cL_law 306 = .ok (.iaload, 1) := by decide +kernel
theorem dL_law_307 : decode cL_law 307 = .ok (.invokevirtual 36, 3) := by decide +kernel

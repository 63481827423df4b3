theorem dX5_isSetting_65 : decode cX5_isSetting 65 = .ok (.ireturn, 1) := by decide +kernel
theorem dX5_isSetting_66 : decode cX5_isSetting 66 = .ok (.iconst 0, 1) := by decide +kernel
theorem dX5_isSetting_67 : decode cX5_isSetting 67 = .ok (.ireturn, 1) := by decide +kernel
set_option maxRecDepth 20000 in
theorem ggX5_set_X5_isSetting : GoodIn wsX5_set wsX5_isSetting := goodIn_r _ [4, 5, 6, 3, 7] (by decide +kernel) (by decide +kernel)
set_option maxRecDepth 20000 in
theorem gX5_set_X5_isSetting : GoodIn wsX5_set (va_wsS RX5 140 yX5_isSetting wsX5_isSetting) := goodIn_app (goodIn_of _ (by decide +kernel)) ggX5_set_X5_isSetting
set_option maxRecDepth 20000 in
theorem ggX5_set_X5_put : GoodIn wsX5_set wsX5_put := goodIn_r _ [11, 12, 13, 14, 15, 3, 16, 17, 18, 19, 20, 21, 22, 23, 24, 25, 26, 27, 28, 29, 30, 31, 32, 33, 34, 35, 36, 37, 38, 39, 40, 41] (by decide +kernel) (by decide +kernel)
set_option maxRecDepth 20000 in
theorem gX5_set_X5_put : GoodIn wsX5_set (wsV RX5 97 RX5 yX5_put wsX5_put) := goodIn_app (goodIn_of _ (by decide +kernel)) ggX5_set_X5_put
theorem dX5_set_0 : decode cX5_set 0 = .ok (.iload_n 1, 1) := by decide +kernel
theorem dX5_set_1 : decode cX5_set 1 = .ok (.iload_n 2, 1) := by decide +kernel
theorem dX5_set_2 : decode cX5_set 2 = .ok (.invokestatic 140, 3) := by decide +kernel
theorem dX5_set_5 : decode cX5_set 5 = .ok (.ifCond .eq 12, 3) := by decide +kernel
theorem dX5_set_8 : decode cX5_set 8 = .ok (.aload_n 0, 1) := by decide +kernel
theorem dX5_set_9 : decode cX5_set 9 = .ok (.iload_n 1, 1) := by decide +kernel
theorem dX5_set_10 : decode cX5_set 10 = .ok (.iload_n 2, 1) := by decide +kernel
theorem dX5_set_11 : decode cX5_set 11 = .ok (.invokevirtual 97, 3) := by decide +kernel
theorem dX5_set_14 : decode cX5_set 14 = .ok (.goto 5, 3) := by decide +kernel
theorem dX5_set_17 : decode cX5_set 17 = .ok (.bipush (-101), 2) := by decide +kernel
theorem dX5_set_19 : decode cX5_set 19 = .ok (.ireturn, 1) := by decide +kernel
set_option maxRecDepth 20000 in
theorem ggX5_layWants_X5_wanted : GoodIn wsX5_layWants wsX5_wanted := goodIn_r _ [6, 7, 8, 9, 10, 5, 11, 12, 13, 14, 15, 16, 17, 18, 19, 20, 21, 22, 23, 24, 25, 26, 27, 28, 29, 30, 31, 32, 33, 34, 35, 36, 37, 38, 39, 40, 41, 42, 43, 44, 45, 46, 47, 48] (by decide +kernel) (by decide +kernel)
set_option maxRecDepth 20000 in
theorem gX5_layWants_X5_wanted : GoodIn wsX5_layWants (wsV RX5 143 RX5 yX5_wanted wsX5_wanted) := goodIn_app (goodIn_of _ (by decide +kernel)) ggX5_layWants_X5_wanted
theorem dX5_layWants_0 : decode cX5_layWants 0 = .ok (.iconst 0, 1) := by decide +kernel
theorem dX5_layWants_1 : decode cX5_layWants 1 = .ok (.istore_n 1, 1) := by decide +kernel
theorem dX5_layWants_2 : decode cX5_layWants 2 = .ok (.iload_n 1, 1) := by decide +kernel
theorem dX5_layWants_3 : decode cX5_layWants 3 = .ok (.sipush 8640, 3) := by decide +kernel
theorem dX5_layWants_6 : decode cX5_layWants 6 = .ok (.if_icmp .ge 27, 3) := by decide +kernel
theorem dX5_layWants_9 : decode cX5_layWants 9 = .ok (.aload_n 0, 1) := by decide +kernel
theorem dX5_layWants_10 : decode cX5_layWants 10 = .ok (.getfield 34, 3) := by decide +kernel
theorem dX5_layWants_13 : decode cX5_layWants 13 = .ok (.iload_n 1, 1) := by decide +kernel
theorem dX5_layWants_14 : decode cX5_layWants 14 = .ok (.aload_n 0, 1) := by decide +kernel
theorem dX5_layWants_15 : decode cX5_layWants 15 = .ok (.iload_n 1, 1) := by decide +kernel
theorem dX5_layWants_16 : decode cX5_layWants 16 = .ok (.bipush 12, 2) := by decide +kernel
theorem dX5_layWants_18 : decode cX5_layWants 18 = .ok (.idiv, 1) := by decide +kernel
theorem dX5_layWants_19 : decode cX5_layWants 19 = .ok (.iload_n 1, 1) := by decide +kernel
theorem dX5_layWants_20 : decode cX5_layWants 20 = .ok (.bipush 12, 2) := by decide +kernel
theorem dX5_layWants_22 : decode cX5_layWants 22 = .ok (.irem, 1) := by decide +kernel
theorem dX5_layWants_23 : decode cX5_layWants 23 = .ok (.invokevirtual 143, 3) := by decide +kernel
theorem dX5_layWants_26 : decode cX5_layWants 26 = .ok (.iastore, 1) := by decide +kernel
theorem dX5_layWants_27 : decode cX5_layWants 27 = .ok (.iinc 1 1, 3) := by decide +kernel
theorem dX5_layWants_30 : decode cX5_layWants 30 = .ok (.goto (-28), 3) := by decide +kernel
theorem dX5_layWants_33 : decode cX5_layWants 33 = .ok (.return_, 1) := by decide +kernel
theorem dX5_newSpeed_0 : decode cX5_newSpeed 0 = .ok (.aload_n 0, 1) := by decide +kernel
theorem dX5_newSpeed_1 : decode cX5_newSpeed 1 = .ok (.getfield 7, 3) := by decide +kernel
theorem dX5_newSpeed_4 : decode cX5_newSpeed 4 = .ok (.bipush 7, 2) := by decide +kernel
theorem dX5_newSpeed_6 : decode cX5_newSpeed 6 = .ok (.iaload, 1) := by decide +kernel
theorem dX5_newSpeed_7 : decode cX5_newSpeed 7 = .ok (.aload_n 0, 1) := by decide +kernel
theorem dX5_newSpeed_8 : decode cX5_newSpeed 8 = .ok (.getfield 7, 3) := by decide +kernel
theorem dX5_newSpeed_11 : decode cX5_newSpeed 11 = .ok (.iconst 2, 1) := by decide +kernel
theorem dX5_newSpeed_12 : decode cX5_newSpeed 12 = .ok (.iaload, 1) := by decide +kernel
theorem dX5_newSpeed_13 : decode cX5_newSpeed 13 = .ok (.if_icmp .le 14, 3) := by decide +kernel
theorem dX5_newSpeed_16 : decode cX5_newSpeed 16 = .ok (.aload_n 0, 1) := by decide +kernel
theorem dX5_newSpeed_17 : decode cX5_newSpeed 17 = .ok (.getfield 7, 3) := by decide +kernel
theorem dX5_newSpeed_20 : decode cX5_newSpeed 20 = .ok (.iconst 1, 1) := by decide +kernel
theorem dX5_newSpeed_21 : decode cX5_newSpeed 21 = .ok (.iaload, 1) := by decide +kernel
theorem dX5_newSpeed_22 : decode cX5_newSpeed 22 = .ok (.iconst 2, 1) := by decide +kernel
theorem dX5_newSpeed_23 : decode cX5_newSpeed 23 = .ok (.idiv, 1) := by decide +kernel
theorem dX5_newSpeed_24 : decode cX5_newSpeed 24 = .ok (.goto 9, 3) := by decide +kernel
theorem dX5_newSpeed_27 : decode cX5_newSpeed 27 = .ok (.aload_n 0, 1) := by decide +kernel
theorem dX5_newSpeed_28 : decode cX5_newSpeed 28 = .ok (.getfield 7, 3) := by decide +kernel
theorem dX5_newSpeed_31 : decode cX5_newSpeed 31 = .ok (.iconst 1, 1) := by decide +kernel
theorem dX5_newSpeed_32 : decode cX5_newSpeed 32 = .ok (.iaload, 1) := by decide +kernel
theorem dX5_newSpeed_33 : decode cX5_newSpeed 33 = .ok (.istore_n 1, 1) := by decide +kernel
theorem dX5_newSpeed_34 : decode cX5_newSpeed 34 = .ok (.aload_n 0, 1) := by decide +kernel
theorem dX5_newSpeed_35 : decode cX5_newSpeed 35 = .ok (.getfield 7, 3) := by decide +kernel
theorem dX5_newSpeed_38 : decode cX5_newSpeed 38 = .ok (.iconst 0, 1) := by decide +kernel
theorem dX5_newSpeed_39 : decode cX5_newSpeed 39 = .ok (.iaload, 1) := by decide +kernel
theorem dX5_newSpeed_40 : decode cX5_newSpeed 40 = .ok (.aload_n 0, 1) := by decide +kernel
theorem dX5_newSpeed_41 : decode cX5_newSpeed 41 = .ok (.getfield 7, 3) := by decide +kernel
theorem dX5_newSpeed_44 : decode cX5_newSpeed 44 = .ok (.iconst 5, 1) := by decide +kernel
theorem dX5_newSpeed_45 : decode cX5_newSpeed 45 = .ok (.iaload, 1) := by decide +kernel
theorem dX5_newSpeed_46 : decode cX5_newSpeed 46 = .ok (.isub, 1) := by decide +kernel
theorem dX5_newSpeed_47 : decode cX5_newSpeed 47 = .ok (.istore_n 2, 1) := by decide +kernel
theorem dX5_newSpeed_48 : decode cX5_newSpeed 48 = .ok (.aload_n 0, 1) := by decide +kernel
theorem dX5_newSpeed_49 : decode cX5_newSpeed 49 = .ok (.getfield 7, 3) := by decide +kernel
theorem dX5_newSpeed_52 : decode cX5_newSpeed 52 = .ok (.iconst 5, 1) := by decide +kernel
theorem dX5_newSpeed_53 : decode cX5_newSpeed 53 = .ok (.dup2, 1) := by decide +kernel
theorem dX5_newSpeed_54 : decode cX5_newSpeed 54 = .ok (.iaload, 1) := by decide +kernel
theorem dX5_newSpeed_55 : decode cX5_newSpeed 55 = .ok (.iload_n 2, 1) := by decide +kernel
theorem dX5_newSpeed_56 : decode cX5_newSpeed 56 = .ok (.iload_n 1, 1) := by decide +kernel
theorem dX5_newSpeed_57 : decode cX5_newSpeed 57 = .ok (.if_icmp .le 7, 3) := by decide +kernel
theorem dX5_newSpeed_60 : decode cX5_newSpeed 60 = .ok (.iload_n 1, 1) := by decide +kernel
theorem dX5_newSpeed_61 : decode cX5_newSpeed 61 = .ok (.goto 15, 3) := by decide +kernel
theorem dX5_newSpeed_64 : decode cX5_newSpeed 64 = .ok (.iload_n 2, 1) := by decide +kernel
theorem dX5_newSpeed_65 : decode cX5_newSpeed 65 = .ok (.iload_n 1, 1) := by decide +kernel
theorem dX5_newSpeed_66 : decode cX5_newSpeed 66 = .ok (.ineg, 1) := by decide +kernel
theorem dX5_newSpeed_67 : decode cX5_newSpeed 67 = .ok (.if_icmp .ge 8, 3) := by decide +kernel
theorem dX5_newSpeed_70 : decode cX5_newSpeed 70 = .ok (.iload_n 1, 1) := by decide +kernel
theorem dX5_newSpeed_71 : decode cX5_newSpeed 71 = .ok (.ineg, 1) := by decide +kernel
theorem dX5_newSpeed_72 : decode cX5_newSpeed 72 = .ok (.goto 4, 3) := by decide +kernel
theorem dX5_newSpeed_75 : decode cX5_newSpeed 75 = .ok (.iload_n 2, 1) := by decide +kernel
theorem dX5_newSpeed_76 : decode cX5_newSpeed 76 = .ok (.iadd, 1) := by decide +kernel
theorem dX5_newSpeed_77 : decode cX5_newSpeed 77 = .ok (.iastore, 1) := by decide +kernel
theorem dX5_newSpeed_78 : decode cX5_newSpeed 78 = .ok (.return_, 1) := by decide +kernel
set_option maxRecDepth 20000 in
theorem ggX5_writes_X5_isBroken : GoodIn wsX5_writes wsX5_isBroken := goodIn_r _ [8, 3, 9, 10, 11, 12, 13, 14, 15, 16, 17, 18, 19, 20, 21, 22, 23, 24] (by decide +kernel) (by decide +kernel)
set_option maxRecDepth 20000 in
theorem gX5_writes_X5_isBroken : GoodIn wsX5_writes (wsV RX5 136 RX5 yX5_isBroken wsX5_isBroken) := goodIn_app (goodIn_of _ (by decide +kernel)) ggX5_writes_X5_isBroken
theorem dX5_writes_0 : decode cX5_writes 0 = .ok (.iconst 0, 1) := by decide +kernel
theorem dX5_writes_1 : decode cX5_writes 1 = .ok (.istore_n 3, 1) := by decide +kernel
theorem dX5_writes_2 : decode cX5_writes 2 = .ok (.iconst 0, 1) := by decide +kernel
theorem dX5_writes_3 : decode cX5_writes 3 = .ok (.istore 4, 2) := by decide +kernel
theorem dX5_writes_5 : decode cX5_writes 5 = .ok (.iload 4, 2) := by decide +kernel
theorem dX5_writes_7 : decode cX5_writes 7 = .ok (.bipush 12, 2) := by decide +kernel
theorem dX5_writes_9 : decode cX5_writes 9 = .ok (.if_icmp .ge 71, 3) := by decide +kernel
theorem dX5_writes_12 : decode cX5_writes 12 = .ok (.aload_n 0, 1) := by decide +kernel
theorem dX5_writes_13 : decode cX5_writes 13 = .ok (.iload_n 1, 1) := by decide +kernel
theorem dX5_writes_14 : decode cX5_writes 14 = .ok (.iload 4, 2) := by decide +kernel
theorem dX5_writes_16 : decode cX5_writes 16 = .ok (.invokevirtual 136, 3) := by decide +kernel
theorem dX5_writes_19 : decode cX5_writes 19 = .ok (.ifCond .ne 55, 3) := by decide +kernel
theorem dX5_writes_22 : decode cX5_writes 22 = .ok (.aload_n 0, 1) := by decide +kernel
theorem dX5_writes_23 : decode cX5_writes 23 = .ok (.getfield 34, 3) := by decide +kernel
theorem dX5_writes_26 : decode cX5_writes 26 = .ok (.bipush 12, 2) := by decide +kernel
theorem dX5_writes_28 : decode cX5_writes 28 = .ok (.iload_n 2, 1) := by decide +kernel
theorem dX5_writes_29 : decode cX5_writes 29 = .ok (.imul, 1) := by decide +kernel
theorem dX5_writes_30 : decode cX5_writes 30 = .ok (.iload 4, 2) := by decide +kernel
theorem dX5_writes_32 : decode cX5_writes 32 = .ok (.iadd, 1) := by decide +kernel
theorem dX5_writes_33 : decode cX5_writes 33 = .ok (.iaload, 1) := by decide +kernel
theorem dX5_writes_34 : decode cX5_writes 34 = .ok (.istore 5, 2) := by decide +kernel
theorem dX5_writes_36 : decode cX5_writes 36 = .ok (.aload_n 0, 1) := by decide +kernel
theorem dX5_writes_37 : decode cX5_writes 37 = .ok (.getfield 13, 3) := by decide +kernel
theorem dX5_writes_40 : decode cX5_writes 40 = .ok (.bipush 12, 2) := by decide +kernel
theorem dX5_writes_42 : decode cX5_writes 42 = .ok (.iload_n 2, 1) := by decide +kernel
theorem dX5_writes_43 : decode cX5_writes 43 = .ok (.imul, 1) := by decide +kernel
theorem dX5_writes_44 : decode cX5_writes 44 = .ok (.iload 4, 2) := by decide +kernel
theorem dX5_writes_46 : decode cX5_writes 46 = .ok (.iadd, 1) := by decide +kernel
theorem dX5_writes_47 : decode cX5_writes 47 = .ok (.bipush 8, 2) := by decide +kernel
theorem dX5_writes_49 : decode cX5_writes 49 = .ok (.aload_n 0, 1) := by decide +kernel
theorem dX5_writes_50 : decode cX5_writes 50 = .ok (.getfield 7, 3) := by decide +kernel
theorem dX5_writes_53 : decode cX5_writes 53 = .ok (.bipush 6, 2) := by decide +kernel
theorem dX5_writes_55 : decode cX5_writes 55 = .ok (.iaload, 1) := by decide +kernel
theorem dX5_writes_56 : decode cX5_writes 56 = .ok (.imul, 1) := by decide +kernel
theorem dX5_writes_57 : decode cX5_writes 57 = .ok (.iload 5, 2) := by decide +kernel
theorem dX5_writes_59 : decode cX5_writes 59 = .ok (.iadd, 1) := by decide +kernel
theorem dX5_writes_60 : decode cX5_writes 60 = .ok (.iastore, 1) := by decide +kernel
theorem dX5_writes_61 : decode cX5_writes 61 = .ok (.iload_n 3, 1) := by decide +kernel
theorem dX5_writes_62 : decode cX5_writes 62 = .ok (.iload 5, 2) := by decide +kernel
theorem dX5_writes_64 : decode cX5_writes 64 = .ok (.ifCond .ne 7, 3) := by decide +kernel
theorem dX5_writes_67 : decode cX5_writes 67 = .ok (.iconst 0, 1) := by decide +kernel
theorem dX5_writes_68 : decode cX5_writes 68 = .ok (.goto 4, 3) := by decide +kernel
theorem dX5_writes_71 : decode cX5_writes 71 = .ok (.iconst 1, 1) := by decide +kernel
theorem dX5_writes_72 : decode cX5_writes 72 = .ok (.iadd, 1) := by decide +kernel
theorem dX5_writes_73 : decode cX5_writes 73 = .ok (.istore_n 3, 1) := by decide +kernel
theorem dX5_writes_74 : decode cX5_writes 74 = .ok (.iinc 4 1, 3) := by decide +kernel
theorem dX5_writes_77 : decode cX5_writes 77 = .ok (.goto (-72), 3) := by decide +kernel
theorem dX5_writes_80 : decode cX5_writes 80 = .ok (.iload_n 3, 1) := by decide +kernel
theorem dX5_writes_81 : decode cX5_writes 81 = .ok (.ireturn, 1) := by decide +kernel
set_option maxRecDepth 20000 in
theorem ggX5_tick_X5_newSpeed : GoodIn wsX5_tick wsX5_newSpeed := goodIn_r _ [6, 1, 23, 24, 25, 26, 27, 28, 29, 30, 31, 32, 33, 34, 35, 36, 37, 38] (by decide +kernel) (by decide +kernel)
set_option maxRecDepth 20000 in
theorem gX5_tick_X5_newSpeed : GoodIn wsX5_tick (wsV RX5 146 RX5 yX5_newSpeed wsX5_newSpeed) := goodIn_app (goodIn_of _ (by decide +kernel)) ggX5_tick_X5_newSpeed
set_option maxRecDepth 20000 in
theorem ggX5_tick_X5_size : GoodIn wsX5_tick wsX5_size := goodIn_r _ [9] (by decide +kernel) (by decide +kernel)
set_option maxRecDepth 20000 in
theorem gX5_tick_X5_size : GoodIn wsX5_tick (va_wsS RX5 149 yX5_size wsX5_size) := goodIn_app (goodIn_of _ (by decide +kernel)) ggX5_tick_X5_size
set_option maxRecDepth 20000 in
theorem ggX5_tick_X5_around : GoodIn wsX5_tick wsX5_around := goodIn_r _ [12] (by decide +kernel) (by decide +kernel)
set_option maxRecDepth 20000 in
theorem gX5_tick_X5_around : GoodIn wsX5_tick (va_wsS RX5 70 yX5_around wsX5_around) := goodIn_app (goodIn_of _ (by decide +kernel)) ggX5_tick_X5_around
set_option maxRecDepth 20000 in
theorem ggX5_tick_X5_writes : GoodIn wsX5_tick wsX5_writes := goodIn_r _ [16, 17, 18, 1, 19, 20, 21, 5, 22, 23, 24, 25, 26, 27, 28, 29, 30, 31, 32, 33, 34, 35, 36, 37, 38] (by decide +kernel) (by decide +kernel)
set_option maxRecDepth 20000 in
theorem gX5_tick_X5_writes : GoodIn wsX5_tick (wsV RX5 152 RX5 yX5_writes wsX5_writes) := goodIn_app (goodIn_of _ (by decide +kernel)) ggX5_tick_X5_writes
theorem dX5_tick_0 : decode cX5_tick 0 = .ok (.aload_n 0, 1) := by decide +kernel
theorem dX5_tick_1 : decode cX5_tick 1 = .ok (.invokevirtual 146, 3) := by decide +kernel
theorem dX5_tick_4 : decode cX5_tick 4 = .ok (.aload_n 0, 1) := by decide +kernel
theorem dX5_tick_5 : decode cX5_tick 5 = .ok (.getfield 7, 3) := by decide +kernel
theorem dX5_tick_8 : decode cX5_tick 8 = .ok (.bipush 6, 2) := by decide +kernel
theorem dX5_tick_10 : decode cX5_tick 10 = .ok (.dup2, 1) := by decide +kernel
theorem dX5_tick_11 : decode cX5_tick 11 = .ok (.iaload, 1) := by decide +kernel
theorem dX5_tick_12 : decode cX5_tick 12 = .ok (.iconst 1, 1) := by decide +kernel
theorem dX5_tick_13 : decode cX5_tick 13 = .ok (.iadd, 1) := by decide +kernel
theorem dX5_tick_14 : decode cX5_tick 14 = .ok (.iastore, 1) := by decide +kernel
theorem dX5_tick_15 : decode cX5_tick 15 = .ok (.aload_n 0, 1) := by decide +kernel
theorem dX5_tick_16 : decode cX5_tick 16 = .ok (.getfield 7, 3) := by decide +kernel
theorem dX5_tick_19 : decode cX5_tick 19 = .ok (.bipush 7, 2) := by decide +kernel
theorem dX5_tick_21 : decode cX5_tick 21 = .ok (.iconst 0, 1) := by decide +kernel
theorem dX5_tick_22 : decode cX5_tick 22 = .ok (.iastore, 1) := by decide +kernel
theorem dX5_tick_23 : decode cX5_tick 23 = .ok (.aload_n 0, 1) := by decide +kernel
theorem dX5_tick_24 : decode cX5_tick 24 = .ok (.getfield 7, 3) := by decide +kernel
theorem dX5_tick_27 : decode cX5_tick 27 = .ok (.iconst 5, 1) := by decide +kernel
theorem dX5_tick_28 : decode cX5_tick 28 = .ok (.iaload, 1) := by decide +kernel
theorem dX5_tick_29 : decode cX5_tick 29 = .ok (.ifCond .ge 7, 3) := by decide +kernel
theorem dX5_tick_32 : decode cX5_tick 32 = .ok (.iconst (-1), 1) := by decide +kernel
theorem dX5_tick_33 : decode cX5_tick 33 = .ok (.goto 4, 3) := by decide +kernel
theorem dX5_tick_36 : decode cX5_tick 36 = .ok (.iconst 1, 1) := by decide +kernel
theorem dX5_tick_37 : decode cX5_tick 37 = .ok (.istore_n 1, 1) := by decide +kernel
theorem dX5_tick_38 : decode cX5_tick 38 = .ok (.aload_n 0, 1) := by decide +kernel
theorem dX5_tick_39 : decode cX5_tick 39 = .ok (.getfield 7, 3) := by decide +kernel
theorem dX5_tick_42 : decode cX5_tick 42 = .ok (.iconst 5, 1) := by decide +kernel
theorem dX5_tick_43 : decode cX5_tick 43 = .ok (.iaload, 1) := by decide +kernel
theorem dX5_tick_44 : decode cX5_tick 44 = .ok (.invokestatic 149, 3) := by decide +kernel
theorem dX5_tick_47 : decode cX5_tick 47 = .ok (.istore_n 2, 1) := by decide +kernel
theorem dX5_tick_48 : decode cX5_tick 48 = .ok (.iload_n 2, 1) := by decide +kernel
theorem dX5_tick_49 : decode cX5_tick 49 = .ok (.ifCond .le 90, 3) := by decide +kernel
theorem dX5_tick_52 : decode cX5_tick 52 = .ok (.aload_n 0, 1) := by decide +kernel
theorem dX5_tick_53 : decode cX5_tick 53 = .ok (.getfield 7, 3) := by decide +kernel
theorem dX5_tick_56 : decode cX5_tick 56 = .ok (.iconst 4, 1) := by decide +kernel
theorem dX5_tick_57 : decode cX5_tick 57 = .ok (.aload_n 0, 1) := by decide +kernel
theorem dX5_tick_58 : decode cX5_tick 58 = .ok (.getfield 7, 3) := by decide +kernel
theorem dX5_tick_61 : decode cX5_tick 61 = .ok (.iconst 4, 1) := by decide +kernel
theorem dX5_tick_62 : decode cX5_tick 62 = .ok (.iaload, 1) := by decide +kernel
theorem dX5_tick_63 : decode cX5_tick 63 = .ok (.iload_n 1, 1) := by decide +kernel
theorem dX5_tick_64 : decode cX5_tick 64 = .ok (.iadd, 1) := by decide +kernel
theorem dX5_tick_65 : decode cX5_tick 65 = .ok (.invokestatic 70, 3) := by decide +kernel
theorem dX5_tick_68 : decode cX5_tick 68 = .ok (.iastore, 1) := by decide +kernel
theorem dX5_tick_69 : decode cX5_tick 69 = .ok (.aload_n 0, 1) := by decide +kernel
theorem dX5_tick_70 : decode cX5_tick 70 = .ok (.getfield 7, 3) := by decide +kernel
theorem dX5_tick_73 : decode cX5_tick 73 = .ok (.bipush 7, 2) := by decide +kernel
theorem dX5_tick_75 : decode cX5_tick 75 = .ok (.dup2, 1) := by decide +kernel
theorem dX5_tick_76 : decode cX5_tick 76 = .ok (.iaload, 1) := by decide +kernel
theorem dX5_tick_77 : decode cX5_tick 77 = .ok (.aload_n 0, 1) := by decide +kernel
theorem dX5_tick_78 : decode cX5_tick 78 = .ok (.iconst 0, 1) := by decide +kernel
theorem dX5_tick_79 : decode cX5_tick 79 = .ok (.aload_n 0, 1) := by decide +kernel
theorem dX5_tick_80 : decode cX5_tick 80 = .ok (.getfield 7, 3) := by decide +kernel
theorem dX5_tick_83 : decode cX5_tick 83 = .ok (.iconst 4, 1) := by decide +kernel
theorem dX5_tick_84 : decode cX5_tick 84 = .ok (.iaload, 1) := by decide +kernel
theorem dX5_tick_85 : decode cX5_tick 85 = .ok (.invokevirtual 152, 3) := by decide +kernel
theorem dX5_tick_88 : decode cX5_tick 88 = .ok (.iadd, 1) := by decide +kernel
theorem dX5_tick_89 : decode cX5_tick 89 = .ok (.iastore, 1) := by decide +kernel
theorem dX5_tick_90 : decode cX5_tick 90 = .ok (.aload_n 0, 1) := by decide +kernel
theorem dX5_tick_91 : decode cX5_tick 91 = .ok (.getfield 7, 3) := by decide +kernel
theorem dX5_tick_94 : decode cX5_tick 94 = .ok (.bipush 7, 2) := by decide +kernel
theorem dX5_tick_96 : decode cX5_tick 96 = .ok (.dup2, 1) := by decide +kernel
theorem dX5_tick_97 : decode cX5_tick 97 = .ok (.iaload, 1) := by decide +kernel
theorem dX5_tick_98 : decode cX5_tick 98 = .ok (.aload_n 0, 1) := by decide +kernel
theorem dX5_tick_99 : decode cX5_tick 99 = .ok (.getfield 7, 3) := by decide +kernel
theorem dX5_tick_102 : decode cX5_tick 102 = .ok (.bipush 8, 2) := by decide +kernel
theorem dX5_tick_104 : decode cX5_tick 104 = .ok (.iaload, 1) := by decide +kernel
theorem dX5_tick_105 : decode cX5_tick 105 = .ok (.ifCond .ne 7, 3) := by decide +kernel
theorem dX5_tick_108 : decode cX5_tick 108 = .ok (.iconst 0, 1) := by decide +kernel
theorem dX5_tick_109 : decode cX5_tick 109 = .ok (.goto 22, 3) := by decide +kernel
theorem dX5_tick_112 : decode cX5_tick 112 = .ok (.aload_n 0, 1) := by decide +kernel
theorem dX5_tick_113 : decode cX5_tick 113 = .ok (.iconst 1, 1) := by decide +kernel
theorem dX5_tick_114 : decode cX5_tick 114 = .ok (.aload_n 0, 1) := by decide +kernel
theorem dX5_tick_115 : decode cX5_tick 115 = .ok (.getfield 7, 3) := by decide +kernel
theorem dX5_tick_118 : decode cX5_tick 118 = .ok (.iconst 4, 1) := by decide +kernel
theorem dX5_tick_119 : decode cX5_tick 119 = .ok (.iaload, 1) := by decide +kernel
theorem dX5_tick_120 : decode cX5_tick 120 = .ok (.sipush 360, 3) := by decide +kernel
theorem dX5_tick_123 : decode cX5_tick 123 = .ok (.iadd, 1) := by decide +kernel
theorem dX5_tick_124 : decode cX5_tick 124 = .ok (.sipush 720, 3) := by decide +kernel
theorem dX5_tick_127 : decode cX5_tick 127 = .ok (.irem, 1) := by decide +kernel
theorem dX5_tick_128 : decode cX5_tick 128 = .ok (.invokevirtual 152, 3) := by decide +kernel
theorem dX5_tick_131 : decode cX5_tick 131 = .ok (.iadd, 1) := by decide +kernel
theorem dX5_tick_132 : decode cX5_tick 132 = .ok (.iastore, 1) := by decide +kernel
theorem dX5_tick_133 : decode cX5_tick 133 = .ok (.iinc 2 (-1), 3) := by decide +kernel
theorem dX5_tick_136 : decode cX5_tick 136 = .ok (.goto (-88), 3) := by decide +kernel
theorem dX5_tick_139 : decode cX5_tick 139 = .ok (.return_, 1) := by decide +kernel
set_option maxRecDepth 20000 in
theorem ggX5_goOn_X5_tick : GoodIn wsX5_goOn wsX5_tick := goodIn_r _ [5, 6, 7, 8, 9, 4, 10, 11, 12, 13, 14, 15, 16, 17, 18, 19, 20, 21, 22, 23, 24, 25, 26, 27, 28, 29, 30, 31, 32, 33, 34, 35, 36, 37, 38, 39, 40, 41, 42] (by decide +kernel) (by decide +kernel)
set_option maxRecDepth 20000 in
theorem gX5_goOn_X5_tick : GoodIn wsX5_goOn (wsV RX5 155 RX5 yX5_tick wsX5_tick) := goodIn_app (goodIn_of _ (by decide +kernel)) ggX5_goOn_X5_tick
theorem dX5_goOn_0 : decode cX5_goOn 0 = .ok (.iconst 0, 1) := by decide +kernel
theorem dX5_goOn_1 : decode cX5_goOn 1 = .ok (.istore_n 2, 1) := by decide +kernel
theorem dX5_goOn_2 : decode cX5_goOn 2 = .ok (.iload_n 2, 1) := by decide +kernel
theorem dX5_goOn_3 : decode cX5_goOn 3 = .ok (.iload_n 1, 1) := by decide +kernel
theorem dX5_goOn_4 : decode cX5_goOn 4 = .ok (.if_icmp .ge 13, 3) := by decide +kernel
theorem dX5_goOn_7 : decode cX5_goOn 7 = .ok (.aload_n 0, 1) := by decide +kernel
theorem dX5_goOn_8 : decode cX5_goOn 8 = .ok (.invokevirtual 155, 3) := by decide +kernel
theorem dX5_goOn_11 : decode cX5_goOn 11 = .ok (.iinc 2 1, 3) := by decide +kernel
theorem dX5_goOn_14 : decode cX5_goOn 14 = .ok (.goto (-12), 3) := by decide +kernel
theorem dX5_goOn_17 : decode cX5_goOn 17 = .ok (.return_, 1) := by decide +kernel
set_option maxRecDepth 20000 in
theorem ggX5_run_X5_in : GoodIn wsX5_run wsX5_in := goodIn_r _ [5] (by decide +kernel) (by decide +kernel)
set_option maxRecDepth 20000 in
theorem gX5_run_X5_in : GoodIn wsX5_run (va_wsS RX5 56 yX5_in wsX5_in) := goodIn_app (goodIn_of _ (by decide +kernel)) ggX5_run_X5_in
set_option maxRecDepth 20000 in
theorem ggX5_run_X5_record : GoodIn wsX5_run wsX5_record := goodIn_r _ [9, 10, 11, 1, 12, 13, 14, 15, 4, 16, 17, 18, 76, 77, 78, 79, 80, 81, 82, 83, 84, 85, 86, 87, 88, 89, 90, 91] (by decide +kernel) (by decide +kernel)
set_option maxRecDepth 20000 in
theorem gX5_run_X5_record : GoodIn wsX5_run (wsV RX5 83 RX5 yX5_record wsX5_record) := goodIn_app (goodIn_of _ (by decide +kernel)) ggX5_run_X5_record
set_option maxRecDepth 20000 in
theorem ggX5_run_X5_layWants : GoodIn wsX5_run wsX5_layWants := goodIn_r _ [22, 23, 24, 25, 26, 4, 27, 1, 28, 29, 30, 31, 32, 33, 34, 35, 36, 37, 38, 39, 40, 41, 42, 43, 44, 45, 46, 47, 48, 49, 50, 51, 52, 76, 77, 78, 79, 80, 81, 82, 83, 84, 85, 86, 87, 88, 89, 90, 91] (by decide +kernel) (by decide +kernel)
set_option maxRecDepth 20000 in
theorem gX5_run_X5_layWants : GoodIn wsX5_run (wsV RX5 158 RX5 yX5_layWants wsX5_layWants) := goodIn_app (goodIn_of _ (by decide +kernel)) ggX5_run_X5_layWants
set_option maxRecDepth 20000 in
theorem ggX5_run_X5_goOn : GoodIn wsX5_run wsX5_goOn := goodIn_r _ [56, 57, 58, 59, 4, 60, 1, 61, 62, 63, 64, 65, 66, 67, 36, 37, 38, 68, 69, 70, 71, 23, 12, 72, 73, 74, 75, 76, 77, 78, 79, 80, 81, 82, 83, 84, 85, 86, 87, 88, 89, 90, 91] (by decide +kernel) (by decide +kernel)
set_option maxRecDepth 20000 in
theorem gX5_run_X5_goOn : GoodIn wsX5_run (wsV RX5 161 RX5 yX5_goOn wsX5_goOn) := goodIn_app (goodIn_of _ (by decide +kernel)) ggX5_run_X5_goOn
theorem dX5_run_0 : decode cX5_run 0 = .ok (.iload_n 1, 1) := by decide +kernel
theorem dX5_run_1 : decode cX5_run 1 = .ok (.iconst 1, 1) := by decide +kernel
theorem dX5_run_2 : decode cX5_run 2 = .ok (.bipush 100, 2) := by decide +kernel
theorem dX5_run_4 : decode cX5_run 4 = .ok (.invokestatic 56, 3) := by decide +kernel
theorem dX5_run_7 : decode cX5_run 7 = .ok (.ifCond .ne 6, 3) := by decide +kernel
theorem dX5_run_10 : decode cX5_run 10 = .ok (.bipush (-101), 2) := by decide +kernel
theorem dX5_run_12 : decode cX5_run 12 = .ok (.ireturn, 1) := by decide +kernel
theorem dX5_run_13 : decode cX5_run 13 = .ok (.aload_n 0, 1) := by decide +kernel
theorem dX5_run_14 : decode cX5_run 14 = .ok (.getfield 7, 3) := by decide +kernel
theorem dX5_run_17 : decode cX5_run 17 = .ok (.bipush 6, 2) := by decide +kernel
theorem dX5_run_19 : decode cX5_run 19 = .ok (.iaload, 1) := by decide +kernel
theorem dX5_run_20 : decode cX5_run 20 = .ok (.iload_n 1, 1) := by decide +kernel
theorem dX5_run_21 : decode cX5_run 21 = .ok (.iadd, 1) := by decide +kernel
theorem dX5_run_22 : decode cX5_run 22 = .ok (.sipush 5000, 3) := by decide +kernel
theorem dX5_run_25 : decode cX5_run 25 = .ok (.if_icmp .le 6, 3) := by decide +kernel
theorem dX5_run_28 : decode cX5_run 28 = .ok (.bipush (-103), 2) := by decide +kernel
theorem dX5_run_30 : decode cX5_run 30 = .ok (.ireturn, 1) := by decide +kernel
theorem dX5_run_31 : decode cX5_run 31 = .ok (.aload_n 0, 1) := by decide +kernel
theorem dX5_run_32 : decode cX5_run 32 = .ok (.invokevirtual 83, 3) := by decide +kernel
theorem dX5_run_35 : decode cX5_run 35 = .ok (.aload_n 0, 1) := by decide +kernel
theorem dX5_run_36 : decode cX5_run 36 = .ok (.invokevirtual 158, 3) := by decide +kernel
theorem dX5_run_39 : decode cX5_run 39 = .ok (.aload_n 0, 1) := by decide +kernel
theorem dX5_run_40 : decode cX5_run 40 = .ok (.iload_n 1, 1) := by decide +kernel
theorem dX5_run_41 : decode cX5_run 41 = .ok (.invokevirtual 161, 3) := by decide +kernel
theorem dX5_run_44 : decode cX5_run 44 = .ok (.aload_n 0, 1) := by decide +kernel
theorem dX5_run_45 : decode cX5_run 45 = .ok (.getfield 7, 3) := by decide +kernel
theorem dX5_run_48 : decode cX5_run 48 = .ok (.bipush 7, 2) := by decide +kernel
theorem dX5_run_50 : decode cX5_run 50 = .ok (.iaload, 1) := by decide +kernel
theorem dX5_run_51 : decode cX5_run 51 = .ok (.ireturn, 1) := by decide +kernel
theorem dX5_ago_0 : decode cX5_ago 0 = .ok (.aload_n 0, 1) := by decide +kernel
theorem dX5_ago_1 : decode cX5_ago 1 = .ok (.getfield 13, 3) := by decide +kernel
theorem dX5_ago_4 : decode cX5_ago 4 = .ok (.iload_n 1, 1) := by decide +kernel
theorem dX5_ago_5 : decode cX5_ago 5 = .ok (.iaload, 1) := by decide +kernel
theorem dX5_ago_6 : decode cX5_ago 6 = .ok (.ifCond .ne 8, 3) := by decide +kernel
theorem dX5_ago_9 : decode cX5_ago 9 = .ok (.bipush (-109), 2) := by decide +kernel
theorem dX5_ago_11 : decode cX5_ago 11 = .ok (.goto 20, 3) := by decide +kernel
theorem dX5_ago_14 : decode cX5_ago 14 = .ok (.aload_n 0, 1) := by decide +kernel
theorem dX5_ago_15 : decode cX5_ago 15 = .ok (.getfield 7, 3) := by decide +kernel
theorem dX5_ago_18 : decode cX5_ago 18 = .ok (.bipush 6, 2) := by decide +kernel
theorem dX5_ago_20 : decode cX5_ago 20 = .ok (.iaload, 1) := by decide +kernel
theorem dX5_ago_21 : decode cX5_ago 21 = .ok (.aload_n 0, 1) := by decide +kernel
theorem dX5_ago_22 : decode cX5_ago 22 = .ok (.getfield 13, 3) := by decide +kernel
theorem dX5_ago_25 : decode cX5_ago 25 = .ok (.iload_n 1, 1) := by decide +kernel
theorem dX5_ago_26 : decode cX5_ago 26 = .ok (.iaload, 1) := by decide +kernel
theorem dX5_ago_27 : decode cX5_ago 27 = .ok (.bipush 8, 2) := by decide +kernel
theorem dX5_ago_29 : decode cX5_ago 29 = .ok (.idiv, 1) := by decide +kernel
theorem dX5_ago_30 : decode cX5_ago 30 = .ok (.isub, 1) := by decide +kernel
theorem dX5_ago_31 : decode cX5_ago 31 = .ok (.ireturn, 1) := by decide +kernel
set_option maxRecDepth 20000 in
theorem ggX5_lit_X5_ago : GoodIn wsX5_lit wsX5_ago := goodIn_r _ [7, 1, 2, 8, 9, 10, 11, 12, 13, 14, 15, 16, 17, 18, 19, 20, 21, 22, 23] (by decide +kernel) (by decide +kernel)
set_option maxRecDepth 20000 in
theorem gX5_lit_X5_ago : GoodIn wsX5_lit (wsV RX5 164 RX5 yX5_ago wsX5_ago) := goodIn_app (goodIn_of _ (by decide +kernel)) ggX5_lit_X5_ago
theorem dX5_lit_0 : decode cX5_lit 0 = .ok (.aload_n 0, 1) := by decide +kernel
theorem dX5_lit_1 : decode cX5_lit 1 = .ok (.getfield 13, 3) := by decide +kernel
theorem dX5_lit_4 : decode cX5_lit 4 = .ok (.iload_n 1, 1) := by decide +kernel
theorem dX5_lit_5 : decode cX5_lit 5 = .ok (.iaload, 1) := by decide +kernel
theorem dX5_lit_6 : decode cX5_lit 6 = .ok (.ifCond .eq 29, 3) := by decide +kernel
theorem dX5_lit_9 : decode cX5_lit 9 = .ok (.aload_n 0, 1) := by decide +kernel
theorem dX5_lit_10 : decode cX5_lit 10 = .ok (.iload_n 1, 1) := by decide +kernel
theorem dX5_lit_11 : decode cX5_lit 11 = .ok (.invokevirtual 164, 3) := by decide +kernel
theorem dX5_lit_14 : decode cX5_lit 14 = .ok (.aload_n 0, 1) := by decide +kernel
theorem dX5_lit_15 : decode cX5_lit 15 = .ok (.getfield 7, 3) := by decide +kernel
theorem dX5_lit_18 : decode cX5_lit 18 = .ok (.iconst 3, 1) := by decide +kernel
theorem dX5_lit_19 : decode cX5_lit 19 = .ok (.iaload, 1) := by decide +kernel
theorem dX5_lit_20 : decode cX5_lit 20 = .ok (.if_icmp .ge 15, 3) := by decide +kernel
theorem dX5_lit_23 : decode cX5_lit 23 = .ok (.aload_n 0, 1) := by decide +kernel
theorem dX5_lit_24 : decode cX5_lit 24 = .ok (.getfield 13, 3) := by decide +kernel
theorem dX5_lit_27 : decode cX5_lit 27 = .ok (.iload_n 1, 1) := by decide +kernel
theorem dX5_lit_28 : decode cX5_lit 28 = .ok (.iaload, 1) := by decide +kernel
theorem dX5_lit_29 : decode cX5_lit 29 = .ok (.bipush 7, 2) := by decide +kernel
theorem dX5_lit_31 : decode cX5_lit 31 = .ok (.iand, 1) := by decide +kernel
theorem dX5_lit_32 : decode cX5_lit 32 = .ok (.goto 4, 3) := by decide +kernel
theorem dX5_lit_35 : decode cX5_lit 35 = .ok (.iconst 0, 1) := by decide +kernel
theorem dX5_lit_36 : decode cX5_lit 36 = .ok (.ireturn, 1) := by decide +kernel
set_option maxRecDepth 20000 in
theorem ggX5_litPlaces_X5_lit : GoodIn wsX5_litPlaces wsX5_lit := goodIn_r _ [6, 7, 8, 9, 10, 11, 5, 12, 13, 14, 15, 16, 17, 18, 19, 20, 21, 22, 23, 24, 25, 26, 27, 28] (by decide +kernel) (by decide +kernel)
set_option maxRecDepth 20000 in
theorem gX5_litPlaces_X5_lit : GoodIn wsX5_litPlaces (wsV RX5 167 RX5 yX5_lit wsX5_lit) := goodIn_app (goodIn_of _ (by decide +kernel)) ggX5_litPlaces_X5_lit
theorem dX5_litPlaces_0 : decode cX5_litPlaces 0 = .ok (.iconst 0, 1) := by decide +kernel
theorem dX5_litPlaces_1 : decode cX5_litPlaces 1 = .ok (.istore_n 2, 1) := by decide +kernel
theorem dX5_litPlaces_2 : decode cX5_litPlaces 2 = .ok (.iconst 0, 1) := by decide +kernel
theorem dX5_litPlaces_3 : decode cX5_litPlaces 3 = .ok (.istore_n 3, 1) := by decide +kernel
theorem dX5_litPlaces_4 : decode cX5_litPlaces 4 = .ok (.iload_n 3, 1) := by decide +kernel
theorem dX5_litPlaces_5 : decode cX5_litPlaces 5 = .ok (.sipush 8640, 3) := by decide +kernel
theorem dX5_litPlaces_8 : decode cX5_litPlaces 8 = .ok (.if_icmp .ge 46, 3) := by decide +kernel
theorem dX5_litPlaces_11 : decode cX5_litPlaces 11 = .ok (.iload_n 2, 1) := by decide +kernel
theorem dX5_litPlaces_12 : decode cX5_litPlaces 12 = .ok (.iload_n 1, 1) := by decide +kernel
theorem dX5_litPlaces_13 : decode cX5_litPlaces 13 = .ok (.ifCond .eq 20, 3) := by decide +kernel
theorem dX5_litPlaces_16 : decode cX5_litPlaces 16 = .ok (.aload_n 0, 1) := by decide +kernel
theorem dX5_litPlaces_17 : decode cX5_litPlaces 17 = .ok (.iload_n 3, 1) := by decide +kernel
theorem dX5_litPlaces_18 : decode cX5_litPlaces 18 = .ok (.invokevirtual 167, 3) := by decide +kernel
theorem dX5_litPlaces_21 : decode cX5_litPlaces 21 = .ok (.aload_n 0, 1) := by decide +kernel
theorem dX5_litPlaces_22 : decode cX5_litPlaces 22 = .ok (.getfield 34, 3) := by decide +kernel
theorem dX5_litPlaces_25 : decode cX5_litPlaces 25 = .ok (.iload_n 3, 1) := by decide +kernel
theorem dX5_litPlaces_26 : decode cX5_litPlaces 26 = .ok (.iaload, 1) := by decide +kernel
theorem dX5_litPlaces_27 : decode cX5_litPlaces 27 = .ok (.if_icmp .ne 18, 3) := by decide +kernel
theorem dX5_litPlaces_30 : decode cX5_litPlaces 30 = .ok (.goto 11, 3) := by decide +kernel
theorem dX5_litPlaces_33 : decode cX5_litPlaces 33 = .ok (.aload_n 0, 1) := by decide +kernel
theorem dX5_litPlaces_34 : decode cX5_litPlaces 34 = .ok (.iload_n 3, 1) := by decide +kernel
theorem dX5_litPlaces_35 : decode cX5_litPlaces 35 = .ok (.invokevirtual 167, 3) := by decide +kernel
theorem dX5_litPlaces_38 : decode cX5_litPlaces 38 = .ok (.ifCond .eq 7, 3) := by decide +kernel
theorem dX5_litPlaces_41 : decode cX5_litPlaces 41 = .ok (.iconst 1, 1) := by decide +kernel
theorem dX5_litPlaces_42 : decode cX5_litPlaces 42 = .ok (.goto 4, 3) := by decide +kernel
theorem dX5_litPlaces_45 : decode cX5_litPlaces 45 = .ok (.iconst 0, 1) := by decide +kernel
theorem dX5_litPlaces_46 : decode cX5_litPlaces 46 = .ok (.iadd, 1) := by decide +kernel
theorem dX5_litPlaces_47 : decode cX5_litPlaces 47 = .ok (.istore_n 2, 1) := by decide +kernel
theorem dX5_litPlaces_48 : decode cX5_litPlaces 48 = .ok (.iinc 3 1, 3) := by decide +kernel
theorem dX5_litPlaces_51 : decode cX5_litPlaces 51 = .ok (.goto (-47), 3) := by decide +kernel
theorem dX5_litPlaces_54 : decode cX5_litPlaces 54 = .ok (.iload_n 2, 1) := by decide +kernel
theorem dX5_litPlaces_55 : decode cX5_litPlaces 55 = .ok (.ireturn, 1) := by decide +kernel
set_option maxRecDepth 20000 in
theorem ggX5_wrongPlaces_X5_layWants : GoodIn wsX5_wrongPlaces wsX5_layWants := goodIn_r _ [5, 6, 7, 8, 9, 4, 10, 11, 12, 13, 14, 15, 16, 17, 18, 19, 20, 21, 22, 23, 24, 25, 26, 27, 28, 29, 30, 31, 32, 33, 34, 35, 36, 50, 51, 52, 53, 54, 55, 56, 57, 58, 59, 60, 61, 62, 63, 64, 65] (by decide +kernel) (by decide +kernel)
set_option maxRecDepth 20000 in
theorem gX5_wrongPlaces_X5_layWants : GoodIn wsX5_wrongPlaces (wsV RX5 158 RX5 yX5_layWants wsX5_layWants) := goodIn_app (goodIn_of _ (by decide +kernel)) ggX5_wrongPlaces_X5_layWants
set_option maxRecDepth 20000 in
theorem ggX5_wrongPlaces_X5_litPlaces : GoodIn wsX5_wrongPlaces wsX5_litPlaces := goodIn_r _ [40, 6, 41, 42, 43, 4, 44, 45, 11, 46, 47, 48, 49, 50, 51, 52, 53, 54, 55, 56, 57, 58, 59, 60, 61, 62, 63, 64, 65] (by decide +kernel) (by decide +kernel)
set_option maxRecDepth 20000 in
theorem gX5_wrongPlaces_X5_litPlaces : GoodIn wsX5_wrongPlaces (wsV RX5 170 RX5 yX5_litPlaces wsX5_litPlaces) := goodIn_app (goodIn_of _ (by decide +kernel)) ggX5_wrongPlaces_X5_litPlaces
theorem dX5_wrongPlaces_0 : decode cX5_wrongPlaces 0 = .ok (.aload_n 0, 1) := by decide +kernel
theorem dX5_wrongPlaces_1 : decode cX5_wrongPlaces 1 = .ok (.invokevirtual 158, 3) := by decide +kernel
theorem dX5_wrongPlaces_4 : decode cX5_wrongPlaces 4 = .ok (.sipush 8640, 3) := by decide +kernel
theorem dX5_wrongPlaces_7 : decode cX5_wrongPlaces 7 = .ok (.aload_n 0, 1) := by decide +kernel
theorem dX5_wrongPlaces_8 : decode cX5_wrongPlaces 8 = .ok (.iconst 1, 1) := by decide +kernel
theorem dX5_wrongPlaces_9 : decode cX5_wrongPlaces 9 = .ok (.invokevirtual 170, 3) := by decide +kernel
theorem dX5_wrongPlaces_12 : decode cX5_wrongPlaces 12 = .ok (.isub, 1) := by decide +kernel
theorem dX5_wrongPlaces_13 : decode cX5_wrongPlaces 13 = .ok (.ireturn, 1) := by decide +kernel
set_option maxRecDepth 20000 in
theorem ggX5_count_X5_litPlaces : GoodIn wsX5_count wsX5_litPlaces := goodIn_r _ [8, 9, 10, 11, 12, 7, 13, 14, 1, 15, 16, 17, 18, 56, 57, 58, 59, 60, 61, 62, 63, 64, 65, 66, 67, 68, 69, 70, 71] (by decide +kernel) (by decide +kernel)
set_option maxRecDepth 20000 in
theorem gX5_count_X5_litPlaces : GoodIn wsX5_count (wsV RX5 170 RX5 yX5_litPlaces wsX5_litPlaces) := goodIn_app (goodIn_of _ (by decide +kernel)) ggX5_count_X5_litPlaces
set_option maxRecDepth 20000 in
theorem ggX5_count_X5_wrongPlaces : GoodIn wsX5_count wsX5_wrongPlaces := goodIn_r _ [22, 23, 24, 25, 7, 26, 9, 27, 28, 29, 30, 1, 31, 32, 33, 34, 35, 36, 37, 38, 39, 40, 41, 42, 43, 44, 45, 46, 47, 48, 49, 50, 51, 52, 53, 54, 55, 4, 5, 6, 8, 10, 11, 12, 13, 14, 15, 16, 17, 18, 56, 57, 58, 59, 60, 61, 62, 63, 64, 65, 66, 67, 68, 69, 70, 71] (by decide +kernel) (by decide +kernel)
set_option maxRecDepth 20000 in
theorem gX5_count_X5_wrongPlaces : GoodIn wsX5_count (wsV RX5 174 RX5 yX5_wrongPlaces wsX5_wrongPlaces) := goodIn_app (goodIn_of _ (by decide +kernel)) ggX5_count_X5_wrongPlaces
theorem dX5_count_0 : decode cX5_count 0 = .ok (.iload_n 1, 1) := by decide +kernel
theorem dX5_count_1 : decode cX5_count 1 = .ok (.tableswitch 122 0 9 #[55, 63, 70, 77, 85, 93, 99, 104, 112, 117], 55) := by decide +kernel
theorem dX5_count_56 : decode cX5_count 56 = .ok (.aload_n 0, 1) := by decide +kernel
theorem dX5_count_57 : decode cX5_count 57 = .ok (.getfield 7, 3) := by decide +kernel
theorem dX5_count_60 : decode cX5_count 60 = .ok (.bipush 11, 2) := by decide +kernel
theorem dX5_count_62 : decode cX5_count 62 = .ok (.iaload, 1) := by decide +kernel
theorem dX5_count_63 : decode cX5_count 63 = .ok (.ireturn, 1) := by decide +kernel
theorem dX5_count_64 : decode cX5_count 64 = .ok (.aload_n 0, 1) := by decide +kernel
theorem dX5_count_65 : decode cX5_count 65 = .ok (.getfield 7, 3) := by decide +kernel
theorem dX5_count_68 : decode cX5_count 68 = .ok (.iconst 4, 1) := by decide +kernel
theorem dX5_count_69 : decode cX5_count 69 = .ok (.iaload, 1) := by decide +kernel
theorem dX5_count_70 : decode cX5_count 70 = .ok (.ireturn, 1) := by decide +kernel
theorem dX5_count_71 : decode cX5_count 71 = .ok (.aload_n 0, 1) := by decide +kernel
theorem dX5_count_72 : decode cX5_count 72 = .ok (.getfield 7, 3) := by decide +kernel
theorem dX5_count_75 : decode cX5_count 75 = .ok (.iconst 5, 1) := by decide +kernel
theorem dX5_count_76 : decode cX5_count 76 = .ok (.iaload, 1) := by decide +kernel
theorem dX5_count_77 : decode cX5_count 77 = .ok (.ireturn, 1) := by decide +kernel
theorem dX5_count_78 : decode cX5_count 78 = .ok (.aload_n 0, 1) := by decide +kernel
theorem dX5_count_79 : decode cX5_count 79 = .ok (.getfield 7, 3) := by decide +kernel
theorem dX5_count_82 : decode cX5_count 82 = .ok (.bipush 6, 2) := by decide +kernel
theorem dX5_count_84 : decode cX5_count 84 = .ok (.iaload, 1) := by decide +kernel
theorem dX5_count_85 : decode cX5_count 85 = .ok (.ireturn, 1) := by decide +kernel
theorem dX5_count_86 : decode cX5_count 86 = .ok (.aload_n 0, 1) := by decide +kernel
theorem dX5_count_87 : decode cX5_count 87 = .ok (.getfield 7, 3) := by decide +kernel
theorem dX5_count_90 : decode cX5_count 90 = .ok (.bipush 7, 2) := by decide +kernel
theorem dX5_count_92 : decode cX5_count 92 = .ok (.iaload, 1) := by decide +kernel
theorem dX5_count_93 : decode cX5_count 93 = .ok (.ireturn, 1) := by decide +kernel
theorem dX5_count_94 : decode cX5_count 94 = .ok (.aload_n 0, 1) := by decide +kernel
theorem dX5_count_95 : decode cX5_count 95 = .ok (.iconst 0, 1) := by decide +kernel
theorem dX5_count_96 : decode cX5_count 96 = .ok (.invokevirtual 170, 3) := by decide +kernel
theorem dX5_count_99 : decode cX5_count 99 = .ok (.ireturn, 1) := by decide +kernel
theorem dX5_count_100 : decode cX5_count 100 = .ok (.aload_n 0, 1) := by decide +kernel
theorem dX5_count_101 : decode cX5_count 101 = .ok (.invokevirtual 174, 3) := by decide +kernel
theorem dX5_count_104 : decode cX5_count 104 = .ok (.ireturn, 1) := by decide +kernel
theorem dX5_count_105 : decode cX5_count 105 = .ok (.aload_n 0, 1) := by decide +kernel
theorem dX5_count_106 : decode cX5_count 106 = .ok (.getfield 7, 3) := by decide +kernel
theorem dX5_count_109 : decode cX5_count 109 = .ok (.bipush 8, 2) := by decide +kernel
theorem dX5_count_111 : decode cX5_count 111 = .ok (.iaload, 1) := by decide +kernel
theorem dX5_count_112 : decode cX5_count 112 = .ok (.ireturn, 1) := by decide +kernel
theorem dX5_count_113 : decode cX5_count 113 = .ok (.aload_n 0, 1) := by decide +kernel
theorem dX5_count_114 : decode cX5_count 114 = .ok (.getfield 40, 3) := by decide +kernel
theorem dX5_count_117 : decode cX5_count 117 = .ok (.ireturn, 1) := by decide +kernel
theorem dX5_count_118 : decode cX5_count 118 = .ok (.aload_n 0, 1) := by decide +kernel
theorem dX5_count_119 : decode cX5_count 119 = .ok (.getfield 100, 3) := by decide +kernel
theorem dX5_count_122 : decode cX5_count 122 = .ok (.ireturn, 1) := by decide +kernel
theorem dX5_count_123 : decode cX5_count 123 = .ok (.bipush (-101), 2) := by decide +kernel
theorem dX5_count_125 : decode cX5_count 125 = .ok (.ireturn, 1) := by decide +kernel
set_option maxRecDepth 20000 in
theorem ggX5_setting_X5_in : GoodIn wsX5_setting wsX5_in := goodIn_r _ [5] (by decide +kernel) (by decide +kernel)
set_option maxRecDepth 20000 in
theorem gX5_setting_X5_in : GoodIn wsX5_setting (va_wsS RX5 56 yX5_in wsX5_in) := goodIn_app (goodIn_of _ (by decide +kernel)) ggX5_setting_X5_in
theorem dX5_setting_0 : decode cX5_setting 0 = .ok (.iload_n 1, 1) := by decide +kernel
theorem dX5_setting_1 : decode cX5_setting 1 = .ok (.iconst 0, 1) := by decide +kernel
theorem dX5_setting_2 : decode cX5_setting 2 = .ok (.iconst 3, 1) := by decide +kernel
theorem dX5_setting_3 : decode cX5_setting 3 = .ok (.invokestatic 56, 3) := by decide +kernel
theorem dX5_setting_6 : decode cX5_setting 6 = .ok (.ifCond .eq 12, 3) := by decide +kernel
theorem dX5_setting_9 : decode cX5_setting 9 = .ok (.aload_n 0, 1) := by decide +kernel
theorem dX5_setting_10 : decode cX5_setting 10 = .ok (.getfield 7, 3) := by decide +kernel
theorem dX5_setting_13 : decode cX5_setting 13 = .ok (.iload_n 1, 1) := by decide +kernel
theorem dX5_setting_14 : decode cX5_setting 14 = .ok (.iaload, 1) := by decide +kernel
theorem dX5_setting_15 : decode cX5_setting 15 = .ok (.goto 5, 3) := by decide +kernel
theorem dX5_setting_18 : decode cX5_setting 18 = .ok (.bipush (-101), 2) := by decide +kernel
theorem dX5_setting_20 : decode cX5_setting 20 = .ok (.ireturn, 1) := by decide +kernel
set_option maxRecDepth 20000 in
theorem ggX5_bright_X5_of : GoodIn wsX5_bright wsX5_of := goodIn_r _ [5, 6, 14, 15, 16, 17, 18, 19, 20, 21, 22, 23, 24, 25, 26, 27, 28, 29] (by decide +kernel) (by decide +kernel)
set_option maxRecDepth 20000 in
theorem gX5_bright_X5_of : GoodIn wsX5_bright (wsV RX5 64 RX5 yX5_of wsX5_of) := goodIn_app (goodIn_of _ (by decide +kernel)) ggX5_bright_X5_of
set_option maxRecDepth 20000 in
theorem ggX5_bright_X5_colorOf : GoodIn wsX5_bright wsX5_colorOf := goodIn_r _ [10, 6, 11, 12, 4, 13, 14, 15, 16, 17, 18, 19, 20, 21, 22, 23, 24, 25, 26, 27, 28, 29] (by decide +kernel) (by decide +kernel)
set_option maxRecDepth 20000 in
theorem gX5_bright_X5_colorOf : GoodIn wsX5_bright (wsV RX5 80 RX5 yX5_colorOf wsX5_colorOf) := goodIn_app (goodIn_of _ (by decide +kernel)) ggX5_bright_X5_colorOf
theorem dX5_bright_0 : decode cX5_bright 0 = .ok (.iconst 0, 1) := by decide +kernel
theorem dX5_bright_1 : decode cX5_bright 1 = .ok (.istore_n 2, 1) := by decide +kernel
theorem dX5_bright_2 : decode cX5_bright 2 = .ok (.iconst 0, 1) := by decide +kernel
theorem dX5_bright_3 : decode cX5_bright 3 = .ok (.istore_n 3, 1) := by decide +kernel
theorem dX5_bright_4 : decode cX5_bright 4 = .ok (.iload_n 3, 1) := by decide +kernel
theorem dX5_bright_5 : decode cX5_bright 5 = .ok (.bipush 12, 2) := by decide +kernel
theorem dX5_bright_7 : decode cX5_bright 7 = .ok (.aload_n 0, 1) := by decide +kernel
theorem dX5_bright_8 : decode cX5_bright 8 = .ok (.iload_n 1, 1) := by decide +kernel
theorem dX5_bright_9 : decode cX5_bright 9 = .ok (.iconst 0, 1) := by decide +kernel
theorem dX5_bright_10 : decode cX5_bright 10 = .ok (.invokevirtual 64, 3) := by decide +kernel
theorem dX5_bright_13 : decode cX5_bright 13 = .ok (.imul, 1) := by decide +kernel
theorem dX5_bright_14 : decode cX5_bright 14 = .ok (.if_icmp .ge 33, 3) := by decide +kernel
theorem dX5_bright_17 : decode cX5_bright 17 = .ok (.iload_n 2, 1) := by decide +kernel
theorem dX5_bright_18 : decode cX5_bright 18 = .ok (.aload_n 0, 1) := by decide +kernel
theorem dX5_bright_19 : decode cX5_bright 19 = .ok (.iload_n 1, 1) := by decide +kernel
theorem dX5_bright_20 : decode cX5_bright 20 = .ok (.iload_n 3, 1) := by decide +kernel
theorem dX5_bright_21 : decode cX5_bright 21 = .ok (.bipush 12, 2) := by decide +kernel
theorem dX5_bright_23 : decode cX5_bright 23 = .ok (.idiv, 1) := by decide +kernel
theorem dX5_bright_24 : decode cX5_bright 24 = .ok (.iload_n 3, 1) := by decide +kernel
theorem dX5_bright_25 : decode cX5_bright 25 = .ok (.bipush 12, 2) := by decide +kernel
theorem dX5_bright_27 : decode cX5_bright 27 = .ok (.irem, 1) := by decide +kernel
theorem dX5_bright_28 : decode cX5_bright 28 = .ok (.invokevirtual 80, 3) := by decide +kernel
theorem dX5_bright_31 : decode cX5_bright 31 = .ok (.ifCond .ne 7, 3) := by decide +kernel
theorem dX5_bright_34 : decode cX5_bright 34 = .ok (.iconst 0, 1) := by decide +kernel
theorem dX5_bright_35 : decode cX5_bright 35 = .ok (.goto 4, 3) := by decide +kernel
theorem dX5_bright_38 : decode cX5_bright 38 = .ok (.iconst 1, 1) := by decide +kernel
theorem dX5_bright_39 : decode cX5_bright 39 = .ok (.iadd, 1) := by decide +kernel
theorem dX5_bright_40 : decode cX5_bright 40 = .ok (.istore_n 2, 1) := by decide +kernel
theorem dX5_bright_41 : decode cX5_bright 41 = .ok (.iinc 3 1, 3) := by decide +kernel
theorem dX5_bright_44 : decode cX5_bright 44 = .ok (.goto (-40), 3) := by decide +kernel
theorem dX5_bright_47 : decode cX5_bright 47 = .ok (.iload_n 2, 1) := by decide +kernel
theorem dX5_bright_48 : decode cX5_bright 48 = .ok (.ireturn, 1) := by decide +kernel
set_option maxRecDepth 20000 in
theorem ggX5_picture_X5_isPicture : GoodIn wsX5_picture wsX5_isPicture := goodIn_r _ [5, 6, 7, 8, 4, 9, 32, 33, 34, 35, 36, 37, 38, 39, 40, 41, 42, 43, 44, 45, 46, 47] (by decide +kernel) (by decide +kernel)
set_option maxRecDepth 20000 in
theorem gX5_picture_X5_isPicture : GoodIn wsX5_picture (wsV RX5 86 RX5 yX5_isPicture wsX5_isPicture) := goodIn_app (goodIn_of _ (by decide +kernel)) ggX5_picture_X5_isPicture
set_option maxRecDepth 20000 in
theorem ggX5_picture_X5_in : GoodIn wsX5_picture wsX5_in := goodIn_r _ [9] (by decide +kernel) (by decide +kernel)
set_option maxRecDepth 20000 in
theorem gX5_picture_X5_in : GoodIn wsX5_picture (va_wsS RX5 56 yX5_in wsX5_in) := goodIn_app (goodIn_of _ (by decide +kernel)) ggX5_picture_X5_in
set_option maxRecDepth 20000 in
theorem ggX5_picture_X5_of : GoodIn wsX5_picture wsX5_of := goodIn_r _ [13, 6, 32, 33, 34, 35, 36, 37, 38, 39, 40, 41, 42, 43, 44, 45, 46, 47] (by decide +kernel) (by decide +kernel)
set_option maxRecDepth 20000 in
theorem gX5_picture_X5_of : GoodIn wsX5_picture (wsV RX5 64 RX5 yX5_of wsX5_of) := goodIn_app (goodIn_of _ (by decide +kernel)) ggX5_picture_X5_of
set_option maxRecDepth 20000 in
theorem ggX5_picture_X5_bright : GoodIn wsX5_picture wsX5_bright := goodIn_r _ [17, 10, 11, 12, 4, 13, 6, 18, 19, 20, 21, 22, 23, 24, 32, 33, 34, 35, 36, 37, 38, 39, 40, 41, 42, 43, 44, 45, 46, 47] (by decide +kernel) (by decide +kernel)
set_option maxRecDepth 20000 in
theorem gX5_picture_X5_bright : GoodIn wsX5_picture (wsV RX5 177 RX5 yX5_bright wsX5_bright) := goodIn_app (goodIn_of _ (by decide +kernel)) ggX5_picture_X5_bright
set_option maxRecDepth 20000 in
theorem ggX5_picture_X5_covered : GoodIn wsX5_picture wsX5_covered := goodIn_r _ [28, 10, 11, 12, 4, 13, 6, 29, 30, 31, 32, 33, 34, 35, 36, 37, 38, 39, 40, 41, 42, 43, 44, 45, 46, 47] (by decide +kernel) (by decide +kernel)
set_option maxRecDepth 20000 in
theorem gX5_picture_X5_covered : GoodIn wsX5_picture (wsV RX5 74 RX5 yX5_covered wsX5_covered) := goodIn_app (goodIn_of _ (by decide +kernel)) ggX5_picture_X5_covered
theorem dX5_picture_0 : decode cX5_picture 0 = .ok (.aload_n 0, 1) := by decide +kernel
theorem dX5_picture_1 : decode cX5_picture 1 = .ok (.iload_n 1, 1) := by decide +kernel
theorem dX5_picture_2 : decode cX5_picture 2 = .ok (.invokevirtual 86, 3) := by decide +kernel
theorem dX5_picture_5 : decode cX5_picture 5 = .ok (.ifCond .eq 12, 3) := by decide +kernel
theorem dX5_picture_8 : decode cX5_picture 8 = .ok (.iload_n 2, 1) := by decide +kernel
theorem dX5_picture_9 : decode cX5_picture 9 = .ok (.iconst 0, 1) := by decide +kernel
theorem dX5_picture_10 : decode cX5_picture 10 = .ok (.iconst 5, 1) := by decide +kernel
theorem dX5_picture_11 : decode cX5_picture 11 = .ok (.invokestatic 56, 3) := by decide +kernel
theorem dX5_picture_14 : decode cX5_picture 14 = .ok (.ifCond .ne 6, 3) := by decide +kernel
theorem dX5_picture_17 : decode cX5_picture 17 = .ok (.bipush (-101), 2) := by decide +kernel
theorem dX5_picture_19 : decode cX5_picture 19 = .ok (.ireturn, 1) := by decide +kernel
theorem dX5_picture_20 : decode cX5_picture 20 = .ok (.iload_n 2, 1) := by decide +kernel
theorem dX5_picture_21 : decode cX5_picture 21 = .ok (.iconst 4, 1) := by decide +kernel
theorem dX5_picture_22 : decode cX5_picture 22 = .ok (.if_icmp .ge 12, 3) := by decide +kernel
theorem dX5_picture_25 : decode cX5_picture 25 = .ok (.aload_n 0, 1) := by decide +kernel
theorem dX5_picture_26 : decode cX5_picture 26 = .ok (.iload_n 1, 1) := by decide +kernel
theorem dX5_picture_27 : decode cX5_picture 27 = .ok (.iload_n 2, 1) := by decide +kernel
theorem dX5_picture_28 : decode cX5_picture 28 = .ok (.invokevirtual 64, 3) := by decide +kernel
theorem dX5_picture_31 : decode cX5_picture 31 = .ok (.goto 21, 3) := by decide +kernel
theorem dX5_picture_34 : decode cX5_picture 34 = .ok (.iload_n 2, 1) := by decide +kernel
theorem dX5_picture_35 : decode cX5_picture 35 = .ok (.iconst 4, 1) := by decide +kernel
theorem dX5_picture_36 : decode cX5_picture 36 = .ok (.if_icmp .ne 11, 3) := by decide +kernel
theorem dX5_picture_39 : decode cX5_picture 39 = .ok (.aload_n 0, 1) := by decide +kernel
theorem dX5_picture_40 : decode cX5_picture 40 = .ok (.iload_n 1, 1) := by decide +kernel
theorem dX5_picture_41 : decode cX5_picture 41 = .ok (.invokevirtual 177, 3) := by decide +kernel
theorem dX5_picture_44 : decode cX5_picture 44 = .ok (.goto 8, 3) := by decide +kernel
theorem dX5_picture_47 : decode cX5_picture 47 = .ok (.aload_n 0, 1) := by decide +kernel
theorem dX5_picture_48 : decode cX5_picture 48 = .ok (.iload_n 1, 1) := by decide +kernel
theorem dX5_picture_49 : decode cX5_picture 49 = .ok (.invokevirtual 74, 3) := by decide +kernel
theorem dX5_picture_52 : decode cX5_picture 52 = .ok (.ireturn, 1) := by decide +kernel
set_option maxRecDepth 20000 in
theorem ggX5_color_X5_isPicture : GoodIn wsX5_color wsX5_isPicture := goodIn_r _ [5, 6, 7, 8, 4, 9, 24, 25, 26, 27, 28, 29, 30, 31, 32, 33, 34, 35, 36, 37, 38, 39] (by decide +kernel) (by decide +kernel)
set_option maxRecDepth 20000 in
theorem gX5_color_X5_isPicture : GoodIn wsX5_color (wsV RX5 86 RX5 yX5_isPicture wsX5_isPicture) := goodIn_app (goodIn_of _ (by decide +kernel)) ggX5_color_X5_isPicture
set_option maxRecDepth 20000 in
theorem ggX5_color_X5_in : GoodIn wsX5_color wsX5_in := goodIn_r _ [9] (by decide +kernel) (by decide +kernel)
set_option maxRecDepth 20000 in
theorem gX5_color_X5_in : GoodIn wsX5_color (va_wsS RX5 56 yX5_in wsX5_in) := goodIn_app (goodIn_of _ (by decide +kernel)) ggX5_color_X5_in
set_option maxRecDepth 20000 in
theorem ggX5_color_X5_isLight : GoodIn wsX5_color wsX5_isLight := goodIn_r _ [12, 7, 8, 4, 9] (by decide +kernel) (by decide +kernel)
set_option maxRecDepth 20000 in
theorem gX5_color_X5_isLight : GoodIn wsX5_color (va_wsS RX5 90 yX5_isLight wsX5_isLight) := goodIn_app (goodIn_of _ (by decide +kernel)) ggX5_color_X5_isLight
set_option maxRecDepth 20000 in
theorem ggX5_color_X5_of : GoodIn wsX5_color wsX5_of := goodIn_r _ [16, 6, 24, 25, 26, 27, 28, 29, 30, 31, 32, 33, 34, 35, 36, 37, 38, 39] (by decide +kernel) (by decide +kernel)
set_option maxRecDepth 20000 in
theorem gX5_color_X5_of : GoodIn wsX5_color (wsV RX5 64 RX5 yX5_of wsX5_of) := goodIn_app (goodIn_of _ (by decide +kernel)) ggX5_color_X5_of
set_option maxRecDepth 20000 in
theorem ggX5_color_X5_colorOf : GoodIn wsX5_color wsX5_colorOf := goodIn_r _ [20, 6, 21, 22, 4, 23, 24, 25, 26, 27, 28, 29, 30, 31, 32, 33, 34, 35, 36, 37, 38, 39] (by decide +kernel) (by decide +kernel)
set_option maxRecDepth 20000 in
theorem gX5_color_X5_colorOf : GoodIn wsX5_color (wsV RX5 80 RX5 yX5_colorOf wsX5_colorOf) := goodIn_app (goodIn_of _ (by decide +kernel)) ggX5_color_X5_colorOf
theorem dX5_color_0 : decode cX5_color 0 = .ok (.aload_n 0, 1) := by decide +kernel
theorem dX5_color_1 : decode cX5_color 1 = .ok (.iload_n 1, 1) := by decide +kernel
theorem dX5_color_2 : decode cX5_color 2 = .ok (.invokevirtual 86, 3) := by decide +kernel
theorem dX5_color_5 : decode cX5_color 5 = .ok (.ifCond .eq 20, 3) := by decide +kernel
theorem dX5_color_8 : decode cX5_color 8 = .ok (.iload_n 2, 1) := by decide +kernel
theorem dX5_color_9 : decode cX5_color 9 = .ok (.iconst 0, 1) := by decide +kernel
theorem dX5_color_10 : decode cX5_color 10 = .ok (.bipush 39, 2) := by decide +kernel
theorem dX5_color_12 : decode cX5_color 12 = .ok (.invokestatic 56, 3) := by decide +kernel
theorem dX5_color_15 : decode cX5_color 15 = .ok (.ifCond .eq 10, 3) := by decide +kernel
theorem dX5_color_18 : decode cX5_color 18 = .ok (.iload_n 3, 1) := by decide +kernel
theorem dX5_color_19 : decode cX5_color 19 = .ok (.invokestatic 90, 3) := by decide +kernel
theorem dX5_color_22 : decode cX5_color 22 = .ok (.ifCond .ne 6, 3) := by decide +kernel
theorem dX5_color_25 : decode cX5_color 25 = .ok (.bipush (-101), 2) := by decide +kernel
theorem dX5_color_27 : decode cX5_color 27 = .ok (.ireturn, 1) := by decide +kernel
theorem dX5_color_28 : decode cX5_color 28 = .ok (.iload_n 2, 1) := by decide +kernel
theorem dX5_color_29 : decode cX5_color 29 = .ok (.aload_n 0, 1) := by decide +kernel
theorem dX5_color_30 : decode cX5_color 30 = .ok (.iload_n 1, 1) := by decide +kernel
theorem dX5_color_31 : decode cX5_color 31 = .ok (.iconst 0, 1) := by decide +kernel
theorem dX5_color_32 : decode cX5_color 32 = .ok (.invokevirtual 64, 3) := by decide +kernel
theorem dX5_color_35 : decode cX5_color 35 = .ok (.if_icmp .ge 13, 3) := by decide +kernel
theorem dX5_color_38 : decode cX5_color 38 = .ok (.aload_n 0, 1) := by decide +kernel
theorem dX5_color_39 : decode cX5_color 39 = .ok (.iload_n 1, 1) := by decide +kernel
theorem dX5_color_40 : decode cX5_color 40 = .ok (.iload_n 2, 1) := by decide +kernel
theorem dX5_color_41 : decode cX5_color 41 = .ok (.iload_n 3, 1) := by decide +kernel
theorem dX5_color_42 : decode cX5_color 42 = .ok (.invokevirtual 80, 3) := by decide +kernel
theorem dX5_color_45 : decode cX5_color 45 = .ok (.goto 5, 3) := by decide +kernel
theorem dX5_color_48 : decode cX5_color 48 = .ok (.bipush (-109), 2) := by decide +kernel
theorem dX5_color_50 : decode cX5_color 50 = .ok (.ireturn, 1) := by decide +kernel
set_option maxRecDepth 20000 in
theorem ggX5_broken_X5_in : GoodIn wsX5_broken wsX5_in := goodIn_r _ [4] (by decide +kernel) (by decide +kernel)
set_option maxRecDepth 20000 in
theorem gX5_broken_X5_in : GoodIn wsX5_broken (va_wsS RX5 56 yX5_in wsX5_in) := goodIn_app (goodIn_of _ (by decide +kernel)) ggX5_broken_X5_in
set_option maxRecDepth 20000 in
theorem ggX5_broken_X5_isLight : GoodIn wsX5_broken wsX5_isLight := goodIn_r _ [7, 1, 2, 3, 4] (by decide +kernel) (by decide +kernel)
set_option maxRecDepth 20000 in
theorem gX5_broken_X5_isLight : GoodIn wsX5_broken (va_wsS RX5 90 yX5_isLight wsX5_isLight) := goodIn_app (goodIn_of _ (by decide +kernel)) ggX5_broken_X5_isLight
set_option maxRecDepth 20000 in
theorem ggX5_broken_X5_isBroken : GoodIn wsX5_broken wsX5_isBroken := goodIn_r _ [11, 12, 13, 14, 15, 16, 17, 18, 19, 20, 21, 22, 23, 24, 25, 26, 27, 28] (by decide +kernel) (by decide +kernel)
set_option maxRecDepth 20000 in
theorem gX5_broken_X5_isBroken : GoodIn wsX5_broken (wsV RX5 136 RX5 yX5_isBroken wsX5_isBroken) := goodIn_app (goodIn_of _ (by decide +kernel)) ggX5_broken_X5_isBroken
theorem dX5_broken_0 : decode cX5_broken 0 = .ok (.iload_n 1, 1) := by decide +kernel
theorem dX5_broken_1 : decode cX5_broken 1 = .ok (.iconst 0, 1) := by decide +kernel
theorem dX5_broken_2 : decode cX5_broken 2 = .ok (.iconst 1, 1) := by decide +kernel
theorem dX5_broken_3 : decode cX5_broken 3 = .ok (.invokestatic 56, 3) := by decide +kernel
theorem dX5_broken_6 : decode cX5_broken 6 = .ok (.ifCond .eq 10, 3) := by decide +kernel
theorem dX5_broken_9 : decode cX5_broken 9 = .ok (.iload_n 2, 1) := by decide +kernel
theorem dX5_broken_10 : decode cX5_broken 10 = .ok (.invokestatic 90, 3) := by decide +kernel
theorem dX5_broken_13 : decode cX5_broken 13 = .ok (.ifCond .ne 6, 3) := by decide +kernel
theorem dX5_broken_16 : decode cX5_broken 16 = .ok (.bipush (-101), 2) := by decide +kernel
theorem dX5_broken_18 : decode cX5_broken 18 = .ok (.ireturn, 1) := by decide +kernel
theorem dX5_broken_19 : decode cX5_broken 19 = .ok (.aload_n 0, 1) := by decide +kernel
theorem dX5_broken_20 : decode cX5_broken 20 = .ok (.iload_n 1, 1) := by decide +kernel
theorem dX5_broken_21 : decode cX5_broken 21 = .ok (.iload_n 2, 1) := by decide +kernel
theorem dX5_broken_22 : decode cX5_broken 22 = .ok (.invokevirtual 136, 3) := by decide +kernel
theorem dX5_broken_25 : decode cX5_broken 25 = .ok (.ifCond .eq 7, 3) := by decide +kernel
theorem dX5_broken_28 : decode cX5_broken 28 = .ok (.iconst 1, 1) := by decide +kernel
theorem dX5_broken_29 : decode cX5_broken 29 = .ok (.goto 4, 3) := by decide +kernel
theorem dX5_broken_32 : decode cX5_broken 32 = .ok (.iconst 0, 1) := by decide +kernel
theorem dX5_broken_33 : decode cX5_broken 33 = .ok (.ireturn, 1) := by decide +kernel
set_option maxRecDepth 20000 in
theorem ggX5_place_X5_in : GoodIn wsX5_place wsX5_in := goodIn_r _ [4] (by decide +kernel) (by decide +kernel)
set_option maxRecDepth 20000 in
theorem gX5_place_X5_in : GoodIn wsX5_place (va_wsS RX5 56 yX5_in wsX5_in) := goodIn_app (goodIn_of _ (by decide +kernel)) ggX5_place_X5_in
set_option maxRecDepth 20000 in
theorem ggX5_place_X5_isLight : GoodIn wsX5_place wsX5_isLight := goodIn_r _ [7, 1, 2, 3, 4] (by decide +kernel) (by decide +kernel)
set_option maxRecDepth 20000 in
theorem gX5_place_X5_isLight : GoodIn wsX5_place (va_wsS RX5 90 yX5_isLight wsX5_isLight) := goodIn_app (goodIn_of _ (by decide +kernel)) ggX5_place_X5_isLight
set_option maxRecDepth 20000 in
theorem ggX5_place_X5_wanted : GoodIn wsX5_place wsX5_wanted := goodIn_r _ [11, 12, 13, 14, 15, 3, 16, 17, 18, 19, 20, 21, 22, 23, 24, 25, 26, 27, 28, 29, 30, 31, 32, 33, 34, 35, 36, 37, 47, 48, 49, 50, 51, 52, 53, 54, 55, 56, 57, 58, 59, 60, 61, 62] (by decide +kernel) (by decide +kernel)
set_option maxRecDepth 20000 in
theorem gX5_place_X5_wanted : GoodIn wsX5_place (wsV RX5 143 RX5 yX5_wanted wsX5_wanted) := goodIn_app (goodIn_of _ (by decide +kernel)) ggX5_place_X5_wanted
set_option maxRecDepth 20000 in
theorem ggX5_place_X5_lit : GoodIn wsX5_place wsX5_lit := goodIn_r _ [41, 42, 12, 43, 44, 45, 3, 46, 47, 48, 49, 50, 51, 52, 53, 54, 55, 56, 57, 58, 59, 60, 61, 62] (by decide +kernel) (by decide +kernel)
set_option maxRecDepth 20000 in
theorem gX5_place_X5_lit : GoodIn wsX5_place (wsV RX5 167 RX5 yX5_lit wsX5_lit) := goodIn_app (goodIn_of _ (by decide +kernel)) ggX5_place_X5_lit
set_option maxRecDepth 20000 in
theorem ggX5_place_X5_ago : GoodIn wsX5_place wsX5_ago := goodIn_r _ [46, 42, 12, 47, 48, 49, 50, 51, 52, 53, 54, 55, 56, 57, 58, 59, 60, 61, 62] (by decide +kernel) (by decide +kernel)
set_option maxRecDepth 20000 in
theorem gX5_place_X5_ago : GoodIn wsX5_place (wsV RX5 164 RX5 yX5_ago wsX5_ago) := goodIn_app (goodIn_of _ (by decide +kernel)) ggX5_place_X5_ago
theorem dX5_place_0 : decode cX5_place 0 = .ok (.iload_n 1, 1) := by decide +kernel
theorem dX5_place_1 : decode cX5_place 1 = .ok (.iconst 0, 1) := by decide +kernel
theorem dX5_place_2 : decode cX5_place 2 = .ok (.sipush 719, 3) := by decide +kernel
theorem dX5_place_5 : decode cX5_place 5 = .ok (.invokestatic 56, 3) := by decide +kernel
theorem dX5_place_8 : decode cX5_place 8 = .ok (.ifCond .eq 19, 3) := by decide +kernel
theorem dX5_place_11 : decode cX5_place 11 = .ok (.iload_n 2, 1) := by decide +kernel
theorem dX5_place_12 : decode cX5_place 12 = .ok (.invokestatic 90, 3) := by decide +kernel
theorem dX5_place_15 : decode cX5_place 15 = .ok (.ifCond .eq 12, 3) := by decide +kernel
theorem dX5_place_18 : decode cX5_place 18 = .ok (.iload_n 3, 1) := by decide +kernel
theorem dX5_place_19 : decode cX5_place 19 = .ok (.iconst 0, 1) := by decide +kernel
theorem dX5_place_20 : decode cX5_place 20 = .ok (.iconst 2, 1) := by decide +kernel
theorem dX5_place_21 : decode cX5_place 21 = .ok (.invokestatic 56, 3) := by decide +kernel
theorem dX5_place_24 : decode cX5_place 24 = .ok (.ifCond .ne 6, 3) := by decide +kernel
theorem dX5_place_27 : decode cX5_place 27 = .ok (.bipush (-101), 2) := by decide +kernel
theorem dX5_place_29 : decode cX5_place 29 = .ok (.ireturn, 1) := by decide +kernel
theorem dX5_place_30 : decode cX5_place 30 = .ok (.bipush 12, 2) := by decide +kernel
theorem dX5_place_32 : decode cX5_place 32 = .ok (.iload_n 1, 1) := by decide +kernel
theorem dX5_place_33 : decode cX5_place 33 = .ok (.imul, 1) := by decide +kernel
theorem dX5_place_34 : decode cX5_place 34 = .ok (.iload_n 2, 1) := by decide +kernel
theorem dX5_place_35 : decode cX5_place 35 = .ok (.iadd, 1) := by decide +kernel
theorem dX5_place_36 : decode cX5_place 36 = .ok (.istore 4, 2) := by decide +kernel
theorem dX5_place_38 : decode cX5_place 38 = .ok (.iload_n 3, 1) := by decide +kernel
theorem dX5_place_39 : decode cX5_place 39 = .ok (.ifCond .ne 12, 3) := by decide +kernel
theorem dX5_place_42 : decode cX5_place 42 = .ok (.aload_n 0, 1) := by decide +kernel
theorem dX5_place_43 : decode cX5_place 43 = .ok (.iload_n 1, 1) := by decide +kernel
theorem dX5_place_44 : decode cX5_place 44 = .ok (.iload_n 2, 1) := by decide +kernel
theorem dX5_place_45 : decode cX5_place 45 = .ok (.invokevirtual 143, 3) := by decide +kernel
theorem dX5_place_48 : decode cX5_place 48 = .ok (.goto 23, 3) := by decide +kernel
theorem dX5_place_51 : decode cX5_place 51 = .ok (.iload_n 3, 1) := by decide +kernel
theorem dX5_place_52 : decode cX5_place 52 = .ok (.iconst 1, 1) := by decide +kernel
theorem dX5_place_53 : decode cX5_place 53 = .ok (.if_icmp .ne 12, 3) := by decide +kernel
theorem dX5_place_56 : decode cX5_place 56 = .ok (.aload_n 0, 1) := by decide +kernel
theorem dX5_place_57 : decode cX5_place 57 = .ok (.iload 4, 2) := by decide +kernel
theorem dX5_place_59 : decode cX5_place 59 = .ok (.invokevirtual 167, 3) := by decide +kernel
theorem dX5_place_62 : decode cX5_place 62 = .ok (.goto 9, 3) := by decide +kernel
theorem dX5_place_65 : decode cX5_place 65 = .ok (.aload_n 0, 1) := by decide +kernel
theorem dX5_place_66 : decode cX5_place 66 = .ok (.iload 4, 2) := by decide +kernel
theorem dX5_place_68 : decode cX5_place 68 = .ok (.invokevirtual 164, 3) := by decide +kernel
theorem dX5_place_71 : decode cX5_place 71 = .ok (.ireturn, 1) := by decide +kernel
set_option maxRecDepth 20000 in
theorem ggX5_columnAt_X5_isPicture : GoodIn wsX5_columnAt wsX5_isPicture := goodIn_r _ [5, 6, 7, 8, 4, 9, 28, 29, 30, 31, 32, 33, 34, 35, 36, 37, 38, 39, 40, 41, 42, 43] (by decide +kernel) (by decide +kernel)
set_option maxRecDepth 20000 in
theorem gX5_columnAt_X5_isPicture : GoodIn wsX5_columnAt (wsV RX5 86 RX5 yX5_isPicture wsX5_isPicture) := goodIn_app (goodIn_of _ (by decide +kernel)) ggX5_columnAt_X5_isPicture
set_option maxRecDepth 20000 in
theorem ggX5_columnAt_X5_in : GoodIn wsX5_columnAt wsX5_in := goodIn_r _ [9] (by decide +kernel) (by decide +kernel)
set_option maxRecDepth 20000 in
theorem gX5_columnAt_X5_in : GoodIn wsX5_columnAt (va_wsS RX5 56 yX5_in wsX5_in) := goodIn_app (goodIn_of _ (by decide +kernel)) ggX5_columnAt_X5_in
set_option maxRecDepth 20000 in
theorem ggX5_columnAt_X5_columnOf : GoodIn wsX5_columnAt wsX5_columnOf := goodIn_r _ [13, 14, 15, 16, 4, 17, 6, 18, 19, 20, 21, 22, 23, 24, 25, 26, 27, 28, 29, 30, 31, 32, 33, 34, 35, 36, 37, 38, 39, 40, 41, 42, 43] (by decide +kernel) (by decide +kernel)
set_option maxRecDepth 20000 in
theorem gX5_columnAt_X5_columnOf : GoodIn wsX5_columnAt (wsV RX5 77 RX5 yX5_columnOf wsX5_columnOf) := goodIn_app (goodIn_of _ (by decide +kernel)) ggX5_columnAt_X5_columnOf
theorem dX5_columnAt_0 : decode cX5_columnAt 0 = .ok (.aload_n 0, 1) := by decide +kernel
theorem dX5_columnAt_1 : decode cX5_columnAt 1 = .ok (.iload_n 1, 1) := by decide +kernel
theorem dX5_columnAt_2 : decode cX5_columnAt 2 = .ok (.invokevirtual 86, 3) := by decide +kernel
theorem dX5_columnAt_5 : decode cX5_columnAt 5 = .ok (.ifCond .eq 23, 3) := by decide +kernel
theorem dX5_columnAt_8 : decode cX5_columnAt 8 = .ok (.iload_n 2, 1) := by decide +kernel
theorem dX5_columnAt_9 : decode cX5_columnAt 9 = .ok (.iconst 0, 1) := by decide +kernel
theorem dX5_columnAt_10 : decode cX5_columnAt 10 = .ok (.sipush 719, 3) := by decide +kernel
theorem dX5_columnAt_13 : decode cX5_columnAt 13 = .ok (.invokestatic 56, 3) := by decide +kernel
theorem dX5_columnAt_16 : decode cX5_columnAt 16 = .ok (.ifCond .eq 12, 3) := by decide +kernel
theorem dX5_columnAt_19 : decode cX5_columnAt 19 = .ok (.aload_n 0, 1) := by decide +kernel
theorem dX5_columnAt_20 : decode cX5_columnAt 20 = .ok (.iload_n 1, 1) := by decide +kernel
theorem dX5_columnAt_21 : decode cX5_columnAt 21 = .ok (.iload_n 2, 1) := by decide +kernel
theorem dX5_columnAt_22 : decode cX5_columnAt 22 = .ok (.invokevirtual 77, 3) := by decide +kernel
theorem dX5_columnAt_25 : decode cX5_columnAt 25 = .ok (.goto 5, 3) := by decide +kernel
theorem dX5_columnAt_28 : decode cX5_columnAt 28 = .ok (.bipush (-101), 2) := by decide +kernel
theorem dX5_columnAt_30 : decode cX5_columnAt 30 = .ok (.ireturn, 1) := by decide +kernel
set_option maxRecDepth 20000 in
theorem ggX5_ticksAround_X5_setAside : GoodIn wsX5_ticksAround wsX5_setAside := goodIn_r _ [6, 7, 1, 8, 9, 67, 68, 69, 70, 71, 72, 73, 74, 75, 76, 77, 78, 79, 80, 81, 82] (by decide +kernel) (by decide +kernel)
set_option maxRecDepth 20000 in
theorem gX5_ticksAround_X5_setAside : GoodIn wsX5_ticksAround (wsV RX5 180 RX5 yX5_setAside wsX5_setAside) := goodIn_app (goodIn_of _ (by decide +kernel)) ggX5_ticksAround_X5_setAside
set_option maxRecDepth 20000 in
theorem ggX5_ticksAround_X5_layWants : GoodIn wsX5_ticksAround wsX5_layWants := goodIn_r _ [13, 14, 15, 16, 17, 5, 18, 1, 19, 20, 21, 22, 23, 24, 25, 26, 27, 28, 29, 30, 31, 32, 33, 34, 35, 36, 37, 38, 39, 40, 41, 42, 43, 67, 68, 69, 70, 71, 72, 73, 74, 75, 76, 77, 78, 79, 80, 81, 82] (by decide +kernel) (by decide +kernel)
set_option maxRecDepth 20000 in
theorem gX5_ticksAround_X5_layWants : GoodIn wsX5_ticksAround (wsV RX5 158 RX5 yX5_layWants wsX5_layWants) := goodIn_app (goodIn_of _ (by decide +kernel)) ggX5_ticksAround_X5_layWants
set_option maxRecDepth 20000 in
theorem ggX5_ticksAround_X5_tick : GoodIn wsX5_ticksAround wsX5_tick := goodIn_r _ [47, 1, 48, 49, 50, 5, 51, 52, 53, 54, 27, 28, 29, 55, 56, 57, 58, 14, 9, 59, 60, 61, 62, 67, 68, 69, 70, 71, 72, 73, 74, 75, 76, 77, 78, 79, 80, 81, 82] (by decide +kernel) (by decide +kernel)
set_option maxRecDepth 20000 in
theorem gX5_ticksAround_X5_tick : GoodIn wsX5_ticksAround (wsV RX5 155 RX5 yX5_tick wsX5_tick) := goodIn_app (goodIn_of _ (by decide +kernel)) ggX5_ticksAround_X5_tick
set_option maxRecDepth 20000 in
theorem ggX5_ticksAround_X5_size : GoodIn wsX5_ticksAround wsX5_size := goodIn_r _ [54] (by decide +kernel) (by decide +kernel)
set_option maxRecDepth 20000 in
theorem gX5_ticksAround_X5_size : GoodIn wsX5_ticksAround (va_wsS RX5 149 yX5_size wsX5_size) := goodIn_app (goodIn_of _ (by decide +kernel)) ggX5_ticksAround_X5_size
set_option maxRecDepth 20000 in
theorem ggX5_ticksAround_X5_bringBack : GoodIn wsX5_ticksAround wsX5_bringBack := goodIn_r _ [66, 1, 7, 9, 8, 67, 68, 69, 70, 71, 72, 73, 74, 75, 76, 77, 78, 79, 80, 81, 82] (by decide +kernel) (by decide +kernel)
set_option maxRecDepth 20000 in
theorem gX5_ticksAround_X5_bringBack : GoodIn wsX5_ticksAround (wsV RX5 183 RX5 yX5_bringBack wsX5_bringBack) := goodIn_app (goodIn_of _ (by decide +kernel)) ggX5_ticksAround_X5_bringBack
theorem dX5_ticksAround_0 : decode cX5_ticksAround 0 = .ok (.aload_n 0, 1) := by decide +kernel
theorem dX5_ticksAround_1 : decode cX5_ticksAround 1 = .ok (.invokevirtual 180, 3) := by decide +kernel
theorem dX5_ticksAround_4 : decode cX5_ticksAround 4 = .ok (.aload_n 0, 1) := by decide +kernel
theorem dX5_ticksAround_5 : decode cX5_ticksAround 5 = .ok (.invokevirtual 158, 3) := by decide +kernel
theorem dX5_ticksAround_8 : decode cX5_ticksAround 8 = .ok (.iconst 0, 1) := by decide +kernel
theorem dX5_ticksAround_9 : decode cX5_ticksAround 9 = .ok (.istore_n 1, 1) := by decide +kernel
theorem dX5_ticksAround_10 : decode cX5_ticksAround 10 = .ok (.iconst 0, 1) := by decide +kernel
theorem dX5_ticksAround_11 : decode cX5_ticksAround 11 = .ok (.istore_n 2, 1) := by decide +kernel
theorem dX5_ticksAround_12 : decode cX5_ticksAround 12 = .ok (.iload_n 1, 1) := by decide +kernel
theorem dX5_ticksAround_13 : decode cX5_ticksAround 13 = .ok (.sipush 720, 3) := by decide +kernel
theorem dX5_ticksAround_16 : decode cX5_ticksAround 16 = .ok (.if_icmp .ge 32, 3) := by decide +kernel
theorem dX5_ticksAround_19 : decode cX5_ticksAround 19 = .ok (.iload_n 2, 1) := by decide +kernel
theorem dX5_ticksAround_20 : decode cX5_ticksAround 20 = .ok (.sipush 500, 3) := by decide +kernel
theorem dX5_ticksAround_23 : decode cX5_ticksAround 23 = .ok (.if_icmp .ge 25, 3) := by decide +kernel
theorem dX5_ticksAround_26 : decode cX5_ticksAround 26 = .ok (.aload_n 0, 1) := by decide +kernel
theorem dX5_ticksAround_27 : decode cX5_ticksAround 27 = .ok (.invokevirtual 155, 3) := by decide +kernel
theorem dX5_ticksAround_30 : decode cX5_ticksAround 30 = .ok (.iload_n 1, 1) := by decide +kernel
theorem dX5_ticksAround_31 : decode cX5_ticksAround 31 = .ok (.aload_n 0, 1) := by decide +kernel
theorem dX5_ticksAround_32 : decode cX5_ticksAround 32 = .ok (.getfield 7, 3) := by decide +kernel
theorem dX5_ticksAround_35 : decode cX5_ticksAround 35 = .ok (.iconst 5, 1) := by decide +kernel
theorem dX5_ticksAround_36 : decode cX5_ticksAround 36 = .ok (.iaload, 1) := by decide +kernel
theorem dX5_ticksAround_37 : decode cX5_ticksAround 37 = .ok (.invokestatic 149, 3) := by decide +kernel
theorem dX5_ticksAround_40 : decode cX5_ticksAround 40 = .ok (.iadd, 1) := by decide +kernel
theorem dX5_ticksAround_41 : decode cX5_ticksAround 41 = .ok (.istore_n 1, 1) := by decide +kernel
theorem dX5_ticksAround_42 : decode cX5_ticksAround 42 = .ok (.iinc 2 1, 3) := by decide +kernel
theorem dX5_ticksAround_45 : decode cX5_ticksAround 45 = .ok (.goto (-33), 3) := by decide +kernel
theorem dX5_ticksAround_48 : decode cX5_ticksAround 48 = .ok (.aload_n 0, 1) := by decide +kernel
theorem dX5_ticksAround_49 : decode cX5_ticksAround 49 = .ok (.invokevirtual 183, 3) := by decide +kernel
theorem dX5_ticksAround_52 : decode cX5_ticksAround 52 = .ok (.iload_n 1, 1) := by decide +kernel
theorem dX5_ticksAround_53 : decode cX5_ticksAround 53 = .ok (.sipush 720, 3) := by decide +kernel
theorem dX5_ticksAround_56 : decode cX5_ticksAround 56 = .ok (.if_icmp .ge 8, 3) := by decide +kernel
theorem dX5_ticksAround_59 : decode cX5_ticksAround 59 = .ok (.bipush (-109), 2) := by decide +kernel
theorem dX5_ticksAround_61 : decode cX5_ticksAround 61 = .ok (.goto 4, 3) := by decide +kernel
theorem dX5_ticksAround_64 : decode cX5_ticksAround 64 = .ok (.iload_n 2, 1) := by decide +kernel
theorem dX5_ticksAround_65 : decode cX5_ticksAround 65 = .ok (.ireturn, 1) := by decide +kernel
set_option maxRecDepth 20000 in
theorem ggX5_isCovered_X5_of : GoodIn wsX5_isCovered wsX5_of := goodIn_r _ [6, 1, 21, 22, 23, 24, 25, 26, 27, 28, 29, 30, 31, 32, 33, 34, 35, 36] (by decide +kernel) (by decide +kernel)
set_option maxRecDepth 20000 in
theorem gX5_isCovered_X5_of : GoodIn wsX5_isCovered (wsV RX5 64 RX5 yX5_of wsX5_of) := goodIn_app (goodIn_of _ (by decide +kernel)) ggX5_isCovered_X5_of
set_option maxRecDepth 20000 in
theorem ggX5_isCovered_X5_columnOf : GoodIn wsX5_isCovered wsX5_columnOf := goodIn_r _ [10, 2, 3, 4, 5, 6, 1, 11, 12, 13, 14, 15, 16, 17, 18, 19, 20, 21, 22, 23, 24, 25, 26, 27, 28, 29, 30, 31, 32, 33, 34, 35, 36] (by decide +kernel) (by decide +kernel)
set_option maxRecDepth 20000 in
theorem gX5_isCovered_X5_columnOf : GoodIn wsX5_isCovered (wsV RX5 77 RX5 yX5_columnOf wsX5_columnOf) := goodIn_app (goodIn_of _ (by decide +kernel)) ggX5_isCovered_X5_columnOf
theorem dX5_isCovered_0 : decode cX5_isCovered 0 = .ok (.iconst 0, 1) := by decide +kernel
theorem dX5_isCovered_1 : decode cX5_isCovered 1 = .ok (.istore_n 2, 1) := by decide +kernel

theorem dX5_addPicture_72 : decode cX5_addPicture 72 = .ok (.imul, 1) := by decide +kernel
theorem dX5_addPicture_73 : decode cX5_addPicture 73 = .ok (.iadd, 1) := by decide +kernel
theorem dX5_addPicture_74 : decode cX5_addPicture 74 = .ok (.iconst 1, 1) := by decide +kernel
theorem dX5_addPicture_75 : decode cX5_addPicture 75 = .ok (.iadd, 1) := by decide +kernel
theorem dX5_addPicture_76 : decode cX5_addPicture 76 = .ok (.iconst 0, 1) := by decide +kernel
theorem dX5_addPicture_77 : decode cX5_addPicture 77 = .ok (.iastore, 1) := by decide +kernel
theorem dX5_addPicture_78 : decode cX5_addPicture 78 = .ok (.aload_n 0, 1) := by decide +kernel
theorem dX5_addPicture_79 : decode cX5_addPicture 79 = .ok (.getfield 7, 3) := by decide +kernel
theorem dX5_addPicture_82 : decode cX5_addPicture 82 = .ok (.bipush 12, 2) := by decide +kernel
theorem dX5_addPicture_84 : decode cX5_addPicture 84 = .ok (.iconst 4, 1) := by decide +kernel
theorem dX5_addPicture_85 : decode cX5_addPicture 85 = .ok (.iload_n 2, 1) := by decide +kernel
theorem dX5_addPicture_86 : decode cX5_addPicture 86 = .ok (.imul, 1) := by decide +kernel
theorem dX5_addPicture_87 : decode cX5_addPicture 87 = .ok (.iadd, 1) := by decide +kernel
theorem dX5_addPicture_88 : decode cX5_addPicture 88 = .ok (.iconst 2, 1) := by decide +kernel
theorem dX5_addPicture_89 : decode cX5_addPicture 89 = .ok (.iadd, 1) := by decide +kernel
theorem dX5_addPicture_90 : decode cX5_addPicture 90 = .ok (.bipush 6, 2) := by decide +kernel
theorem dX5_addPicture_92 : decode cX5_addPicture 92 = .ok (.iastore, 1) := by decide +kernel
theorem dX5_addPicture_93 : decode cX5_addPicture 93 = .ok (.aload_n 0, 1) := by decide +kernel
theorem dX5_addPicture_94 : decode cX5_addPicture 94 = .ok (.getfield 7, 3) := by decide +kernel
theorem dX5_addPicture_97 : decode cX5_addPicture 97 = .ok (.bipush 12, 2) := by decide +kernel
theorem dX5_addPicture_99 : decode cX5_addPicture 99 = .ok (.iconst 4, 1) := by decide +kernel
theorem dX5_addPicture_100 : decode cX5_addPicture 100 = .ok (.iload_n 2, 1) := by decide +kernel
theorem dX5_addPicture_101 : decode cX5_addPicture 101 = .ok (.imul, 1) := by decide +kernel
theorem dX5_addPicture_102 : decode cX5_addPicture 102 = .ok (.iadd, 1) := by decide +kernel
theorem dX5_addPicture_103 : decode cX5_addPicture 103 = .ok (.iconst 3, 1) := by decide +kernel
theorem dX5_addPicture_104 : decode cX5_addPicture 104 = .ok (.iadd, 1) := by decide +kernel
theorem dX5_addPicture_105 : decode cX5_addPicture 105 = .ok (.iconst 0, 1) := by decide +kernel
theorem dX5_addPicture_106 : decode cX5_addPicture 106 = .ok (.iastore, 1) := by decide +kernel
theorem dX5_addPicture_107 : decode cX5_addPicture 107 = .ok (.iconst 0, 1) := by decide +kernel
theorem dX5_addPicture_108 : decode cX5_addPicture 108 = .ok (.istore_n 3, 1) := by decide +kernel
theorem dX5_addPicture_109 : decode cX5_addPicture 109 = .ok (.iload_n 3, 1) := by decide +kernel
theorem dX5_addPicture_110 : decode cX5_addPicture 110 = .ok (.bipush 80, 2) := by decide +kernel
theorem dX5_addPicture_112 : decode cX5_addPicture 112 = .ok (.if_icmp .ge 24, 3) := by decide +kernel
theorem dX5_addPicture_115 : decode cX5_addPicture 115 = .ok (.aload_n 0, 1) := by decide +kernel
theorem dX5_addPicture_116 : decode cX5_addPicture 116 = .ok (.getfield 7, 3) := by decide +kernel
theorem dX5_addPicture_119 : decode cX5_addPicture 119 = .ok (.bipush 28, 2) := by decide +kernel
theorem dX5_addPicture_121 : decode cX5_addPicture 121 = .ok (.bipush 80, 2) := by decide +kernel
theorem dX5_addPicture_123 : decode cX5_addPicture 123 = .ok (.iload_n 2, 1) := by decide +kernel
theorem dX5_addPicture_124 : decode cX5_addPicture 124 = .ok (.imul, 1) := by decide +kernel
theorem dX5_addPicture_125 : decode cX5_addPicture 125 = .ok (.iadd, 1) := by decide +kernel
theorem dX5_addPicture_126 : decode cX5_addPicture 126 = .ok (.iload_n 3, 1) := by decide +kernel
theorem dX5_addPicture_127 : decode cX5_addPicture 127 = .ok (.iadd, 1) := by decide +kernel
theorem dX5_addPicture_128 : decode cX5_addPicture 128 = .ok (.iconst 0, 1) := by decide +kernel
theorem dX5_addPicture_129 : decode cX5_addPicture 129 = .ok (.iastore, 1) := by decide +kernel
theorem dX5_addPicture_130 : decode cX5_addPicture 130 = .ok (.iinc 3 1, 3) := by decide +kernel
theorem dX5_addPicture_133 : decode cX5_addPicture 133 = .ok (.goto (-24), 3) := by decide +kernel
theorem dX5_addPicture_136 : decode cX5_addPicture 136 = .ok (.iload_n 2, 1) := by decide +kernel
theorem dX5_addPicture_137 : decode cX5_addPicture 137 = .ok (.ireturn, 1) := by decide +kernel
set_option maxRecDepth 20000 in
theorem ggX5_paint_X5_isPicture : GoodIn wsX5_paint wsX5_isPicture := goodIn_r _ [5, 6, 7, 8, 4, 9, 41, 42, 43, 44, 45, 46, 47, 48, 49, 50, 51, 52, 53, 54, 55, 56] (by decide +kernel) (by decide +kernel)
set_option maxRecDepth 20000 in
theorem gX5_paint_X5_isPicture : GoodIn wsX5_paint (wsV RX5 86 RX5 yX5_isPicture wsX5_isPicture) := goodIn_app (goodIn_of _ (by decide +kernel)) ggX5_paint_X5_isPicture
set_option maxRecDepth 20000 in
theorem ggX5_paint_X5_of : GoodIn wsX5_paint wsX5_of := goodIn_r _ [13, 6, 41, 42, 43, 44, 45, 46, 47, 48, 49, 50, 51, 52, 53, 54, 55, 56] (by decide +kernel) (by decide +kernel)
set_option maxRecDepth 20000 in
theorem gX5_paint_X5_of : GoodIn wsX5_paint (wsV RX5 64 RX5 yX5_of wsX5_of) := goodIn_app (goodIn_of _ (by decide +kernel)) ggX5_paint_X5_of
set_option maxRecDepth 20000 in
theorem ggX5_paint_X5_in : GoodIn wsX5_paint wsX5_in := goodIn_r _ [9] (by decide +kernel) (by decide +kernel)
set_option maxRecDepth 20000 in
theorem gX5_paint_X5_in : GoodIn wsX5_paint (va_wsS RX5 56 yX5_in wsX5_in) := goodIn_app (goodIn_of _ (by decide +kernel)) ggX5_paint_X5_in
set_option maxRecDepth 20000 in
theorem ggX5_paint_X5_isLight : GoodIn wsX5_paint wsX5_isLight := goodIn_r _ [16, 7, 8, 4, 9] (by decide +kernel) (by decide +kernel)
set_option maxRecDepth 20000 in
theorem gX5_paint_X5_isLight : GoodIn wsX5_paint (va_wsS RX5 90 yX5_isLight wsX5_isLight) := goodIn_app (goodIn_of _ (by decide +kernel)) ggX5_paint_X5_isLight
set_option maxRecDepth 20000 in
theorem ggX5_paint_X5_record : GoodIn wsX5_paint wsX5_record := goodIn_r _ [20, 21, 22, 6, 23, 24, 25, 26, 4, 27, 28, 29, 41, 42, 43, 44, 45, 46, 47, 48, 49, 50, 51, 52, 53, 54, 55, 56] (by decide +kernel) (by decide +kernel)
set_option maxRecDepth 20000 in
theorem gX5_paint_X5_record : GoodIn wsX5_paint (wsV RX5 83 RX5 yX5_record wsX5_record) := goodIn_app (goodIn_of _ (by decide +kernel)) ggX5_paint_X5_record
set_option maxRecDepth 20000 in
theorem ggX5_paint_X5_colorOf : GoodIn wsX5_paint wsX5_colorOf := goodIn_r _ [33, 6, 34, 35, 4, 36, 41, 42, 43, 44, 45, 46, 47, 48, 49, 50, 51, 52, 53, 54, 55, 56] (by decide +kernel) (by decide +kernel)
set_option maxRecDepth 20000 in
theorem gX5_paint_X5_colorOf : GoodIn wsX5_paint (wsV RX5 80 RX5 yX5_colorOf wsX5_colorOf) := goodIn_app (goodIn_of _ (by decide +kernel)) ggX5_paint_X5_colorOf
set_option maxRecDepth 20000 in
theorem ggX5_paint_X5_putColor : GoodIn wsX5_paint wsX5_putColor := goodIn_r _ [40, 6, 34, 35, 4, 36, 41, 42, 43, 44, 45, 46, 47, 48, 49, 50, 51, 52, 53, 54, 55, 56] (by decide +kernel) (by decide +kernel)
set_option maxRecDepth 20000 in
theorem gX5_paint_X5_putColor : GoodIn wsX5_paint (wsV RX5 93 RX5 yX5_putColor wsX5_putColor) := goodIn_app (goodIn_of _ (by decide +kernel)) ggX5_paint_X5_putColor
theorem dX5_paint_0 : decode cX5_paint 0 = .ok (.aload_n 0, 1) := by decide +kernel
theorem dX5_paint_1 : decode cX5_paint 1 = .ok (.iload_n 1, 1) := by decide +kernel
theorem dX5_paint_2 : decode cX5_paint 2 = .ok (.invokevirtual 86, 3) := by decide +kernel
theorem dX5_paint_5 : decode cX5_paint 5 = .ok (.ifCond .eq 37, 3) := by decide +kernel
theorem dX5_paint_8 : decode cX5_paint 8 = .ok (.iload_n 2, 1) := by decide +kernel
theorem dX5_paint_9 : decode cX5_paint 9 = .ok (.iconst 0, 1) := by decide +kernel
theorem dX5_paint_10 : decode cX5_paint 10 = .ok (.aload_n 0, 1) := by decide +kernel
theorem dX5_paint_11 : decode cX5_paint 11 = .ok (.iload_n 1, 1) := by decide +kernel
theorem dX5_paint_12 : decode cX5_paint 12 = .ok (.iconst 0, 1) := by decide +kernel
theorem dX5_paint_13 : decode cX5_paint 13 = .ok (.invokevirtual 64, 3) := by decide +kernel
theorem dX5_paint_16 : decode cX5_paint 16 = .ok (.iconst 1, 1) := by decide +kernel
theorem dX5_paint_17 : decode cX5_paint 17 = .ok (.isub, 1) := by decide +kernel
theorem dX5_paint_18 : decode cX5_paint 18 = .ok (.invokestatic 56, 3) := by decide +kernel
theorem dX5_paint_21 : decode cX5_paint 21 = .ok (.ifCond .eq 21, 3) := by decide +kernel
theorem dX5_paint_24 : decode cX5_paint 24 = .ok (.iload_n 3, 1) := by decide +kernel
theorem dX5_paint_25 : decode cX5_paint 25 = .ok (.invokestatic 90, 3) := by decide +kernel
theorem dX5_paint_28 : decode cX5_paint 28 = .ok (.ifCond .eq 14, 3) := by decide +kernel
theorem dX5_paint_31 : decode cX5_paint 31 = .ok (.iload 4, 2) := by decide +kernel
theorem dX5_paint_33 : decode cX5_paint 33 = .ok (.iconst 0, 1) := by decide +kernel
theorem dX5_paint_34 : decode cX5_paint 34 = .ok (.bipush 7, 2) := by decide +kernel
theorem dX5_paint_36 : decode cX5_paint 36 = .ok (.invokestatic 56, 3) := by decide +kernel
theorem dX5_paint_39 : decode cX5_paint 39 = .ok (.ifCond .ne 6, 3) := by decide +kernel
theorem dX5_paint_42 : decode cX5_paint 42 = .ok (.bipush (-101), 2) := by decide +kernel
theorem dX5_paint_44 : decode cX5_paint 44 = .ok (.ireturn, 1) := by decide +kernel
theorem dX5_paint_45 : decode cX5_paint 45 = .ok (.aload_n 0, 1) := by decide +kernel
theorem dX5_paint_46 : decode cX5_paint 46 = .ok (.invokevirtual 83, 3) := by decide +kernel
theorem dX5_paint_49 : decode cX5_paint 49 = .ok (.aload_n 0, 1) := by decide +kernel
theorem dX5_paint_50 : decode cX5_paint 50 = .ok (.iload_n 1, 1) := by decide +kernel
theorem dX5_paint_51 : decode cX5_paint 51 = .ok (.iload_n 2, 1) := by decide +kernel
theorem dX5_paint_52 : decode cX5_paint 52 = .ok (.iload_n 3, 1) := by decide +kernel
theorem dX5_paint_53 : decode cX5_paint 53 = .ok (.invokevirtual 80, 3) := by decide +kernel
theorem dX5_paint_56 : decode cX5_paint 56 = .ok (.istore 5, 2) := by decide +kernel
theorem dX5_paint_58 : decode cX5_paint 58 = .ok (.aload_n 0, 1) := by decide +kernel
theorem dX5_paint_59 : decode cX5_paint 59 = .ok (.iload_n 1, 1) := by decide +kernel
theorem dX5_paint_60 : decode cX5_paint 60 = .ok (.iload_n 2, 1) := by decide +kernel
theorem dX5_paint_61 : decode cX5_paint 61 = .ok (.iload_n 3, 1) := by decide +kernel
theorem dX5_paint_62 : decode cX5_paint 62 = .ok (.iload 4, 2) := by decide +kernel
theorem dX5_paint_64 : decode cX5_paint 64 = .ok (.invokevirtual 93, 3) := by decide +kernel
theorem dX5_paint_67 : decode cX5_paint 67 = .ok (.iload 5, 2) := by decide +kernel
theorem dX5_paint_69 : decode cX5_paint 69 = .ok (.ireturn, 1) := by decide +kernel
set_option maxRecDepth 20000 in
theorem ggX5_setPlace_X5_isPicture : GoodIn wsX5_setPlace wsX5_isPicture := goodIn_r _ [6, 1, 7, 8, 5, 9, 27, 28, 29, 30, 31, 32, 33, 34, 35, 36, 37, 38, 39, 40, 41, 42] (by decide +kernel) (by decide +kernel)
set_option maxRecDepth 20000 in
theorem gX5_setPlace_X5_isPicture : GoodIn wsX5_setPlace (wsV RX5 86 RX5 yX5_isPicture wsX5_isPicture) := goodIn_app (goodIn_of _ (by decide +kernel)) ggX5_setPlace_X5_isPicture
set_option maxRecDepth 20000 in
theorem ggX5_setPlace_X5_in : GoodIn wsX5_setPlace wsX5_in := goodIn_r _ [9] (by decide +kernel) (by decide +kernel)
set_option maxRecDepth 20000 in
theorem gX5_setPlace_X5_in : GoodIn wsX5_setPlace (va_wsS RX5 56 yX5_in wsX5_in) := goodIn_app (goodIn_of _ (by decide +kernel)) ggX5_setPlace_X5_in
set_option maxRecDepth 20000 in
theorem ggX5_setPlace_X5_record : GoodIn wsX5_setPlace wsX5_record := goodIn_r _ [13, 14, 15, 1, 16, 17, 18, 19, 5, 20, 21, 22, 27, 28, 29, 30, 31, 32, 33, 34, 35, 36, 37, 38, 39, 40, 41, 42] (by decide +kernel) (by decide +kernel)
set_option maxRecDepth 20000 in
theorem gX5_setPlace_X5_record : GoodIn wsX5_setPlace (wsV RX5 83 RX5 yX5_record wsX5_record) := goodIn_app (goodIn_of _ (by decide +kernel)) ggX5_setPlace_X5_record
set_option maxRecDepth 20000 in
theorem ggX5_setPlace_X5_of : GoodIn wsX5_setPlace wsX5_of := goodIn_r _ [26, 1, 27, 28, 29, 30, 31, 32, 33, 34, 35, 36, 37, 38, 39, 40, 41, 42] (by decide +kernel) (by decide +kernel)
set_option maxRecDepth 20000 in
theorem gX5_setPlace_X5_of : GoodIn wsX5_setPlace (wsV RX5 64 RX5 yX5_of wsX5_of) := goodIn_app (goodIn_of _ (by decide +kernel)) ggX5_setPlace_X5_of
theorem dX5_setPlace_0 : decode cX5_setPlace 0 = .ok (.aload_n 0, 1) := by decide +kernel
theorem dX5_setPlace_1 : decode cX5_setPlace 1 = .ok (.iload_n 1, 1) := by decide +kernel
theorem dX5_setPlace_2 : decode cX5_setPlace 2 = .ok (.invokevirtual 86, 3) := by decide +kernel
theorem dX5_setPlace_5 : decode cX5_setPlace 5 = .ok (.ifCond .eq 24, 3) := by decide +kernel
theorem dX5_setPlace_8 : decode cX5_setPlace 8 = .ok (.iload_n 2, 1) := by decide +kernel
theorem dX5_setPlace_9 : decode cX5_setPlace 9 = .ok (.iconst 0, 1) := by decide +kernel
theorem dX5_setPlace_10 : decode cX5_setPlace 10 = .ok (.sipush 719, 3) := by decide +kernel
theorem dX5_setPlace_13 : decode cX5_setPlace 13 = .ok (.invokestatic 56, 3) := by decide +kernel
theorem dX5_setPlace_16 : decode cX5_setPlace 16 = .ok (.ifCond .eq 13, 3) := by decide +kernel
theorem dX5_setPlace_19 : decode cX5_setPlace 19 = .ok (.iload_n 3, 1) := by decide +kernel
theorem dX5_setPlace_20 : decode cX5_setPlace 20 = .ok (.iconst 1, 1) := by decide +kernel
theorem dX5_setPlace_21 : decode cX5_setPlace 21 = .ok (.bipush 18, 2) := by decide +kernel
theorem dX5_setPlace_23 : decode cX5_setPlace 23 = .ok (.invokestatic 56, 3) := by decide +kernel
theorem dX5_setPlace_26 : decode cX5_setPlace 26 = .ok (.ifCond .ne 6, 3) := by decide +kernel
theorem dX5_setPlace_29 : decode cX5_setPlace 29 = .ok (.bipush (-101), 2) := by decide +kernel
theorem dX5_setPlace_31 : decode cX5_setPlace 31 = .ok (.ireturn, 1) := by decide +kernel
theorem dX5_setPlace_32 : decode cX5_setPlace 32 = .ok (.aload_n 0, 1) := by decide +kernel
theorem dX5_setPlace_33 : decode cX5_setPlace 33 = .ok (.invokevirtual 83, 3) := by decide +kernel
theorem dX5_setPlace_36 : decode cX5_setPlace 36 = .ok (.aload_n 0, 1) := by decide +kernel
theorem dX5_setPlace_37 : decode cX5_setPlace 37 = .ok (.iload_n 1, 1) := by decide +kernel
theorem dX5_setPlace_38 : decode cX5_setPlace 38 = .ok (.iconst 1, 1) := by decide +kernel
theorem dX5_setPlace_39 : decode cX5_setPlace 39 = .ok (.invokevirtual 64, 3) := by decide +kernel
theorem dX5_setPlace_42 : decode cX5_setPlace 42 = .ok (.istore 4, 2) := by decide +kernel
theorem dX5_setPlace_44 : decode cX5_setPlace 44 = .ok (.aload_n 0, 1) := by decide +kernel
theorem dX5_setPlace_45 : decode cX5_setPlace 45 = .ok (.getfield 7, 3) := by decide +kernel
theorem dX5_setPlace_48 : decode cX5_setPlace 48 = .ok (.bipush 12, 2) := by decide +kernel
theorem dX5_setPlace_50 : decode cX5_setPlace 50 = .ok (.iconst 4, 1) := by decide +kernel
theorem dX5_setPlace_51 : decode cX5_setPlace 51 = .ok (.iload_n 1, 1) := by decide +kernel
theorem dX5_setPlace_52 : decode cX5_setPlace 52 = .ok (.imul, 1) := by decide +kernel
theorem dX5_setPlace_53 : decode cX5_setPlace 53 = .ok (.iadd, 1) := by decide +kernel
theorem dX5_setPlace_54 : decode cX5_setPlace 54 = .ok (.iconst 1, 1) := by decide +kernel
theorem dX5_setPlace_55 : decode cX5_setPlace 55 = .ok (.iadd, 1) := by decide +kernel
theorem dX5_setPlace_56 : decode cX5_setPlace 56 = .ok (.iload_n 2, 1) := by decide +kernel
theorem dX5_setPlace_57 : decode cX5_setPlace 57 = .ok (.iastore, 1) := by decide +kernel
theorem dX5_setPlace_58 : decode cX5_setPlace 58 = .ok (.aload_n 0, 1) := by decide +kernel
theorem dX5_setPlace_59 : decode cX5_setPlace 59 = .ok (.getfield 7, 3) := by decide +kernel
theorem dX5_setPlace_62 : decode cX5_setPlace 62 = .ok (.bipush 12, 2) := by decide +kernel
theorem dX5_setPlace_64 : decode cX5_setPlace 64 = .ok (.iconst 4, 1) := by decide +kernel
theorem dX5_setPlace_65 : decode cX5_setPlace 65 = .ok (.iload_n 1, 1) := by decide +kernel
theorem dX5_setPlace_66 : decode cX5_setPlace 66 = .ok (.imul, 1) := by decide +kernel
theorem dX5_setPlace_67 : decode cX5_setPlace 67 = .ok (.iadd, 1) := by decide +kernel
theorem dX5_setPlace_68 : decode cX5_setPlace 68 = .ok (.iconst 2, 1) := by decide +kernel
theorem dX5_setPlace_69 : decode cX5_setPlace 69 = .ok (.iadd, 1) := by decide +kernel
theorem dX5_setPlace_70 : decode cX5_setPlace 70 = .ok (.iload_n 3, 1) := by decide +kernel
theorem dX5_setPlace_71 : decode cX5_setPlace 71 = .ok (.iastore, 1) := by decide +kernel
theorem dX5_setPlace_72 : decode cX5_setPlace 72 = .ok (.iload 4, 2) := by decide +kernel
theorem dX5_setPlace_74 : decode cX5_setPlace 74 = .ok (.ireturn, 1) := by decide +kernel
set_option maxRecDepth 20000 in
theorem ggX5_put_X5_record : GoodIn wsX5_put wsX5_record := goodIn_r _ [6, 7, 8, 1, 9, 10, 11, 12, 5, 13, 14, 15, 16, 17, 18, 19, 20, 21, 22, 23, 24, 25, 26, 27, 28, 29, 30, 31] (by decide +kernel) (by decide +kernel)
set_option maxRecDepth 20000 in
theorem gX5_put_X5_record : GoodIn wsX5_put (wsV RX5 83 RX5 yX5_record wsX5_record) := goodIn_app (goodIn_of _ (by decide +kernel)) ggX5_put_X5_record
theorem dX5_put_0 : decode cX5_put 0 = .ok (.aload_n 0, 1) := by decide +kernel
theorem dX5_put_1 : decode cX5_put 1 = .ok (.invokevirtual 83, 3) := by decide +kernel
theorem dX5_put_4 : decode cX5_put 4 = .ok (.aload_n 0, 1) := by decide +kernel
theorem dX5_put_5 : decode cX5_put 5 = .ok (.getfield 7, 3) := by decide +kernel
theorem dX5_put_8 : decode cX5_put 8 = .ok (.iload_n 1, 1) := by decide +kernel
theorem dX5_put_9 : decode cX5_put 9 = .ok (.iaload, 1) := by decide +kernel
theorem dX5_put_10 : decode cX5_put 10 = .ok (.istore_n 3, 1) := by decide +kernel
theorem dX5_put_11 : decode cX5_put 11 = .ok (.aload_n 0, 1) := by decide +kernel
theorem dX5_put_12 : decode cX5_put 12 = .ok (.getfield 7, 3) := by decide +kernel
theorem dX5_put_15 : decode cX5_put 15 = .ok (.iload_n 1, 1) := by decide +kernel
theorem dX5_put_16 : decode cX5_put 16 = .ok (.iload_n 2, 1) := by decide +kernel
theorem dX5_put_17 : decode cX5_put 17 = .ok (.iastore, 1) := by decide +kernel
theorem dX5_put_18 : decode cX5_put 18 = .ok (.iload_n 3, 1) := by decide +kernel
theorem dX5_put_19 : decode cX5_put 19 = .ok (.ireturn, 1) := by decide +kernel
set_option maxRecDepth 20000 in
theorem ggX5_setKind_X5_isPicture : GoodIn wsX5_setKind wsX5_isPicture := goodIn_r _ [5, 6, 7, 8, 4, 9, 27, 28, 29, 30, 31, 32, 33, 34, 35, 36, 37, 38, 39, 40, 41, 42] (by decide +kernel) (by decide +kernel)
set_option maxRecDepth 20000 in
theorem gX5_setKind_X5_isPicture : GoodIn wsX5_setKind (wsV RX5 86 RX5 yX5_isPicture wsX5_isPicture) := goodIn_app (goodIn_of _ (by decide +kernel)) ggX5_setKind_X5_isPicture
set_option maxRecDepth 20000 in
theorem ggX5_setKind_X5_in : GoodIn wsX5_setKind wsX5_in := goodIn_r _ [9] (by decide +kernel) (by decide +kernel)
set_option maxRecDepth 20000 in
theorem gX5_setKind_X5_in : GoodIn wsX5_setKind (va_wsS RX5 56 yX5_in wsX5_in) := goodIn_app (goodIn_of _ (by decide +kernel)) ggX5_setKind_X5_in
set_option maxRecDepth 20000 in
theorem ggX5_setKind_X5_put : GoodIn wsX5_setKind wsX5_put := goodIn_r _ [13, 6, 14, 15, 16, 4, 17, 18, 19, 20, 21, 22, 23, 24, 25, 26, 27, 28, 29, 30, 31, 32, 33, 34, 35, 36, 37, 38, 39, 40, 41, 42] (by decide +kernel) (by decide +kernel)
set_option maxRecDepth 20000 in
theorem gX5_setKind_X5_put : GoodIn wsX5_setKind (wsV RX5 97 RX5 yX5_put wsX5_put) := goodIn_app (goodIn_of _ (by decide +kernel)) ggX5_setKind_X5_put
theorem dX5_setKind_0 : decode cX5_setKind 0 = .ok (.aload_n 0, 1) := by decide +kernel
theorem dX5_setKind_1 : decode cX5_setKind 1 = .ok (.iload_n 1, 1) := by decide +kernel
theorem dX5_setKind_2 : decode cX5_setKind 2 = .ok (.invokevirtual 86, 3) := by decide +kernel
theorem dX5_setKind_5 : decode cX5_setKind 5 = .ok (.ifCond .eq 28, 3) := by decide +kernel
theorem dX5_setKind_8 : decode cX5_setKind 8 = .ok (.iload_n 2, 1) := by decide +kernel
theorem dX5_setKind_9 : decode cX5_setKind 9 = .ok (.iconst 0, 1) := by decide +kernel
theorem dX5_setKind_10 : decode cX5_setKind 10 = .ok (.iconst 2, 1) := by decide +kernel
theorem dX5_setKind_11 : decode cX5_setKind 11 = .ok (.invokestatic 56, 3) := by decide +kernel
theorem dX5_setKind_14 : decode cX5_setKind 14 = .ok (.ifCond .eq 19, 3) := by decide +kernel
theorem dX5_setKind_17 : decode cX5_setKind 17 = .ok (.aload_n 0, 1) := by decide +kernel
theorem dX5_setKind_18 : decode cX5_setKind 18 = .ok (.bipush 12, 2) := by decide +kernel
theorem dX5_setKind_20 : decode cX5_setKind 20 = .ok (.iconst 4, 1) := by decide +kernel
theorem dX5_setKind_21 : decode cX5_setKind 21 = .ok (.iload_n 1, 1) := by decide +kernel
theorem dX5_setKind_22 : decode cX5_setKind 22 = .ok (.imul, 1) := by decide +kernel
theorem dX5_setKind_23 : decode cX5_setKind 23 = .ok (.iadd, 1) := by decide +kernel
theorem dX5_setKind_24 : decode cX5_setKind 24 = .ok (.iconst 3, 1) := by decide +kernel
theorem dX5_setKind_25 : decode cX5_setKind 25 = .ok (.iadd, 1) := by decide +kernel
theorem dX5_setKind_26 : decode cX5_setKind 26 = .ok (.iload_n 2, 1) := by decide +kernel
theorem dX5_setKind_27 : decode cX5_setKind 27 = .ok (.invokevirtual 97, 3) := by decide +kernel
theorem dX5_setKind_30 : decode cX5_setKind 30 = .ok (.goto 5, 3) := by decide +kernel
theorem dX5_setKind_33 : decode cX5_setKind 33 = .ok (.bipush (-101), 2) := by decide +kernel
theorem dX5_setKind_35 : decode cX5_setKind 35 = .ok (.ireturn, 1) := by decide +kernel
set_option maxRecDepth 20000 in
theorem ggX5_append_X5_in : GoodIn wsX5_append wsX5_in := goodIn_r _ [6] (by decide +kernel) (by decide +kernel)
set_option maxRecDepth 20000 in
theorem gX5_append_X5_in : GoodIn wsX5_append (va_wsS RX5 56 yX5_in wsX5_in) := goodIn_app (goodIn_of _ (by decide +kernel)) ggX5_append_X5_in
theorem dX5_append_0 : decode cX5_append 0 = .ok (.iload_n 1, 1) := by decide +kernel
theorem dX5_append_1 : decode cX5_append 1 = .ok (.iconst 1, 1) := by decide +kernel
theorem dX5_append_2 : decode cX5_append 2 = .ok (.sipush 255, 3) := by decide +kernel
theorem dX5_append_5 : decode cX5_append 5 = .ok (.invokestatic 56, 3) := by decide +kernel
theorem dX5_append_8 : decode cX5_append 8 = .ok (.ifCond .ne 6, 3) := by decide +kernel
theorem dX5_append_11 : decode cX5_append 11 = .ok (.bipush (-101), 2) := by decide +kernel
theorem dX5_append_13 : decode cX5_append 13 = .ok (.ireturn, 1) := by decide +kernel
theorem dX5_append_14 : decode cX5_append 14 = .ok (.aload_n 0, 1) := by decide +kernel
theorem dX5_append_15 : decode cX5_append 15 = .ok (.getfield 100, 3) := by decide +kernel
theorem dX5_append_18 : decode cX5_append 18 = .ok (.sipush 160, 3) := by decide +kernel
theorem dX5_append_21 : decode cX5_append 21 = .ok (.if_icmp .ne 6, 3) := by decide +kernel
theorem dX5_append_24 : decode cX5_append 24 = .ok (.bipush (-103), 2) := by decide +kernel
theorem dX5_append_26 : decode cX5_append 26 = .ok (.ireturn, 1) := by decide +kernel
theorem dX5_append_27 : decode cX5_append 27 = .ok (.aload_n 0, 1) := by decide +kernel
theorem dX5_append_28 : decode cX5_append 28 = .ok (.getfield 28, 3) := by decide +kernel
theorem dX5_append_31 : decode cX5_append 31 = .ok (.aload_n 0, 1) := by decide +kernel
theorem dX5_append_32 : decode cX5_append 32 = .ok (.getfield 100, 3) := by decide +kernel
theorem dX5_append_35 : decode cX5_append 35 = .ok (.iload_n 1, 1) := by decide +kernel
theorem dX5_append_36 : decode cX5_append 36 = .ok (.iastore, 1) := by decide +kernel
theorem dX5_append_37 : decode cX5_append 37 = .ok (.aload_n 0, 1) := by decide +kernel
theorem dX5_append_38 : decode cX5_append 38 = .ok (.dup, 1) := by decide +kernel
theorem dX5_append_39 : decode cX5_append 39 = .ok (.getfield 100, 3) := by decide +kernel
theorem dX5_append_42 : decode cX5_append 42 = .ok (.iconst 1, 1) := by decide +kernel
theorem dX5_append_43 : decode cX5_append 43 = .ok (.iadd, 1) := by decide +kernel
theorem dX5_append_44 : decode cX5_append 44 = .ok (.putfield 100, 3) := by decide +kernel
theorem dX5_append_47 : decode cX5_append 47 = .ok (.aload_n 0, 1) := by decide +kernel
theorem dX5_append_48 : decode cX5_append 48 = .ok (.getfield 100, 3) := by decide +kernel
theorem dX5_append_51 : decode cX5_append 51 = .ok (.ireturn, 1) := by decide +kernel
theorem dX5_clearText_0 : decode cX5_clearText 0 = .ok (.aload_n 0, 1) := by decide +kernel
theorem dX5_clearText_1 : decode cX5_clearText 1 = .ok (.getfield 100, 3) := by decide +kernel
theorem dX5_clearText_4 : decode cX5_clearText 4 = .ok (.istore_n 1, 1) := by decide +kernel
theorem dX5_clearText_5 : decode cX5_clearText 5 = .ok (.aload_n 0, 1) := by decide +kernel
theorem dX5_clearText_6 : decode cX5_clearText 6 = .ok (.iconst 0, 1) := by decide +kernel
theorem dX5_clearText_7 : decode cX5_clearText 7 = .ok (.putfield 100, 3) := by decide +kernel
theorem dX5_clearText_10 : decode cX5_clearText 10 = .ok (.iload_n 1, 1) := by decide +kernel
theorem dX5_clearText_11 : decode cX5_clearText 11 = .ok (.ireturn, 1) := by decide +kernel
theorem dX5_here_0 : decode cX5_here 0 = .ok (.aload_n 0, 1) := by decide +kernel
theorem dX5_here_1 : decode cX5_here 1 = .ok (.getfield 103, 3) := by decide +kernel
theorem dX5_here_4 : decode cX5_here 4 = .ok (.aload_n 0, 1) := by decide +kernel
theorem dX5_here_5 : decode cX5_here 5 = .ok (.getfield 100, 3) := by decide +kernel
theorem dX5_here_8 : decode cX5_here 8 = .ok (.if_icmp .ge 15, 3) := by decide +kernel
theorem dX5_here_11 : decode cX5_here 11 = .ok (.aload_n 0, 1) := by decide +kernel
theorem dX5_here_12 : decode cX5_here 12 = .ok (.getfield 28, 3) := by decide +kernel
theorem dX5_here_15 : decode cX5_here 15 = .ok (.aload_n 0, 1) := by decide +kernel
theorem dX5_here_16 : decode cX5_here 16 = .ok (.getfield 103, 3) := by decide +kernel
theorem dX5_here_19 : decode cX5_here 19 = .ok (.iaload, 1) := by decide +kernel
theorem dX5_here_20 : decode cX5_here 20 = .ok (.goto 4, 3) := by decide +kernel
theorem dX5_here_23 : decode cX5_here 23 = .ok (.iconst 0, 1) := by decide +kernel
theorem dX5_here_24 : decode cX5_here 24 = .ok (.ireturn, 1) := by decide +kernel
set_option maxRecDepth 20000 in
theorem ggX5_skip_X5_here : GoodIn wsX5_skip wsX5_here := goodIn_r _ [6, 1, 7, 8, 9, 10, 11, 12, 13, 14, 15, 16, 17, 18, 19, 20, 21, 22, 23, 24] (by decide +kernel) (by decide +kernel)
set_option maxRecDepth 20000 in
theorem gX5_skip_X5_here : GoodIn wsX5_skip (wsV RX5 106 RX5 yX5_here wsX5_here) := goodIn_app (goodIn_of _ (by decide +kernel)) ggX5_skip_X5_here
theorem dX5_skip_0 : decode cX5_skip 0 = .ok (.aload_n 0, 1) := by decide +kernel
theorem dX5_skip_1 : decode cX5_skip 1 = .ok (.invokevirtual 106, 3) := by decide +kernel
theorem dX5_skip_4 : decode cX5_skip 4 = .ok (.bipush 32, 2) := by decide +kernel
theorem dX5_skip_6 : decode cX5_skip 6 = .ok (.if_icmp .ne 16, 3) := by decide +kernel
theorem dX5_skip_9 : decode cX5_skip 9 = .ok (.aload_n 0, 1) := by decide +kernel
theorem dX5_skip_10 : decode cX5_skip 10 = .ok (.dup, 1) := by decide +kernel
theorem dX5_skip_11 : decode cX5_skip 11 = .ok (.getfield 103, 3) := by decide +kernel
theorem dX5_skip_14 : decode cX5_skip 14 = .ok (.iconst 1, 1) := by decide +kernel
theorem dX5_skip_15 : decode cX5_skip 15 = .ok (.iadd, 1) := by decide +kernel
theorem dX5_skip_16 : decode cX5_skip 16 = .ok (.putfield 103, 3) := by decide +kernel
theorem dX5_skip_19 : decode cX5_skip 19 = .ok (.goto (-19), 3) := by decide +kernel
theorem dX5_skip_22 : decode cX5_skip 22 = .ok (.return_, 1) := by decide +kernel
set_option maxRecDepth 20000 in
theorem ggX5_isColor_X5_here : GoodIn wsX5_isColor wsX5_here := goodIn_r _ [5, 6, 7, 8, 12, 13, 14, 15, 16, 17, 18, 19, 20, 21, 22, 23, 24, 25, 26, 27] (by decide +kernel) (by decide +kernel)
set_option maxRecDepth 20000 in
theorem gX5_isColor_X5_here : GoodIn wsX5_isColor (wsV RX5 106 RX5 yX5_here wsX5_here) := goodIn_app (goodIn_of _ (by decide +kernel)) ggX5_isColor_X5_here
set_option maxRecDepth 20000 in
theorem ggX5_isColor_X5_in : GoodIn wsX5_isColor wsX5_in := goodIn_r _ [11] (by decide +kernel) (by decide +kernel)
set_option maxRecDepth 20000 in
theorem gX5_isColor_X5_in : GoodIn wsX5_isColor (va_wsS RX5 56 yX5_in wsX5_in) := goodIn_app (goodIn_of _ (by decide +kernel)) ggX5_isColor_X5_in
theorem dX5_isColor_0 : decode cX5_isColor 0 = .ok (.aload_n 0, 1) := by decide +kernel
theorem dX5_isColor_1 : decode cX5_isColor 1 = .ok (.invokevirtual 106, 3) := by decide +kernel
theorem dX5_isColor_4 : decode cX5_isColor 4 = .ok (.bipush 48, 2) := by decide +kernel
theorem dX5_isColor_6 : decode cX5_isColor 6 = .ok (.bipush 55, 2) := by decide +kernel
theorem dX5_isColor_8 : decode cX5_isColor 8 = .ok (.invokestatic 56, 3) := by decide +kernel
theorem dX5_isColor_11 : decode cX5_isColor 11 = .ok (.ireturn, 1) := by decide +kernel
set_option maxRecDepth 20000 in
theorem ggX5_takeColor_X5_here : GoodIn wsX5_takeColor wsX5_here := goodIn_r _ [9, 4, 10, 11, 12, 13, 14, 15, 16, 17, 18, 19, 20, 21, 22, 23, 24, 25, 26, 27] (by decide +kernel) (by decide +kernel)
set_option maxRecDepth 20000 in
theorem gX5_takeColor_X5_here : GoodIn wsX5_takeColor (wsV RX5 106 RX5 yX5_here wsX5_here) := goodIn_app (goodIn_of _ (by decide +kernel)) ggX5_takeColor_X5_here
theorem dX5_takeColor_0 : decode cX5_takeColor 0 = .ok (.iconst 0, 1) := by decide +kernel
theorem dX5_takeColor_1 : decode cX5_takeColor 1 = .ok (.istore_n 2, 1) := by decide +kernel
theorem dX5_takeColor_2 : decode cX5_takeColor 2 = .ok (.iload_n 2, 1) := by decide +kernel
theorem dX5_takeColor_3 : decode cX5_takeColor 3 = .ok (.iload_n 1, 1) := by decide +kernel
theorem dX5_takeColor_4 : decode cX5_takeColor 4 = .ok (.if_icmp .ge 58, 3) := by decide +kernel
theorem dX5_takeColor_7 : decode cX5_takeColor 7 = .ok (.aload_n 0, 1) := by decide +kernel
theorem dX5_takeColor_8 : decode cX5_takeColor 8 = .ok (.getfield 31, 3) := by decide +kernel
theorem dX5_takeColor_11 : decode cX5_takeColor 11 = .ok (.iconst 2, 1) := by decide +kernel
theorem dX5_takeColor_12 : decode cX5_takeColor 12 = .ok (.aload_n 0, 1) := by decide +kernel
theorem dX5_takeColor_13 : decode cX5_takeColor 13 = .ok (.getfield 110, 3) := by decide +kernel
theorem dX5_takeColor_16 : decode cX5_takeColor 16 = .ok (.imul, 1) := by decide +kernel
theorem dX5_takeColor_17 : decode cX5_takeColor 17 = .ok (.aload_n 0, 1) := by decide +kernel
theorem dX5_takeColor_18 : decode cX5_takeColor 18 = .ok (.getfield 113, 3) := by decide +kernel
theorem dX5_takeColor_21 : decode cX5_takeColor 21 = .ok (.bipush 6, 2) := by decide +kernel
theorem dX5_takeColor_23 : decode cX5_takeColor 23 = .ok (.idiv, 1) := by decide +kernel
theorem dX5_takeColor_24 : decode cX5_takeColor 24 = .ok (.iadd, 1) := by decide +kernel
theorem dX5_takeColor_25 : decode cX5_takeColor 25 = .ok (.dup2, 1) := by decide +kernel
theorem dX5_takeColor_26 : decode cX5_takeColor 26 = .ok (.iaload, 1) := by decide +kernel
theorem dX5_takeColor_27 : decode cX5_takeColor 27 = .ok (.aload_n 0, 1) := by decide +kernel
theorem dX5_takeColor_28 : decode cX5_takeColor 28 = .ok (.invokevirtual 106, 3) := by decide +kernel
theorem dX5_takeColor_31 : decode cX5_takeColor 31 = .ok (.bipush 48, 2) := by decide +kernel
theorem dX5_takeColor_33 : decode cX5_takeColor 33 = .ok (.isub, 1) := by decide +kernel
theorem dX5_takeColor_34 : decode cX5_takeColor 34 = .ok (.iconst 3, 1) := by decide +kernel
theorem dX5_takeColor_35 : decode cX5_takeColor 35 = .ok (.aload_n 0, 1) := by decide +kernel
theorem dX5_takeColor_36 : decode cX5_takeColor 36 = .ok (.getfield 113, 3) := by decide +kernel
theorem dX5_takeColor_39 : decode cX5_takeColor 39 = .ok (.bipush 6, 2) := by decide +kernel
theorem dX5_takeColor_41 : decode cX5_takeColor 41 = .ok (.irem, 1) := by decide +kernel
theorem dX5_takeColor_42 : decode cX5_takeColor 42 = .ok (.imul, 1) := by decide +kernel
theorem dX5_takeColor_43 : decode cX5_takeColor 43 = .ok (.ishl, 1) := by decide +kernel
theorem dX5_takeColor_44 : decode cX5_takeColor 44 = .ok (.ior, 1) := by decide +kernel
theorem dX5_takeColor_45 : decode cX5_takeColor 45 = .ok (.iastore, 1) := by decide +kernel
theorem dX5_takeColor_46 : decode cX5_takeColor 46 = .ok (.aload_n 0, 1) := by decide +kernel
theorem dX5_takeColor_47 : decode cX5_takeColor 47 = .ok (.dup, 1) := by decide +kernel
theorem dX5_takeColor_48 : decode cX5_takeColor 48 = .ok (.getfield 113, 3) := by decide +kernel
theorem dX5_takeColor_51 : decode cX5_takeColor 51 = .ok (.iconst 1, 1) := by decide +kernel
theorem dX5_takeColor_52 : decode cX5_takeColor 52 = .ok (.iadd, 1) := by decide +kernel
theorem dX5_takeColor_53 : decode cX5_takeColor 53 = .ok (.putfield 113, 3) := by decide +kernel
theorem dX5_takeColor_56 : decode cX5_takeColor 56 = .ok (.iinc 2 1, 3) := by decide +kernel
theorem dX5_takeColor_59 : decode cX5_takeColor 59 = .ok (.goto (-57), 3) := by decide +kernel
theorem dX5_takeColor_62 : decode cX5_takeColor 62 = .ok (.aload_n 0, 1) := by decide +kernel
theorem dX5_takeColor_63 : decode cX5_takeColor 63 = .ok (.dup, 1) := by decide +kernel
theorem dX5_takeColor_64 : decode cX5_takeColor 64 = .ok (.getfield 103, 3) := by decide +kernel
theorem dX5_takeColor_67 : decode cX5_takeColor 67 = .ok (.iconst 1, 1) := by decide +kernel
theorem dX5_takeColor_68 : decode cX5_takeColor 68 = .ok (.iadd, 1) := by decide +kernel
theorem dX5_takeColor_69 : decode cX5_takeColor 69 = .ok (.putfield 103, 3) := by decide +kernel
theorem dX5_takeColor_72 : decode cX5_takeColor 72 = .ok (.return_, 1) := by decide +kernel
set_option maxRecDepth 20000 in
theorem ggX5_readNumber_X5_skip : GoodIn wsX5_readNumber wsX5_skip := goodIn_r _ [8, 1, 9, 10, 11, 7, 12, 13, 2, 21, 22, 23, 24, 25, 26, 27, 28, 29, 30, 31, 32, 33, 34, 35, 36] (by decide +kernel) (by decide +kernel)
set_option maxRecDepth 20000 in
theorem gX5_readNumber_X5_skip : GoodIn wsX5_readNumber (wsV RX5 116 RX5 yX5_skip wsX5_skip) := goodIn_app (goodIn_of _ (by decide +kernel)) ggX5_readNumber_X5_skip
set_option maxRecDepth 20000 in
theorem ggX5_readNumber_X5_here : GoodIn wsX5_readNumber wsX5_here := goodIn_r _ [12, 1, 13, 2, 21, 22, 23, 24, 25, 26, 27, 28, 29, 30, 31, 32, 33, 34, 35, 36] (by decide +kernel) (by decide +kernel)
set_option maxRecDepth 20000 in
theorem gX5_readNumber_X5_here : GoodIn wsX5_readNumber (wsV RX5 106 RX5 yX5_here wsX5_here) := goodIn_app (goodIn_of _ (by decide +kernel)) ggX5_readNumber_X5_here
set_option maxRecDepth 20000 in
theorem ggX5_readNumber_X5_in : GoodIn wsX5_readNumber wsX5_in := goodIn_r _ [16] (by decide +kernel) (by decide +kernel)
set_option maxRecDepth 20000 in
theorem gX5_readNumber_X5_in : GoodIn wsX5_readNumber (va_wsS RX5 56 yX5_in wsX5_in) := goodIn_app (goodIn_of _ (by decide +kernel)) ggX5_readNumber_X5_in
set_option maxRecDepth 20000 in
theorem ggX5_readNumber_X5_isColor : GoodIn wsX5_readNumber wsX5_isColor := goodIn_r _ [20, 9, 10, 11, 7, 12, 1, 13, 2, 14, 15, 16, 21, 22, 23, 24, 25, 26, 27, 28, 29, 30, 31, 32, 33, 34, 35, 36] (by decide +kernel) (by decide +kernel)
set_option maxRecDepth 20000 in
theorem gX5_readNumber_X5_isColor : GoodIn wsX5_readNumber (wsV RX5 119 RX5 yX5_isColor wsX5_isColor) := goodIn_app (goodIn_of _ (by decide +kernel)) ggX5_readNumber_X5_isColor
theorem dX5_readNumber_0 : decode cX5_readNumber 0 = .ok (.aload_n 0, 1) := by decide +kernel
theorem dX5_readNumber_1 : decode cX5_readNumber 1 = .ok (.dup, 1) := by decide +kernel
theorem dX5_readNumber_2 : decode cX5_readNumber 2 = .ok (.getfield 103, 3) := by decide +kernel
theorem dX5_readNumber_5 : decode cX5_readNumber 5 = .ok (.iconst 1, 1) := by decide +kernel
theorem dX5_readNumber_6 : decode cX5_readNumber 6 = .ok (.iadd, 1) := by decide +kernel
theorem dX5_readNumber_7 : decode cX5_readNumber 7 = .ok (.putfield 103, 3) := by decide +kernel
theorem dX5_readNumber_10 : decode cX5_readNumber 10 = .ok (.aload_n 0, 1) := by decide +kernel
theorem dX5_readNumber_11 : decode cX5_readNumber 11 = .ok (.invokevirtual 116, 3) := by decide +kernel
theorem dX5_readNumber_14 : decode cX5_readNumber 14 = .ok (.aload_n 0, 1) := by decide +kernel
theorem dX5_readNumber_15 : decode cX5_readNumber 15 = .ok (.getfield 103, 3) := by decide +kernel
theorem dX5_readNumber_18 : decode cX5_readNumber 18 = .ok (.istore_n 1, 1) := by decide +kernel
theorem dX5_readNumber_19 : decode cX5_readNumber 19 = .ok (.iconst 0, 1) := by decide +kernel
theorem dX5_readNumber_20 : decode cX5_readNumber 20 = .ok (.istore_n 2, 1) := by decide +kernel
theorem dX5_readNumber_21 : decode cX5_readNumber 21 = .ok (.aload_n 0, 1) := by decide +kernel
theorem dX5_readNumber_22 : decode cX5_readNumber 22 = .ok (.invokevirtual 106, 3) := by decide +kernel
theorem dX5_readNumber_25 : decode cX5_readNumber 25 = .ok (.bipush 48, 2) := by decide +kernel
theorem dX5_readNumber_27 : decode cX5_readNumber 27 = .ok (.bipush 57, 2) := by decide +kernel
theorem dX5_readNumber_29 : decode cX5_readNumber 29 = .ok (.invokestatic 56, 3) := by decide +kernel
theorem dX5_readNumber_32 : decode cX5_readNumber 32 = .ok (.ifCond .eq 39, 3) := by decide +kernel
theorem dX5_readNumber_35 : decode cX5_readNumber 35 = .ok (.iload_n 2, 1) := by decide +kernel
theorem dX5_readNumber_36 : decode cX5_readNumber 36 = .ok (.bipush 99, 2) := by decide +kernel
theorem dX5_readNumber_38 : decode cX5_readNumber 38 = .ok (.if_icmp .le 7, 3) := by decide +kernel
theorem dX5_readNumber_41 : decode cX5_readNumber 41 = .ok (.iload_n 2, 1) := by decide +kernel
theorem dX5_readNumber_42 : decode cX5_readNumber 42 = .ok (.goto 15, 3) := by decide +kernel
theorem dX5_readNumber_45 : decode cX5_readNumber 45 = .ok (.bipush 10, 2) := by decide +kernel
theorem dX5_readNumber_47 : decode cX5_readNumber 47 = .ok (.iload_n 2, 1) := by decide +kernel
theorem dX5_readNumber_48 : decode cX5_readNumber 48 = .ok (.imul, 1) := by decide +kernel
theorem dX5_readNumber_49 : decode cX5_readNumber 49 = .ok (.aload_n 0, 1) := by decide +kernel
theorem dX5_readNumber_50 : decode cX5_readNumber 50 = .ok (.invokevirtual 106, 3) := by decide +kernel
theorem dX5_readNumber_53 : decode cX5_readNumber 53 = .ok (.iadd, 1) := by decide +kernel
theorem dX5_readNumber_54 : decode cX5_readNumber 54 = .ok (.bipush 48, 2) := by decide +kernel
theorem dX5_readNumber_56 : decode cX5_readNumber 56 = .ok (.isub, 1) := by decide +kernel
theorem dX5_readNumber_57 : decode cX5_readNumber 57 = .ok (.istore_n 2, 1) := by decide +kernel
theorem dX5_readNumber_58 : decode cX5_readNumber 58 = .ok (.aload_n 0, 1) := by decide +kernel
theorem dX5_readNumber_59 : decode cX5_readNumber 59 = .ok (.dup, 1) := by decide +kernel
theorem dX5_readNumber_60 : decode cX5_readNumber 60 = .ok (.getfield 103, 3) := by decide +kernel
theorem dX5_readNumber_63 : decode cX5_readNumber 63 = .ok (.iconst 1, 1) := by decide +kernel
theorem dX5_readNumber_64 : decode cX5_readNumber 64 = .ok (.iadd, 1) := by decide +kernel
theorem dX5_readNumber_65 : decode cX5_readNumber 65 = .ok (.putfield 103, 3) := by decide +kernel
theorem dX5_readNumber_68 : decode cX5_readNumber 68 = .ok (.goto (-47), 3) := by decide +kernel
theorem dX5_readNumber_71 : decode cX5_readNumber 71 = .ok (.aload_n 0, 1) := by decide +kernel
theorem dX5_readNumber_72 : decode cX5_readNumber 72 = .ok (.getfield 103, 3) := by decide +kernel
theorem dX5_readNumber_75 : decode cX5_readNumber 75 = .ok (.iload_n 1, 1) := by decide +kernel
theorem dX5_readNumber_76 : decode cX5_readNumber 76 = .ok (.if_icmp .ne 5, 3) := by decide +kernel
theorem dX5_readNumber_79 : decode cX5_readNumber 79 = .ok (.iconst 0, 1) := by decide +kernel
theorem dX5_readNumber_80 : decode cX5_readNumber 80 = .ok (.ireturn, 1) := by decide +kernel
theorem dX5_readNumber_81 : decode cX5_readNumber 81 = .ok (.aload_n 0, 1) := by decide +kernel
theorem dX5_readNumber_82 : decode cX5_readNumber 82 = .ok (.getfield 28, 3) := by decide +kernel
theorem dX5_readNumber_85 : decode cX5_readNumber 85 = .ok (.iload_n 1, 1) := by decide +kernel
theorem dX5_readNumber_86 : decode cX5_readNumber 86 = .ok (.iaload, 1) := by decide +kernel
theorem dX5_readNumber_87 : decode cX5_readNumber 87 = .ok (.bipush 48, 2) := by decide +kernel
theorem dX5_readNumber_89 : decode cX5_readNumber 89 = .ok (.if_icmp .eq 24, 3) := by decide +kernel
theorem dX5_readNumber_92 : decode cX5_readNumber 92 = .ok (.iload_n 2, 1) := by decide +kernel
theorem dX5_readNumber_93 : decode cX5_readNumber 93 = .ok (.iconst 1, 1) := by decide +kernel
theorem dX5_readNumber_94 : decode cX5_readNumber 94 = .ok (.bipush 12, 2) := by decide +kernel
theorem dX5_readNumber_96 : decode cX5_readNumber 96 = .ok (.invokestatic 56, 3) := by decide +kernel
theorem dX5_readNumber_99 : decode cX5_readNumber 99 = .ok (.ifCond .eq 14, 3) := by decide +kernel
theorem dX5_readNumber_102 : decode cX5_readNumber 102 = .ok (.aload_n 0, 1) := by decide +kernel
theorem dX5_readNumber_103 : decode cX5_readNumber 103 = .ok (.getfield 113, 3) := by decide +kernel
theorem dX5_readNumber_106 : decode cX5_readNumber 106 = .ok (.iload_n 2, 1) := by decide +kernel
theorem dX5_readNumber_107 : decode cX5_readNumber 107 = .ok (.iadd, 1) := by decide +kernel
theorem dX5_readNumber_108 : decode cX5_readNumber 108 = .ok (.bipush 12, 2) := by decide +kernel
theorem dX5_readNumber_110 : decode cX5_readNumber 110 = .ok (.if_icmp .le 10, 3) := by decide +kernel
theorem dX5_readNumber_113 : decode cX5_readNumber 113 = .ok (.aload_n 0, 1) := by decide +kernel
theorem dX5_readNumber_114 : decode cX5_readNumber 114 = .ok (.iload_n 1, 1) := by decide +kernel
theorem dX5_readNumber_115 : decode cX5_readNumber 115 = .ok (.putfield 103, 3) := by decide +kernel
theorem dX5_readNumber_118 : decode cX5_readNumber 118 = .ok (.iconst 0, 1) := by decide +kernel
theorem dX5_readNumber_119 : decode cX5_readNumber 119 = .ok (.ireturn, 1) := by decide +kernel
theorem dX5_readNumber_120 : decode cX5_readNumber 120 = .ok (.aload_n 0, 1) := by decide +kernel
theorem dX5_readNumber_121 : decode cX5_readNumber 121 = .ok (.invokevirtual 116, 3) := by decide +kernel
theorem dX5_readNumber_124 : decode cX5_readNumber 124 = .ok (.aload_n 0, 1) := by decide +kernel
theorem dX5_readNumber_125 : decode cX5_readNumber 125 = .ok (.invokevirtual 106, 3) := by decide +kernel
theorem dX5_readNumber_128 : decode cX5_readNumber 128 = .ok (.bipush 41, 2) := by decide +kernel
theorem dX5_readNumber_130 : decode cX5_readNumber 130 = .ok (.if_icmp .eq 5, 3) := by decide +kernel
theorem dX5_readNumber_133 : decode cX5_readNumber 133 = .ok (.iconst 0, 1) := by decide +kernel
theorem dX5_readNumber_134 : decode cX5_readNumber 134 = .ok (.ireturn, 1) := by decide +kernel
theorem dX5_readNumber_135 : decode cX5_readNumber 135 = .ok (.aload_n 0, 1) := by decide +kernel
theorem dX5_readNumber_136 : decode cX5_readNumber 136 = .ok (.dup, 1) := by decide +kernel
theorem dX5_readNumber_137 : decode cX5_readNumber 137 = .ok (.getfield 103, 3) := by decide +kernel
theorem dX5_readNumber_140 : decode cX5_readNumber 140 = .ok (.iconst 1, 1) := by decide +kernel
theorem dX5_readNumber_141 : decode cX5_readNumber 141 = .ok (.iadd, 1) := by decide +kernel
theorem dX5_readNumber_142 : decode cX5_readNumber 142 = .ok (.putfield 103, 3) := by decide +kernel
theorem dX5_readNumber_145 : decode cX5_readNumber 145 = .ok (.aload_n 0, 1) := by decide +kernel
theorem dX5_readNumber_146 : decode cX5_readNumber 146 = .ok (.invokevirtual 116, 3) := by decide +kernel
theorem dX5_readNumber_149 : decode cX5_readNumber 149 = .ok (.aload_n 0, 1) := by decide +kernel
theorem dX5_readNumber_150 : decode cX5_readNumber 150 = .ok (.invokevirtual 119, 3) := by decide +kernel
theorem dX5_readNumber_153 : decode cX5_readNumber 153 = .ok (.ifCond .eq 7, 3) := by decide +kernel
theorem dX5_readNumber_156 : decode cX5_readNumber 156 = .ok (.iload_n 2, 1) := by decide +kernel
theorem dX5_readNumber_157 : decode cX5_readNumber 157 = .ok (.goto 4, 3) := by decide +kernel
theorem dX5_readNumber_160 : decode cX5_readNumber 160 = .ok (.iconst 0, 1) := by decide +kernel
theorem dX5_readNumber_161 : decode cX5_readNumber 161 = .ok (.ireturn, 1) := by decide +kernel
set_option maxRecDepth 20000 in
theorem ggX5_readPart_X5_here : GoodIn wsX5_readPart wsX5_here := goodIn_r _ [8, 2, 9, 10, 31, 32, 33, 34, 35, 36, 37, 38, 39, 40, 41, 42, 43, 44, 45, 46] (by decide +kernel) (by decide +kernel)
set_option maxRecDepth 20000 in
theorem gX5_readPart_X5_here : GoodIn wsX5_readPart (wsV RX5 106 RX5 yX5_here wsX5_here) := goodIn_app (goodIn_of _ (by decide +kernel)) ggX5_readPart_X5_here
set_option maxRecDepth 20000 in
theorem ggX5_readPart_X5_readNumber : GoodIn wsX5_readPart wsX5_readNumber := goodIn_r _ [14, 2, 10, 3, 15, 16, 17, 7, 18, 4, 5, 6, 8, 9, 19, 20, 21, 22, 23, 24, 25, 31, 32, 33, 34, 35, 36, 37, 38, 39, 40, 41, 42, 43, 44, 45, 46] (by decide +kernel) (by decide +kernel)
set_option maxRecDepth 20000 in
theorem gX5_readPart_X5_readNumber : GoodIn wsX5_readPart (wsV RX5 123 RX5 yX5_readNumber wsX5_readNumber) := goodIn_app (goodIn_of _ (by decide +kernel)) ggX5_readPart_X5_readNumber
set_option maxRecDepth 20000 in
theorem ggX5_readPart_X5_takeColor : GoodIn wsX5_readPart wsX5_takeColor := goodIn_r _ [29, 30, 1, 3, 2, 4, 5, 6, 7, 8, 9, 10, 31, 32, 33, 34, 35, 36, 37, 38, 39, 40, 41, 42, 43, 44, 45, 46] (by decide +kernel) (by decide +kernel)
set_option maxRecDepth 20000 in
theorem gX5_readPart_X5_takeColor : GoodIn wsX5_readPart (wsV RX5 126 RX5 yX5_takeColor wsX5_takeColor) := goodIn_app (goodIn_of _ (by decide +kernel)) ggX5_readPart_X5_takeColor
set_option maxRecDepth 20000 in
theorem ggX5_readPart_X5_isColor : GoodIn wsX5_readPart wsX5_isColor := goodIn_r _ [25, 4, 5, 6, 7, 8, 2, 9, 10, 19, 20, 21, 31, 32, 33, 34, 35, 36, 37, 38, 39, 40, 41, 42, 43, 44, 45, 46] (by decide +kernel) (by decide +kernel)
set_option maxRecDepth 20000 in
theorem gX5_readPart_X5_isColor : GoodIn wsX5_readPart (wsV RX5 119 RX5 yX5_isColor wsX5_isColor) := goodIn_app (goodIn_of _ (by decide +kernel)) ggX5_readPart_X5_isColor
theorem dX5_readPart_0 : decode cX5_readPart 0 = .ok (.aload_n 0, 1) := by decide +kernel
theorem dX5_readPart_1 : decode cX5_readPart 1 = .ok (.invokevirtual 106, 3) := by decide +kernel
theorem dX5_readPart_4 : decode cX5_readPart 4 = .ok (.bipush 59, 2) := by decide +kernel
theorem dX5_readPart_6 : decode cX5_readPart 6 = .ok (.if_icmp .ne 43, 3) := by decide +kernel
theorem dX5_readPart_9 : decode cX5_readPart 9 = .ok (.aload_n 0, 1) := by decide +kernel
theorem dX5_readPart_10 : decode cX5_readPart 10 = .ok (.getfield 110, 3) := by decide +kernel
theorem dX5_readPart_13 : decode cX5_readPart 13 = .ok (.iconst 1, 1) := by decide +kernel
theorem dX5_readPart_14 : decode cX5_readPart 14 = .ok (.iadd, 1) := by decide +kernel
theorem dX5_readPart_15 : decode cX5_readPart 15 = .ok (.bipush 40, 2) := by decide +kernel
theorem dX5_readPart_17 : decode cX5_readPart 17 = .ok (.if_icmp .ne 5, 3) := by decide +kernel
theorem dX5_readPart_20 : decode cX5_readPart 20 = .ok (.iconst 0, 1) := by decide +kernel
theorem dX5_readPart_21 : decode cX5_readPart 21 = .ok (.ireturn, 1) := by decide +kernel
theorem dX5_readPart_22 : decode cX5_readPart 22 = .ok (.aload_n 0, 1) := by decide +kernel
theorem dX5_readPart_23 : decode cX5_readPart 23 = .ok (.dup, 1) := by decide +kernel
theorem dX5_readPart_24 : decode cX5_readPart 24 = .ok (.getfield 103, 3) := by decide +kernel
theorem dX5_readPart_27 : decode cX5_readPart 27 = .ok (.iconst 1, 1) := by decide +kernel
theorem dX5_readPart_28 : decode cX5_readPart 28 = .ok (.iadd, 1) := by decide +kernel
theorem dX5_readPart_29 : decode cX5_readPart 29 = .ok (.putfield 103, 3) := by decide +kernel
theorem dX5_readPart_32 : decode cX5_readPart 32 = .ok (.aload_n 0, 1) := by decide +kernel
theorem dX5_readPart_33 : decode cX5_readPart 33 = .ok (.dup, 1) := by decide +kernel
theorem dX5_readPart_34 : decode cX5_readPart 34 = .ok (.getfield 110, 3) := by decide +kernel
theorem dX5_readPart_37 : decode cX5_readPart 37 = .ok (.iconst 1, 1) := by decide +kernel
theorem dX5_readPart_38 : decode cX5_readPart 38 = .ok (.iadd, 1) := by decide +kernel
theorem dX5_readPart_39 : decode cX5_readPart 39 = .ok (.putfield 110, 3) := by decide +kernel
theorem dX5_readPart_42 : decode cX5_readPart 42 = .ok (.aload_n 0, 1) := by decide +kernel
theorem dX5_readPart_43 : decode cX5_readPart 43 = .ok (.iconst 0, 1) := by decide +kernel
theorem dX5_readPart_44 : decode cX5_readPart 44 = .ok (.putfield 113, 3) := by decide +kernel
theorem dX5_readPart_47 : decode cX5_readPart 47 = .ok (.iconst 1, 1) := by decide +kernel
theorem dX5_readPart_48 : decode cX5_readPart 48 = .ok (.ireturn, 1) := by decide +kernel
theorem dX5_readPart_49 : decode cX5_readPart 49 = .ok (.aload_n 0, 1) := by decide +kernel
theorem dX5_readPart_50 : decode cX5_readPart 50 = .ok (.invokevirtual 106, 3) := by decide +kernel
theorem dX5_readPart_53 : decode cX5_readPart 53 = .ok (.bipush 40, 2) := by decide +kernel
theorem dX5_readPart_55 : decode cX5_readPart 55 = .ok (.if_icmp .ne 27, 3) := by decide +kernel
theorem dX5_readPart_58 : decode cX5_readPart 58 = .ok (.aload_n 0, 1) := by decide +kernel
theorem dX5_readPart_59 : decode cX5_readPart 59 = .ok (.invokevirtual 123, 3) := by decide +kernel
theorem dX5_readPart_62 : decode cX5_readPart 62 = .ok (.istore_n 1, 1) := by decide +kernel
theorem dX5_readPart_63 : decode cX5_readPart 63 = .ok (.iload_n 1, 1) := by decide +kernel
theorem dX5_readPart_64 : decode cX5_readPart 64 = .ok (.ifCond .le 8, 3) := by decide +kernel
theorem dX5_readPart_67 : decode cX5_readPart 67 = .ok (.aload_n 0, 1) := by decide +kernel
theorem dX5_readPart_68 : decode cX5_readPart 68 = .ok (.iload_n 1, 1) := by decide +kernel
theorem dX5_readPart_69 : decode cX5_readPart 69 = .ok (.invokevirtual 126, 3) := by decide +kernel
theorem dX5_readPart_72 : decode cX5_readPart 72 = .ok (.iload_n 1, 1) := by decide +kernel
theorem dX5_readPart_73 : decode cX5_readPart 73 = .ok (.ifCond .le 7, 3) := by decide +kernel
theorem dX5_readPart_76 : decode cX5_readPart 76 = .ok (.iconst 1, 1) := by decide +kernel
theorem dX5_readPart_77 : decode cX5_readPart 77 = .ok (.goto 4, 3) := by decide +kernel
theorem dX5_readPart_80 : decode cX5_readPart 80 = .ok (.iconst 0, 1) := by decide +kernel
theorem dX5_readPart_81 : decode cX5_readPart 81 = .ok (.ireturn, 1) := by decide +kernel
theorem dX5_readPart_82 : decode cX5_readPart 82 = .ok (.aload_n 0, 1) := by decide +kernel
theorem dX5_readPart_83 : decode cX5_readPart 83 = .ok (.invokevirtual 119, 3) := by decide +kernel
theorem dX5_readPart_86 : decode cX5_readPart 86 = .ok (.ifCond .eq 16, 3) := by decide +kernel
theorem dX5_readPart_89 : decode cX5_readPart 89 = .ok (.aload_n 0, 1) := by decide +kernel
theorem dX5_readPart_90 : decode cX5_readPart 90 = .ok (.getfield 113, 3) := by decide +kernel
theorem dX5_readPart_93 : decode cX5_readPart 93 = .ok (.bipush 12, 2) := by decide +kernel
theorem dX5_readPart_95 : decode cX5_readPart 95 = .ok (.if_icmp .ge 7, 3) := by decide +kernel
theorem dX5_readPart_98 : decode cX5_readPart 98 = .ok (.iconst 1, 1) := by decide +kernel
theorem dX5_readPart_99 : decode cX5_readPart 99 = .ok (.goto 4, 3) := by decide +kernel
theorem dX5_readPart_102 : decode cX5_readPart 102 = .ok (.iconst 0, 1) := by decide +kernel
theorem dX5_readPart_103 : decode cX5_readPart 103 = .ok (.istore_n 1, 1) := by decide +kernel
theorem dX5_readPart_104 : decode cX5_readPart 104 = .ok (.iload_n 1, 1) := by decide +kernel
theorem dX5_readPart_105 : decode cX5_readPart 105 = .ok (.ifCond .eq 8, 3) := by decide +kernel
theorem dX5_readPart_108 : decode cX5_readPart 108 = .ok (.aload_n 0, 1) := by decide +kernel
theorem dX5_readPart_109 : decode cX5_readPart 109 = .ok (.iconst 1, 1) := by decide +kernel
theorem dX5_readPart_110 : decode cX5_readPart 110 = .ok (.invokevirtual 126, 3) := by decide +kernel
theorem dX5_readPart_113 : decode cX5_readPart 113 = .ok (.iload_n 1, 1) := by decide +kernel
theorem dX5_readPart_114 : decode cX5_readPart 114 = .ok (.ireturn, 1) := by decide +kernel
set_option maxRecDepth 20000 in
theorem ggX5_readText_X5_skip : GoodIn wsX5_readText wsX5_skip := goodIn_r _ [10, 1, 11, 12, 13, 9, 14, 5, 15, 35, 36, 37, 38, 39, 40, 41, 42, 43, 44, 45, 46, 47, 48, 49, 50] (by decide +kernel) (by decide +kernel)
set_option maxRecDepth 20000 in
theorem gX5_readText_X5_skip : GoodIn wsX5_readText (wsV RX5 116 RX5 yX5_skip wsX5_skip) := goodIn_app (goodIn_of _ (by decide +kernel)) ggX5_readText_X5_skip
set_option maxRecDepth 20000 in
theorem ggX5_readText_X5_readPart : GoodIn wsX5_readText wsX5_readPart := goodIn_r _ [19, 2, 1, 3, 11, 12, 13, 9, 14, 5, 15, 20, 21, 22, 23, 6, 7, 8, 10, 24, 25, 26, 27, 28, 29, 30, 31, 32, 33, 34, 4, 35, 36, 37, 38, 39, 40, 41, 42, 43, 44, 45, 46, 47, 48, 49, 50] (by decide +kernel) (by decide +kernel)
set_option maxRecDepth 20000 in
theorem gX5_readText_X5_readPart : GoodIn wsX5_readText (wsV RX5 130 RX5 yX5_readPart wsX5_readPart) := goodIn_app (goodIn_of _ (by decide +kernel)) ggX5_readText_X5_readPart
theorem dX5_readText_0 : decode cX5_readText 0 = .ok (.aload_n 0, 1) := by decide +kernel
theorem dX5_readText_1 : decode cX5_readText 1 = .ok (.iconst 0, 1) := by decide +kernel
theorem dX5_readText_2 : decode cX5_readText 2 = .ok (.putfield 103, 3) := by decide +kernel
theorem dX5_readText_5 : decode cX5_readText 5 = .ok (.aload_n 0, 1) := by decide +kernel
theorem dX5_readText_6 : decode cX5_readText 6 = .ok (.iconst 0, 1) := by decide +kernel
theorem dX5_readText_7 : decode cX5_readText 7 = .ok (.putfield 110, 3) := by decide +kernel
theorem dX5_readText_10 : decode cX5_readText 10 = .ok (.aload_n 0, 1) := by decide +kernel
theorem dX5_readText_11 : decode cX5_readText 11 = .ok (.iconst 0, 1) := by decide +kernel
theorem dX5_readText_12 : decode cX5_readText 12 = .ok (.putfield 113, 3) := by decide +kernel
theorem dX5_readText_15 : decode cX5_readText 15 = .ok (.iconst 0, 1) := by decide +kernel
theorem dX5_readText_16 : decode cX5_readText 16 = .ok (.istore_n 1, 1) := by decide +kernel
theorem dX5_readText_17 : decode cX5_readText 17 = .ok (.iload_n 1, 1) := by decide +kernel
theorem dX5_readText_18 : decode cX5_readText 18 = .ok (.bipush 80, 2) := by decide +kernel
theorem dX5_readText_20 : decode cX5_readText 20 = .ok (.if_icmp .ge 16, 3) := by decide +kernel
theorem dX5_readText_23 : decode cX5_readText 23 = .ok (.aload_n 0, 1) := by decide +kernel
theorem dX5_readText_24 : decode cX5_readText 24 = .ok (.getfield 31, 3) := by decide +kernel
theorem dX5_readText_27 : decode cX5_readText 27 = .ok (.iload_n 1, 1) := by decide +kernel
theorem dX5_readText_28 : decode cX5_readText 28 = .ok (.iconst 0, 1) := by decide +kernel
theorem dX5_readText_29 : decode cX5_readText 29 = .ok (.iastore, 1) := by decide +kernel
theorem dX5_readText_30 : decode cX5_readText 30 = .ok (.iinc 1 1, 3) := by decide +kernel
theorem dX5_readText_33 : decode cX5_readText 33 = .ok (.goto (-16), 3) := by decide +kernel
theorem dX5_readText_36 : decode cX5_readText 36 = .ok (.aload_n 0, 1) := by decide +kernel
theorem dX5_readText_37 : decode cX5_readText 37 = .ok (.invokevirtual 116, 3) := by decide +kernel
theorem dX5_readText_40 : decode cX5_readText 40 = .ok (.iconst 1, 1) := by decide +kernel
theorem dX5_readText_41 : decode cX5_readText 41 = .ok (.istore_n 1, 1) := by decide +kernel
theorem dX5_readText_42 : decode cX5_readText 42 = .ok (.iload_n 1, 1) := by decide +kernel
theorem dX5_readText_43 : decode cX5_readText 43 = .ok (.ifCond .eq 30, 3) := by decide +kernel
theorem dX5_readText_46 : decode cX5_readText 46 = .ok (.aload_n 0, 1) := by decide +kernel
theorem dX5_readText_47 : decode cX5_readText 47 = .ok (.getfield 103, 3) := by decide +kernel
theorem dX5_readText_50 : decode cX5_readText 50 = .ok (.aload_n 0, 1) := by decide +kernel
theorem dX5_readText_51 : decode cX5_readText 51 = .ok (.getfield 100, 3) := by decide +kernel
theorem dX5_readText_54 : decode cX5_readText 54 = .ok (.if_icmp .ge 19, 3) := by decide +kernel
theorem dX5_readText_57 : decode cX5_readText 57 = .ok (.aload_n 0, 1) := by decide +kernel
theorem dX5_readText_58 : decode cX5_readText 58 = .ok (.invokevirtual 130, 3) := by decide +kernel
theorem dX5_readText_61 : decode cX5_readText 61 = .ok (.istore_n 1, 1) := by decide +kernel
theorem dX5_readText_62 : decode cX5_readText 62 = .ok (.iload_n 1, 1) := by decide +kernel
theorem dX5_readText_63 : decode cX5_readText 63 = .ok (.ifCond .eq (-21), 3) := by decide +kernel
theorem dX5_readText_66 : decode cX5_readText 66 = .ok (.aload_n 0, 1) := by decide +kernel
theorem dX5_readText_67 : decode cX5_readText 67 = .ok (.invokevirtual 116, 3) := by decide +kernel
theorem dX5_readText_70 : decode cX5_readText 70 = .ok (.goto (-28), 3) := by decide +kernel
theorem dX5_readText_73 : decode cX5_readText 73 = .ok (.iload_n 1, 1) := by decide +kernel
theorem dX5_readText_74 : decode cX5_readText 74 = .ok (.ireturn, 1) := by decide +kernel
set_option maxRecDepth 20000 in
theorem ggX5_load_X5_isPicture : GoodIn wsX5_load wsX5_isPicture := goodIn_r _ [10, 3, 11, 12, 9, 13, 57, 58, 59, 60, 61, 62, 63, 64, 65, 66, 67, 68, 69, 70, 71, 72] (by decide +kernel) (by decide +kernel)
set_option maxRecDepth 20000 in
theorem gX5_load_X5_isPicture : GoodIn wsX5_load (wsV RX5 86 RX5 yX5_isPicture wsX5_isPicture) := goodIn_app (goodIn_of _ (by decide +kernel)) ggX5_load_X5_isPicture
set_option maxRecDepth 20000 in
theorem ggX5_load_X5_readText : GoodIn wsX5_load wsX5_readText := goodIn_r _ [17, 1, 4, 18, 5, 2, 19, 20, 21, 9, 22, 23, 24, 25, 26, 27, 28, 29, 30, 31, 32, 33, 34, 35, 11, 12, 13, 36, 37, 38, 39, 40, 41, 42, 43, 57, 58, 59, 60, 61, 62, 63, 64, 65, 66, 67, 68, 69, 70, 71, 72] (by decide +kernel) (by decide +kernel)
set_option maxRecDepth 20000 in
theorem gX5_load_X5_readText : GoodIn wsX5_load (wsV RX5 133 RX5 yX5_readText wsX5_readText) := goodIn_app (goodIn_of _ (by decide +kernel)) ggX5_load_X5_readText
set_option maxRecDepth 20000 in
theorem ggX5_load_X5_record : GoodIn wsX5_load wsX5_record := goodIn_r _ [47, 48, 49, 3, 50, 51, 52, 53, 9, 54, 55, 56, 57, 58, 59, 60, 61, 62, 63, 64, 65, 66, 67, 68, 69, 70, 71, 72] (by decide +kernel) (by decide +kernel)
set_option maxRecDepth 20000 in
theorem gX5_load_X5_record : GoodIn wsX5_load (wsV RX5 83 RX5 yX5_record wsX5_record) := goodIn_app (goodIn_of _ (by decide +kernel)) ggX5_load_X5_record
theorem dX5_load_0 : decode cX5_load 0 = .ok (.aload_n 0, 1) := by decide +kernel
theorem dX5_load_1 : decode cX5_load 1 = .ok (.iload_n 1, 1) := by decide +kernel
theorem dX5_load_2 : decode cX5_load 2 = .ok (.invokevirtual 86, 3) := by decide +kernel
theorem dX5_load_5 : decode cX5_load 5 = .ok (.ifCond .ne 6, 3) := by decide +kernel
theorem dX5_load_8 : decode cX5_load 8 = .ok (.bipush (-101), 2) := by decide +kernel
theorem dX5_load_10 : decode cX5_load 10 = .ok (.ireturn, 1) := by decide +kernel
theorem dX5_load_11 : decode cX5_load 11 = .ok (.aload_n 0, 1) := by decide +kernel
theorem dX5_load_12 : decode cX5_load 12 = .ok (.invokevirtual 133, 3) := by decide +kernel
theorem dX5_load_15 : decode cX5_load 15 = .ok (.ifCond .ne 12, 3) := by decide +kernel
theorem dX5_load_18 : decode cX5_load 18 = .ok (.sipush (-1000), 3) := by decide +kernel
theorem dX5_load_21 : decode cX5_load 21 = .ok (.aload_n 0, 1) := by decide +kernel
theorem dX5_load_22 : decode cX5_load 22 = .ok (.getfield 103, 3) := by decide +kernel
theorem dX5_load_25 : decode cX5_load 25 = .ok (.isub, 1) := by decide +kernel
theorem dX5_load_26 : decode cX5_load 26 = .ok (.ireturn, 1) := by decide +kernel
theorem dX5_load_27 : decode cX5_load 27 = .ok (.aload_n 0, 1) := by decide +kernel
theorem dX5_load_28 : decode cX5_load 28 = .ok (.invokevirtual 83, 3) := by decide +kernel
theorem dX5_load_31 : decode cX5_load 31 = .ok (.aload_n 0, 1) := by decide +kernel
theorem dX5_load_32 : decode cX5_load 32 = .ok (.iconst 0, 1) := by decide +kernel
theorem dX5_load_33 : decode cX5_load 33 = .ok (.putfield 100, 3) := by decide +kernel
theorem dX5_load_36 : decode cX5_load 36 = .ok (.aload_n 0, 1) := by decide +kernel
theorem dX5_load_37 : decode cX5_load 37 = .ok (.getfield 7, 3) := by decide +kernel
theorem dX5_load_40 : decode cX5_load 40 = .ok (.bipush 12, 2) := by decide +kernel
theorem dX5_load_42 : decode cX5_load 42 = .ok (.iconst 4, 1) := by decide +kernel
theorem dX5_load_43 : decode cX5_load 43 = .ok (.iload_n 1, 1) := by decide +kernel
theorem dX5_load_44 : decode cX5_load 44 = .ok (.imul, 1) := by decide +kernel
theorem dX5_load_45 : decode cX5_load 45 = .ok (.iadd, 1) := by decide +kernel
theorem dX5_load_46 : decode cX5_load 46 = .ok (.iconst 0, 1) := by decide +kernel
theorem dX5_load_47 : decode cX5_load 47 = .ok (.iadd, 1) := by decide +kernel
theorem dX5_load_48 : decode cX5_load 48 = .ok (.aload_n 0, 1) := by decide +kernel
theorem dX5_load_49 : decode cX5_load 49 = .ok (.getfield 110, 3) := by decide +kernel
theorem dX5_load_52 : decode cX5_load 52 = .ok (.iconst 1, 1) := by decide +kernel
theorem dX5_load_53 : decode cX5_load 53 = .ok (.iadd, 1) := by decide +kernel
theorem dX5_load_54 : decode cX5_load 54 = .ok (.iastore, 1) := by decide +kernel
theorem dX5_load_55 : decode cX5_load 55 = .ok (.iconst 0, 1) := by decide +kernel
theorem dX5_load_56 : decode cX5_load 56 = .ok (.istore_n 2, 1) := by decide +kernel
theorem dX5_load_57 : decode cX5_load 57 = .ok (.iload_n 2, 1) := by decide +kernel
theorem dX5_load_58 : decode cX5_load 58 = .ok (.bipush 80, 2) := by decide +kernel
theorem dX5_load_60 : decode cX5_load 60 = .ok (.if_icmp .ge 29, 3) := by decide +kernel
theorem dX5_load_63 : decode cX5_load 63 = .ok (.aload_n 0, 1) := by decide +kernel
theorem dX5_load_64 : decode cX5_load 64 = .ok (.getfield 7, 3) := by decide +kernel
theorem dX5_load_67 : decode cX5_load 67 = .ok (.bipush 28, 2) := by decide +kernel
theorem dX5_load_69 : decode cX5_load 69 = .ok (.bipush 80, 2) := by decide +kernel
theorem dX5_load_71 : decode cX5_load 71 = .ok (.iload_n 1, 1) := by decide +kernel
theorem dX5_load_72 : decode cX5_load 72 = .ok (.imul, 1) := by decide +kernel
theorem dX5_load_73 : decode cX5_load 73 = .ok (.iadd, 1) := by decide +kernel
theorem dX5_load_74 : decode cX5_load 74 = .ok (.iload_n 2, 1) := by decide +kernel
theorem dX5_load_75 : decode cX5_load 75 = .ok (.iadd, 1) := by decide +kernel
theorem dX5_load_76 : decode cX5_load 76 = .ok (.aload_n 0, 1) := by decide +kernel
theorem dX5_load_77 : decode cX5_load 77 = .ok (.getfield 31, 3) := by decide +kernel
theorem dX5_load_80 : decode cX5_load 80 = .ok (.iload_n 2, 1) := by decide +kernel
theorem dX5_load_81 : decode cX5_load 81 = .ok (.iaload, 1) := by decide +kernel
theorem dX5_load_82 : decode cX5_load 82 = .ok (.iastore, 1) := by decide +kernel
theorem dX5_load_83 : decode cX5_load 83 = .ok (.iinc 2 1, 3) := by decide +kernel
theorem dX5_load_86 : decode cX5_load 86 = .ok (.goto (-29), 3) := by decide +kernel
theorem dX5_load_89 : decode cX5_load 89 = .ok (.aload_n 0, 1) := by decide +kernel
theorem dX5_load_90 : decode cX5_load 90 = .ok (.getfield 110, 3) := by decide +kernel
theorem dX5_load_93 : decode cX5_load 93 = .ok (.iconst 1, 1) := by decide +kernel
theorem dX5_load_94 : decode cX5_load 94 = .ok (.iadd, 1) := by decide +kernel
theorem dX5_load_95 : decode cX5_load 95 = .ok (.ireturn, 1) := by decide +kernel
set_option maxRecDepth 20000 in
theorem ggX5_setSecondArm_X5_in : GoodIn wsX5_setSecondArm wsX5_in := goodIn_r _ [4] (by decide +kernel) (by decide +kernel)
set_option maxRecDepth 20000 in
theorem gX5_setSecondArm_X5_in : GoodIn wsX5_setSecondArm (va_wsS RX5 56 yX5_in wsX5_in) := goodIn_app (goodIn_of _ (by decide +kernel)) ggX5_setSecondArm_X5_in
set_option maxRecDepth 20000 in
theorem ggX5_setSecondArm_X5_put : GoodIn wsX5_setSecondArm wsX5_put := goodIn_r _ [8, 9, 10, 11, 12, 3, 13, 14, 15, 16, 17, 18, 19, 20, 21, 22, 23, 24, 25, 26, 27, 28, 29, 30, 31, 32, 33, 34, 35, 36, 37, 38] (by decide +kernel) (by decide +kernel)
set_option maxRecDepth 20000 in
theorem gX5_setSecondArm_X5_put : GoodIn wsX5_setSecondArm (wsV RX5 97 RX5 yX5_put wsX5_put) := goodIn_app (goodIn_of _ (by decide +kernel)) ggX5_setSecondArm_X5_put
theorem dX5_setSecondArm_0 : decode cX5_setSecondArm 0 = .ok (.iload_n 1, 1) := by decide +kernel
theorem dX5_setSecondArm_1 : decode cX5_setSecondArm 1 = .ok (.iconst 0, 1) := by decide +kernel
theorem dX5_setSecondArm_2 : decode cX5_setSecondArm 2 = .ok (.iconst 1, 1) := by decide +kernel
theorem dX5_setSecondArm_3 : decode cX5_setSecondArm 3 = .ok (.invokestatic 56, 3) := by decide +kernel
theorem dX5_setSecondArm_6 : decode cX5_setSecondArm 6 = .ok (.ifCond .eq 13, 3) := by decide +kernel
theorem dX5_setSecondArm_9 : decode cX5_setSecondArm 9 = .ok (.aload_n 0, 1) := by decide +kernel
theorem dX5_setSecondArm_10 : decode cX5_setSecondArm 10 = .ok (.bipush 8, 2) := by decide +kernel
theorem dX5_setSecondArm_12 : decode cX5_setSecondArm 12 = .ok (.iload_n 1, 1) := by decide +kernel
theorem dX5_setSecondArm_13 : decode cX5_setSecondArm 13 = .ok (.invokevirtual 97, 3) := by decide +kernel
theorem dX5_setSecondArm_16 : decode cX5_setSecondArm 16 = .ok (.goto 5, 3) := by decide +kernel
theorem dX5_setSecondArm_19 : decode cX5_setSecondArm 19 = .ok (.bipush (-101), 2) := by decide +kernel
theorem dX5_setSecondArm_21 : decode cX5_setSecondArm 21 = .ok (.ireturn, 1) := by decide +kernel
theorem dX5_isBroken_0 : decode cX5_isBroken 0 = .ok (.aload_n 0, 1) := by decide +kernel
theorem dX5_isBroken_1 : decode cX5_isBroken 1 = .ok (.getfield 7, 3) := by decide +kernel
theorem dX5_isBroken_4 : decode cX5_isBroken 4 = .ok (.bipush 9, 2) := by decide +kernel
theorem dX5_isBroken_6 : decode cX5_isBroken 6 = .ok (.iload_n 1, 1) := by decide +kernel
theorem dX5_isBroken_7 : decode cX5_isBroken 7 = .ok (.iadd, 1) := by decide +kernel
theorem dX5_isBroken_8 : decode cX5_isBroken 8 = .ok (.iaload, 1) := by decide +kernel
theorem dX5_isBroken_9 : decode cX5_isBroken 9 = .ok (.iload_n 2, 1) := by decide +kernel
theorem dX5_isBroken_10 : decode cX5_isBroken 10 = .ok (.ishr, 1) := by decide +kernel
theorem dX5_isBroken_11 : decode cX5_isBroken 11 = .ok (.iconst 1, 1) := by decide +kernel
theorem dX5_isBroken_12 : decode cX5_isBroken 12 = .ok (.iand, 1) := by decide +kernel
theorem dX5_isBroken_13 : decode cX5_isBroken 13 = .ok (.iconst 1, 1) := by decide +kernel
theorem dX5_isBroken_14 : decode cX5_isBroken 14 = .ok (.if_icmp .ne 7, 3) := by decide +kernel
theorem dX5_isBroken_17 : decode cX5_isBroken 17 = .ok (.iconst 1, 1) := by decide +kernel
theorem dX5_isBroken_18 : decode cX5_isBroken 18 = .ok (.goto 4, 3) := by decide +kernel
theorem dX5_isBroken_21 : decode cX5_isBroken 21 = .ok (.iconst 0, 1) := by decide +kernel
theorem dX5_isBroken_22 : decode cX5_isBroken 22 = .ok (.ireturn, 1) := by decide +kernel
set_option maxRecDepth 20000 in
theorem ggX5_setBroken_X5_in : GoodIn wsX5_setBroken wsX5_in := goodIn_r _ [5] (by decide +kernel) (by decide +kernel)
set_option maxRecDepth 20000 in
theorem gX5_setBroken_X5_in : GoodIn wsX5_setBroken (va_wsS RX5 56 yX5_in wsX5_in) := goodIn_app (goodIn_of _ (by decide +kernel)) ggX5_setBroken_X5_in
set_option maxRecDepth 20000 in
theorem ggX5_setBroken_X5_isLight : GoodIn wsX5_setBroken wsX5_isLight := goodIn_r _ [8, 2, 3, 4, 5] (by decide +kernel) (by decide +kernel)
set_option maxRecDepth 20000 in
theorem gX5_setBroken_X5_isLight : GoodIn wsX5_setBroken (va_wsS RX5 90 yX5_isLight wsX5_isLight) := goodIn_app (goodIn_of _ (by decide +kernel)) ggX5_setBroken_X5_isLight
set_option maxRecDepth 20000 in
theorem ggX5_setBroken_X5_record : GoodIn wsX5_setBroken wsX5_record := goodIn_r _ [12, 13, 14, 1, 15, 16, 17, 18, 4, 19, 20, 21, 26, 27, 28, 29, 30, 31, 32, 33, 34, 35, 36, 37, 38, 39, 40, 41] (by decide +kernel) (by decide +kernel)
set_option maxRecDepth 20000 in
theorem gX5_setBroken_X5_record : GoodIn wsX5_setBroken (wsV RX5 83 RX5 yX5_record wsX5_record) := goodIn_app (goodIn_of _ (by decide +kernel)) ggX5_setBroken_X5_record
set_option maxRecDepth 20000 in
theorem ggX5_setBroken_X5_isBroken : GoodIn wsX5_setBroken wsX5_isBroken := goodIn_r _ [25, 1, 26, 27, 28, 29, 30, 31, 32, 33, 34, 35, 36, 37, 38, 39, 40, 41] (by decide +kernel) (by decide +kernel)
set_option maxRecDepth 20000 in
theorem gX5_setBroken_X5_isBroken : GoodIn wsX5_setBroken (wsV RX5 136 RX5 yX5_isBroken wsX5_isBroken) := goodIn_app (goodIn_of _ (by decide +kernel)) ggX5_setBroken_X5_isBroken
theorem dX5_setBroken_0 : decode cX5_setBroken 0 = .ok (.iload_n 1, 1) := by decide +kernel
theorem dX5_setBroken_1 : decode cX5_setBroken 1 = .ok (.iconst 0, 1) := by decide +kernel
theorem dX5_setBroken_2 : decode cX5_setBroken 2 = .ok (.iconst 1, 1) := by decide +kernel
theorem dX5_setBroken_3 : decode cX5_setBroken 3 = .ok (.invokestatic 56, 3) := by decide +kernel
theorem dX5_setBroken_6 : decode cX5_setBroken 6 = .ok (.ifCond .eq 19, 3) := by decide +kernel
theorem dX5_setBroken_9 : decode cX5_setBroken 9 = .ok (.iload_n 2, 1) := by decide +kernel
theorem dX5_setBroken_10 : decode cX5_setBroken 10 = .ok (.invokestatic 90, 3) := by decide +kernel
theorem dX5_setBroken_13 : decode cX5_setBroken 13 = .ok (.ifCond .eq 12, 3) := by decide +kernel
theorem dX5_setBroken_16 : decode cX5_setBroken 16 = .ok (.iload_n 3, 1) := by decide +kernel
theorem dX5_setBroken_17 : decode cX5_setBroken 17 = .ok (.iconst 0, 1) := by decide +kernel
theorem dX5_setBroken_18 : decode cX5_setBroken 18 = .ok (.iconst 1, 1) := by decide +kernel
theorem dX5_setBroken_19 : decode cX5_setBroken 19 = .ok (.invokestatic 56, 3) := by decide +kernel
theorem dX5_setBroken_22 : decode cX5_setBroken 22 = .ok (.ifCond .ne 6, 3) := by decide +kernel
theorem dX5_setBroken_25 : decode cX5_setBroken 25 = .ok (.bipush (-101), 2) := by decide +kernel
theorem dX5_setBroken_27 : decode cX5_setBroken 27 = .ok (.ireturn, 1) := by decide +kernel
theorem dX5_setBroken_28 : decode cX5_setBroken 28 = .ok (.aload_n 0, 1) := by decide +kernel
theorem dX5_setBroken_29 : decode cX5_setBroken 29 = .ok (.invokevirtual 83, 3) := by decide +kernel
theorem dX5_setBroken_32 : decode cX5_setBroken 32 = .ok (.aload_n 0, 1) := by decide +kernel
theorem dX5_setBroken_33 : decode cX5_setBroken 33 = .ok (.iload_n 1, 1) := by decide +kernel
theorem dX5_setBroken_34 : decode cX5_setBroken 34 = .ok (.iload_n 2, 1) := by decide +kernel
theorem dX5_setBroken_35 : decode cX5_setBroken 35 = .ok (.invokevirtual 136, 3) := by decide +kernel
theorem dX5_setBroken_38 : decode cX5_setBroken 38 = .ok (.ifCond .eq 7, 3) := by decide +kernel
theorem dX5_setBroken_41 : decode cX5_setBroken 41 = .ok (.iconst 1, 1) := by decide +kernel
theorem dX5_setBroken_42 : decode cX5_setBroken 42 = .ok (.goto 4, 3) := by decide +kernel
theorem dX5_setBroken_45 : decode cX5_setBroken 45 = .ok (.iconst 0, 1) := by decide +kernel
theorem dX5_setBroken_46 : decode cX5_setBroken 46 = .ok (.istore 4, 2) := by decide +kernel
theorem dX5_setBroken_48 : decode cX5_setBroken 48 = .ok (.aload_n 0, 1) := by decide +kernel
theorem dX5_setBroken_49 : decode cX5_setBroken 49 = .ok (.getfield 7, 3) := by decide +kernel
theorem dX5_setBroken_52 : decode cX5_setBroken 52 = .ok (.bipush 9, 2) := by decide +kernel
theorem dX5_setBroken_54 : decode cX5_setBroken 54 = .ok (.iload_n 1, 1) := by decide +kernel
theorem dX5_setBroken_55 : decode cX5_setBroken 55 = .ok (.iadd, 1) := by decide +kernel
theorem dX5_setBroken_56 : decode cX5_setBroken 56 = .ok (.aload_n 0, 1) := by decide +kernel
theorem dX5_setBroken_57 : decode cX5_setBroken 57 = .ok (.getfield 7, 3) := by decide +kernel
theorem dX5_setBroken_60 : decode cX5_setBroken 60 = .ok (.bipush 9, 2) := by decide +kernel
theorem dX5_setBroken_62 : decode cX5_setBroken 62 = .ok (.iload_n 1, 1) := by decide +kernel
theorem dX5_setBroken_63 : decode cX5_setBroken 63 = .ok (.iadd, 1) := by decide +kernel
theorem dX5_setBroken_64 : decode cX5_setBroken 64 = .ok (.iaload, 1) := by decide +kernel
theorem dX5_setBroken_65 : decode cX5_setBroken 65 = .ok (.iconst 1, 1) := by decide +kernel
theorem dX5_setBroken_66 : decode cX5_setBroken 66 = .ok (.iload_n 2, 1) := by decide +kernel
theorem dX5_setBroken_67 : decode cX5_setBroken 67 = .ok (.ishl, 1) := by decide +kernel
theorem dX5_setBroken_68 : decode cX5_setBroken 68 = .ok (.iconst (-1), 1) := by decide +kernel
theorem dX5_setBroken_69 : decode cX5_setBroken 69 = .ok (.ixor, 1) := by decide +kernel
theorem dX5_setBroken_70 : decode cX5_setBroken 70 = .ok (.iand, 1) := by decide +kernel
theorem dX5_setBroken_71 : decode cX5_setBroken 71 = .ok (.iload_n 3, 1) := by decide +kernel
theorem dX5_setBroken_72 : decode cX5_setBroken 72 = .ok (.iload_n 2, 1) := by decide +kernel
theorem dX5_setBroken_73 : decode cX5_setBroken 73 = .ok (.ishl, 1) := by decide +kernel
theorem dX5_setBroken_74 : decode cX5_setBroken 74 = .ok (.ior, 1) := by decide +kernel
theorem dX5_setBroken_75 : decode cX5_setBroken 75 = .ok (.iastore, 1) := by decide +kernel
theorem dX5_setBroken_76 : decode cX5_setBroken 76 = .ok (.iload 4, 2) := by decide +kernel
theorem dX5_setBroken_78 : decode cX5_setBroken 78 = .ok (.ireturn, 1) := by decide +kernel
set_option maxRecDepth 20000 in
theorem ggX5_isSetting_X5_in : GoodIn wsX5_isSetting wsX5_in := goodIn_r _ [4] (by decide +kernel) (by decide +kernel)
set_option maxRecDepth 20000 in
theorem gX5_isSetting_X5_in : GoodIn wsX5_isSetting (va_wsS RX5 56 yX5_in wsX5_in) := goodIn_app (goodIn_of _ (by decide +kernel)) ggX5_isSetting_X5_in
theorem dX5_isSetting_0 : decode cX5_isSetting 0 = .ok (.iload_n 0, 1) := by decide +kernel
theorem dX5_isSetting_1 : decode cX5_isSetting 1 = .ok (.tableswitch 65 0 3 #[31, 40, 48, 57], 31) := by decide +kernel
theorem dX5_isSetting_32 : decode cX5_isSetting 32 = .ok (.iload_n 1, 1) := by decide +kernel
theorem dX5_isSetting_33 : decode cX5_isSetting 33 = .ok (.bipush (-60), 2) := by decide +kernel
theorem dX5_isSetting_35 : decode cX5_isSetting 35 = .ok (.bipush 60, 2) := by decide +kernel
theorem dX5_isSetting_37 : decode cX5_isSetting 37 = .ok (.invokestatic 56, 3) := by decide +kernel
theorem dX5_isSetting_40 : decode cX5_isSetting 40 = .ok (.ireturn, 1) := by decide +kernel
theorem dX5_isSetting_41 : decode cX5_isSetting 41 = .ok (.iload_n 1, 1) := by decide +kernel
theorem dX5_isSetting_42 : decode cX5_isSetting 42 = .ok (.iconst 1, 1) := by decide +kernel
theorem dX5_isSetting_43 : decode cX5_isSetting 43 = .ok (.bipush 20, 2) := by decide +kernel
theorem dX5_isSetting_45 : decode cX5_isSetting 45 = .ok (.invokestatic 56, 3) := by decide +kernel
theorem dX5_isSetting_48 : decode cX5_isSetting 48 = .ok (.ireturn, 1) := by decide +kernel
theorem dX5_isSetting_49 : decode cX5_isSetting 49 = .ok (.iload_n 1, 1) := by decide +kernel
theorem dX5_isSetting_50 : decode cX5_isSetting 50 = .ok (.iconst 1, 1) := by decide +kernel
theorem dX5_isSetting_51 : decode cX5_isSetting 51 = .ok (.sipush 9999, 3) := by decide +kernel
theorem dX5_isSetting_54 : decode cX5_isSetting 54 = .ok (.invokestatic 56, 3) := by decide +kernel
theorem dX5_isSetting_57 : decode cX5_isSetting 57 = .ok (.ireturn, 1) := by decide +kernel
theorem dX5_isSetting_58 : decode cX5_isSetting 58 = .ok (.iload_n 1, 1) := by decide +kernel
theorem dX5_isSetting_59 : decode cX5_isSetting 59 = .ok (.iconst 1, 1) := by decide +kernel
theorem dX5_isSetting_60 : decode cX5_isSetting 60 = .ok (.bipush 99, 2) := by decide +kernel
theorem dX5_isSetting_62 : decode cX5_isSetting 62 = .ok (.invokestatic 56, 3) := by decide +kernel

theorem dX4_append_14 : decode cX4_append 14 = .ok (.aload_n 0, 1) := by decide +kernel
theorem dX4_append_15 : decode cX4_append 15 = .ok (.getfield 31, 3) := by decide +kernel
theorem dX4_append_18 : decode cX4_append 18 = .ok (.sipush 160, 3) := by decide +kernel
theorem dX4_append_21 : decode cX4_append 21 = .ok (.if_icmp .lt 6, 3) := by decide +kernel
theorem dX4_append_24 : decode cX4_append 24 = .ok (.bipush (-103), 2) := by decide +kernel
theorem dX4_append_26 : decode cX4_append 26 = .ok (.ireturn, 1) := by decide +kernel
theorem dX4_append_27 : decode cX4_append 27 = .ok (.aload_n 0, 1) := by decide +kernel
theorem dX4_append_28 : decode cX4_append 28 = .ok (.getfield 27, 3) := by decide +kernel
theorem dX4_append_31 : decode cX4_append 31 = .ok (.aload_n 0, 1) := by decide +kernel
theorem dX4_append_32 : decode cX4_append 32 = .ok (.getfield 31, 3) := by decide +kernel
theorem dX4_append_35 : decode cX4_append 35 = .ok (.iload_n 1, 1) := by decide +kernel
theorem dX4_append_36 : decode cX4_append 36 = .ok (.i2c, 1) := by decide +kernel
theorem dX4_append_37 : decode cX4_append 37 = .ok (.castore, 1) := by decide +kernel
theorem dX4_append_38 : decode cX4_append 38 = .ok (.aload_n 0, 1) := by decide +kernel
theorem dX4_append_39 : decode cX4_append 39 = .ok (.dup, 1) := by decide +kernel
theorem dX4_append_40 : decode cX4_append 40 = .ok (.getfield 31, 3) := by decide +kernel
theorem dX4_append_43 : decode cX4_append 43 = .ok (.iconst 1, 1) := by decide +kernel
theorem dX4_append_44 : decode cX4_append 44 = .ok (.iadd, 1) := by decide +kernel
theorem dX4_append_45 : decode cX4_append 45 = .ok (.putfield 31, 3) := by decide +kernel
theorem dX4_append_48 : decode cX4_append 48 = .ok (.aload_n 0, 1) := by decide +kernel
theorem dX4_append_49 : decode cX4_append 49 = .ok (.getfield 31, 3) := by decide +kernel
theorem dX4_append_52 : decode cX4_append 52 = .ok (.ireturn, 1) := by decide +kernel
set_option maxRecDepth 20000 in
theorem ggX4_load_X2_pictureNumbered : GoodIn wsX4_load wsX2_pictureNumbered := goodIn_r _ [17, 18, 19, 20, 21, 22, 114, 115, 116, 117, 118, 119, 120, 121, 122, 123, 124] (by decide +kernel) (by decide +kernel)
set_option maxRecDepth 20000 in
theorem gX4_load_X2_pictureNumbered : GoodIn wsX4_load (wsV RX4 71 RX2 yX2_pictureNumbered wsX2_pictureNumbered) := goodIn_app (goodIn_of _ (by decide +kernel)) ggX4_load_X2_pictureNumbered
set_option maxRecDepth 20000 in
theorem ggX4_load_X1_read : GoodIn wsX4_load wsX1_read := goodIn_r _ [27, 28, 29, 30, 31, 32, 33, 34, 26, 35, 36, 37, 38, 39, 40, 41, 42, 43, 44, 45, 46, 47, 48, 49, 50, 21, 51, 52, 53, 54, 55, 56, 57, 58, 59, 60, 61, 103, 104, 105, 106, 107, 108] (by decide +kernel) (by decide +kernel)
set_option maxRecDepth 20000 in
theorem gX4_load_X1_read : GoodIn wsX4_load (wsV RX4 95 RX1 yX1_read wsX1_read) := goodIn_app (goodIn_of _ (by decide +kernel)) ggX4_load_X1_read
set_option maxRecDepth 20000 in
theorem ggX4_load_X4_record : GoodIn wsX4_load wsX4_record := goodIn_r _ [65, 66, 67, 68, 1, 69, 70, 71, 16, 72, 18, 19, 73, 74, 75, 76, 77, 78, 79, 10, 11, 12, 80, 81, 82, 83, 84, 85, 86, 87, 88, 89, 90, 91, 92, 93, 94, 95, 96, 97, 98, 99, 100, 101, 102, 114, 115, 116, 117, 118, 119, 120, 121, 122, 123, 124, 109, 110, 111, 112, 113] (by decide +kernel) (by decide +kernel)
set_option maxRecDepth 20000 in
theorem gX4_load_X4_record : GoodIn wsX4_load (wsV RX4 59 RX4 yX4_record wsX4_record) := goodIn_app (goodIn_of _ (by decide +kernel)) ggX4_load_X4_record
theorem dX4_load_0 : decode cX4_load 0 = .ok (.aload_n 0, 1) := by decide +kernel
theorem dX4_load_1 : decode cX4_load 1 = .ok (.getfield 10, 3) := by decide +kernel
theorem dX4_load_4 : decode cX4_load 4 = .ok (.iload_n 1, 1) := by decide +kernel
theorem dX4_load_5 : decode cX4_load 5 = .ok (.invokevirtual 71, 3) := by decide +kernel
theorem dX4_load_8 : decode cX4_load 8 = .ok (.astore_n 2, 1) := by decide +kernel
theorem dX4_load_9 : decode cX4_load 9 = .ok (.aload_n 2, 1) := by decide +kernel
theorem dX4_load_10 : decode cX4_load 10 = .ok (.ifnonnull 6, 3) := by decide +kernel
theorem dX4_load_13 : decode cX4_load 13 = .ok (.bipush (-101), 2) := by decide +kernel
theorem dX4_load_15 : decode cX4_load 15 = .ok (.ireturn, 1) := by decide +kernel
theorem dX4_load_16 : decode cX4_load 16 = .ok (.aload_n 0, 1) := by decide +kernel
theorem dX4_load_17 : decode cX4_load 17 = .ok (.getfield 37, 3) := by decide +kernel
theorem dX4_load_20 : decode cX4_load 20 = .ok (.aload_n 0, 1) := by decide +kernel
theorem dX4_load_21 : decode cX4_load 21 = .ok (.getfield 27, 3) := by decide +kernel
theorem dX4_load_24 : decode cX4_load 24 = .ok (.aload_n 0, 1) := by decide +kernel
theorem dX4_load_25 : decode cX4_load 25 = .ok (.getfield 31, 3) := by decide +kernel
theorem dX4_load_28 : decode cX4_load 28 = .ok (.invokevirtual 95, 3) := by decide +kernel
theorem dX4_load_31 : decode cX4_load 31 = .ok (.istore_n 3, 1) := by decide +kernel
theorem dX4_load_32 : decode cX4_load 32 = .ok (.iload_n 3, 1) := by decide +kernel
theorem dX4_load_33 : decode cX4_load 33 = .ok (.ifCond .lt 9, 3) := by decide +kernel
theorem dX4_load_36 : decode cX4_load 36 = .ok (.sipush (-1000), 3) := by decide +kernel
theorem dX4_load_39 : decode cX4_load 39 = .ok (.iload_n 3, 1) := by decide +kernel
theorem dX4_load_40 : decode cX4_load 40 = .ok (.isub, 1) := by decide +kernel
theorem dX4_load_41 : decode cX4_load 41 = .ok (.ireturn, 1) := by decide +kernel
theorem dX4_load_42 : decode cX4_load 42 = .ok (.aload_n 0, 1) := by decide +kernel
theorem dX4_load_43 : decode cX4_load 43 = .ok (.invokevirtual 59, 3) := by decide +kernel
theorem dX4_load_46 : decode cX4_load 46 = .ok (.aload_n 2, 1) := by decide +kernel
theorem dX4_load_47 : decode cX4_load 47 = .ok (.aload_n 0, 1) := by decide +kernel
theorem dX4_load_48 : decode cX4_load 48 = .ok (.getfield 37, 3) := by decide +kernel
theorem dX4_load_51 : decode cX4_load 51 = .ok (.getfield 99, 3) := by decide +kernel
theorem dX4_load_54 : decode cX4_load 54 = .ok (.putfield 66, 3) := by decide +kernel
theorem dX4_load_57 : decode cX4_load 57 = .ok (.aload_n 0, 1) := by decide +kernel
theorem dX4_load_58 : decode cX4_load 58 = .ok (.getfield 37, 3) := by decide +kernel
theorem dX4_load_61 : decode cX4_load 61 = .ok (.getfield 102, 3) := by decide +kernel
theorem dX4_load_64 : decode cX4_load 64 = .ok (.iconst 0, 1) := by decide +kernel
theorem dX4_load_65 : decode cX4_load 65 = .ok (.aload_n 2, 1) := by decide +kernel
theorem dX4_load_66 : decode cX4_load 66 = .ok (.getfield 75, 3) := by decide +kernel
theorem dX4_load_69 : decode cX4_load 69 = .ok (.iconst 0, 1) := by decide +kernel
theorem dX4_load_70 : decode cX4_load 70 = .ok (.bipush 40, 2) := by decide +kernel
theorem dX4_load_72 : decode cX4_load 72 = .ok (.invokestatic 103, 3) := by decide +kernel
theorem dX4_load_75 : decode cX4_load 75 = .ok (.aload_n 0, 1) := by decide +kernel
theorem dX4_load_76 : decode cX4_load 76 = .ok (.iconst 0, 1) := by decide +kernel
theorem dX4_load_77 : decode cX4_load 77 = .ok (.putfield 31, 3) := by decide +kernel
theorem dX4_load_80 : decode cX4_load 80 = .ok (.aload_n 2, 1) := by decide +kernel
theorem dX4_load_81 : decode cX4_load 81 = .ok (.getfield 66, 3) := by decide +kernel
theorem dX4_load_84 : decode cX4_load 84 = .ok (.ireturn, 1) := by decide +kernel
set_option maxRecDepth 20000 in
theorem ggX4_setSecondArm_X4_within : GoodIn wsX4_setSecondArm wsX4_within := goodIn_r _ [6] (by decide +kernel) (by decide +kernel)
set_option maxRecDepth 20000 in
theorem gX4_setSecondArm_X4_within : GoodIn wsX4_setSecondArm (va_wsS RX4 52 yX4_within wsX4_within) := goodIn_app (goodIn_of _ (by decide +kernel)) ggX4_setSecondArm_X4_within
set_option maxRecDepth 20000 in
theorem ggX4_setSecondArm_X4_record : GoodIn wsX4_setSecondArm wsX4_record := goodIn_r _ [10, 11, 12, 13, 1, 14, 15, 16, 17, 18, 19, 20, 21, 22, 23, 24, 25, 26, 27, 28, 29, 30, 31, 32, 33, 34, 35, 36, 37, 38, 39, 40, 41, 42, 43, 44, 45, 46, 47, 48, 49, 50, 51, 52, 53, 54, 55, 56, 57, 58, 59, 60, 61, 62, 63, 64, 65, 66, 67, 68, 69] (by decide +kernel) (by decide +kernel)
set_option maxRecDepth 20000 in
theorem gX4_setSecondArm_X4_record : GoodIn wsX4_setSecondArm (wsV RX4 59 RX4 yX4_record wsX4_record) := goodIn_app (goodIn_of _ (by decide +kernel)) ggX4_setSecondArm_X4_record
theorem dX4_setSecondArm_0 : decode cX4_setSecondArm 0 = .ok (.iload_n 1, 1) := by decide +kernel
theorem dX4_setSecondArm_1 : decode cX4_setSecondArm 1 = .ok (.iconst 0, 1) := by decide +kernel
theorem dX4_setSecondArm_2 : decode cX4_setSecondArm 2 = .ok (.iconst 1, 1) := by decide +kernel
theorem dX4_setSecondArm_3 : decode cX4_setSecondArm 3 = .ok (.invokestatic 52, 3) := by decide +kernel
theorem dX4_setSecondArm_6 : decode cX4_setSecondArm 6 = .ok (.ifCond .ne 6, 3) := by decide +kernel
theorem dX4_setSecondArm_9 : decode cX4_setSecondArm 9 = .ok (.bipush (-101), 2) := by decide +kernel
theorem dX4_setSecondArm_11 : decode cX4_setSecondArm 11 = .ok (.ireturn, 1) := by decide +kernel
theorem dX4_setSecondArm_12 : decode cX4_setSecondArm 12 = .ok (.aload_n 0, 1) := by decide +kernel
theorem dX4_setSecondArm_13 : decode cX4_setSecondArm 13 = .ok (.invokevirtual 59, 3) := by decide +kernel
theorem dX4_setSecondArm_16 : decode cX4_setSecondArm 16 = .ok (.aload_n 0, 1) := by decide +kernel
theorem dX4_setSecondArm_17 : decode cX4_setSecondArm 17 = .ok (.getfield 10, 3) := by decide +kernel
theorem dX4_setSecondArm_20 : decode cX4_setSecondArm 20 = .ok (.getfield 109, 3) := by decide +kernel
theorem dX4_setSecondArm_23 : decode cX4_setSecondArm 23 = .ok (.istore_n 2, 1) := by decide +kernel
theorem dX4_setSecondArm_24 : decode cX4_setSecondArm 24 = .ok (.aload_n 0, 1) := by decide +kernel
theorem dX4_setSecondArm_25 : decode cX4_setSecondArm 25 = .ok (.getfield 10, 3) := by decide +kernel
theorem dX4_setSecondArm_28 : decode cX4_setSecondArm 28 = .ok (.iload_n 1, 1) := by decide +kernel
theorem dX4_setSecondArm_29 : decode cX4_setSecondArm 29 = .ok (.putfield 109, 3) := by decide +kernel
theorem dX4_setSecondArm_32 : decode cX4_setSecondArm 32 = .ok (.iload_n 2, 1) := by decide +kernel
theorem dX4_setSecondArm_33 : decode cX4_setSecondArm 33 = .ok (.ireturn, 1) := by decide +kernel
set_option maxRecDepth 20000 in
theorem ggX4_setBroken_X4_within : GoodIn wsX4_setBroken wsX4_within := goodIn_r _ [7] (by decide +kernel) (by decide +kernel)
set_option maxRecDepth 20000 in
theorem gX4_setBroken_X4_within : GoodIn wsX4_setBroken (va_wsS RX4 52 yX4_within wsX4_within) := goodIn_app (goodIn_of _ (by decide +kernel)) ggX4_setBroken_X4_within
set_option maxRecDepth 20000 in
theorem ggX4_setBroken_X4_record : GoodIn wsX4_setBroken wsX4_record := goodIn_r _ [11, 12, 13, 14, 1, 15, 16, 17, 18, 19, 20, 21, 22, 23, 24, 25, 26, 27, 28, 29, 30, 31, 32, 33, 34, 35, 36, 37, 38, 39, 40, 41, 42, 43, 44, 45, 50, 51, 52, 53, 54, 55, 56, 57, 58, 59, 60, 61, 62, 63, 64, 65, 66, 67, 68, 69, 70, 71, 72, 73, 74] (by decide +kernel) (by decide +kernel)
set_option maxRecDepth 20000 in
theorem gX4_setBroken_X4_record : GoodIn wsX4_setBroken (wsV RX4 59 RX4 yX4_record wsX4_record) := goodIn_app (goodIn_of _ (by decide +kernel)) ggX4_setBroken_X4_record
set_option maxRecDepth 20000 in
theorem ggX4_setBroken_X2_works : GoodIn wsX4_setBroken wsX2_works := goodIn_r _ [49, 32, 59, 60, 61, 62, 63, 64, 65, 66, 67, 68, 69] (by decide +kernel) (by decide +kernel)
set_option maxRecDepth 20000 in
theorem gX4_setBroken_X2_works : GoodIn wsX4_setBroken (wsV RX4 112 RX2 yX2_works wsX2_works) := goodIn_app (goodIn_of _ (by decide +kernel)) ggX4_setBroken_X2_works
theorem dX4_setBroken_0 : decode cX4_setBroken 0 = .ok (.iload_n 1, 1) := by decide +kernel
theorem dX4_setBroken_1 : decode cX4_setBroken 1 = .ok (.iconst 0, 1) := by decide +kernel
theorem dX4_setBroken_2 : decode cX4_setBroken 2 = .ok (.iconst 1, 1) := by decide +kernel
theorem dX4_setBroken_3 : decode cX4_setBroken 3 = .ok (.invokestatic 52, 3) := by decide +kernel
theorem dX4_setBroken_6 : decode cX4_setBroken 6 = .ok (.ifCond .eq 22, 3) := by decide +kernel
theorem dX4_setBroken_9 : decode cX4_setBroken 9 = .ok (.iload_n 2, 1) := by decide +kernel
theorem dX4_setBroken_10 : decode cX4_setBroken 10 = .ok (.iconst 0, 1) := by decide +kernel
theorem dX4_setBroken_11 : decode cX4_setBroken 11 = .ok (.bipush 11, 2) := by decide +kernel
theorem dX4_setBroken_13 : decode cX4_setBroken 13 = .ok (.invokestatic 52, 3) := by decide +kernel
theorem dX4_setBroken_16 : decode cX4_setBroken 16 = .ok (.ifCond .eq 12, 3) := by decide +kernel
theorem dX4_setBroken_19 : decode cX4_setBroken 19 = .ok (.iload_n 3, 1) := by decide +kernel
theorem dX4_setBroken_20 : decode cX4_setBroken 20 = .ok (.iconst 0, 1) := by decide +kernel
theorem dX4_setBroken_21 : decode cX4_setBroken 21 = .ok (.iconst 1, 1) := by decide +kernel
theorem dX4_setBroken_22 : decode cX4_setBroken 22 = .ok (.invokestatic 52, 3) := by decide +kernel
theorem dX4_setBroken_25 : decode cX4_setBroken 25 = .ok (.ifCond .ne 6, 3) := by decide +kernel
theorem dX4_setBroken_28 : decode cX4_setBroken 28 = .ok (.bipush (-101), 2) := by decide +kernel
theorem dX4_setBroken_30 : decode cX4_setBroken 30 = .ok (.ireturn, 1) := by decide +kernel
theorem dX4_setBroken_31 : decode cX4_setBroken 31 = .ok (.aload_n 0, 1) := by decide +kernel
theorem dX4_setBroken_32 : decode cX4_setBroken 32 = .ok (.invokevirtual 59, 3) := by decide +kernel
theorem dX4_setBroken_35 : decode cX4_setBroken 35 = .ok (.aload_n 0, 1) := by decide +kernel
theorem dX4_setBroken_36 : decode cX4_setBroken 36 = .ok (.getfield 10, 3) := by decide +kernel
theorem dX4_setBroken_39 : decode cX4_setBroken 39 = .ok (.iload_n 1, 1) := by decide +kernel
theorem dX4_setBroken_40 : decode cX4_setBroken 40 = .ok (.iload_n 2, 1) := by decide +kernel
theorem dX4_setBroken_41 : decode cX4_setBroken 41 = .ok (.invokevirtual 112, 3) := by decide +kernel
theorem dX4_setBroken_44 : decode cX4_setBroken 44 = .ok (.ifCond .eq 7, 3) := by decide +kernel
theorem dX4_setBroken_47 : decode cX4_setBroken 47 = .ok (.iconst 0, 1) := by decide +kernel
theorem dX4_setBroken_48 : decode cX4_setBroken 48 = .ok (.goto 4, 3) := by decide +kernel
theorem dX4_setBroken_51 : decode cX4_setBroken 51 = .ok (.iconst 1, 1) := by decide +kernel
theorem dX4_setBroken_52 : decode cX4_setBroken 52 = .ok (.istore 4, 2) := by decide +kernel
theorem dX4_setBroken_54 : decode cX4_setBroken 54 = .ok (.lconst 1, 1) := by decide +kernel
theorem dX4_setBroken_55 : decode cX4_setBroken 55 = .ok (.iload_n 2, 1) := by decide +kernel
theorem dX4_setBroken_56 : decode cX4_setBroken 56 = .ok (.iconst 3, 1) := by decide +kernel
theorem dX4_setBroken_57 : decode cX4_setBroken 57 = .ok (.imul, 1) := by decide +kernel
theorem dX4_setBroken_58 : decode cX4_setBroken 58 = .ok (.lshl, 1) := by decide +kernel
theorem dX4_setBroken_59 : decode cX4_setBroken 59 = .ok (.lstore 5, 2) := by decide +kernel
theorem dX4_setBroken_61 : decode cX4_setBroken 61 = .ok (.aload_n 0, 1) := by decide +kernel
theorem dX4_setBroken_62 : decode cX4_setBroken 62 = .ok (.getfield 10, 3) := by decide +kernel
theorem dX4_setBroken_65 : decode cX4_setBroken 65 = .ok (.getfield 116, 3) := by decide +kernel
theorem dX4_setBroken_68 : decode cX4_setBroken 68 = .ok (.iload_n 1, 1) := by decide +kernel
theorem dX4_setBroken_69 : decode cX4_setBroken 69 = .ok (.iload_n 3, 1) := by decide +kernel
theorem dX4_setBroken_70 : decode cX4_setBroken 70 = .ok (.iconst 1, 1) := by decide +kernel
theorem dX4_setBroken_71 : decode cX4_setBroken 71 = .ok (.if_icmp .ne 22, 3) := by decide +kernel
theorem dX4_setBroken_74 : decode cX4_setBroken 74 = .ok (.aload_n 0, 1) := by decide +kernel
theorem dX4_setBroken_75 : decode cX4_setBroken 75 = .ok (.getfield 10, 3) := by decide +kernel
theorem dX4_setBroken_78 : decode cX4_setBroken 78 = .ok (.getfield 116, 3) := by decide +kernel
theorem dX4_setBroken_81 : decode cX4_setBroken 81 = .ok (.iload_n 1, 1) := by decide +kernel
theorem dX4_setBroken_82 : decode cX4_setBroken 82 = .ok (.laload, 1) := by decide +kernel
theorem dX4_setBroken_83 : decode cX4_setBroken 83 = .ok (.lload 5, 2) := by decide +kernel
theorem dX4_setBroken_85 : decode cX4_setBroken 85 = .ok (.ldc2_w 119, 3) := by decide +kernel
theorem dX4_setBroken_88 : decode cX4_setBroken 88 = .ok (.lxor, 1) := by decide +kernel
theorem dX4_setBroken_89 : decode cX4_setBroken 89 = .ok (.land, 1) := by decide +kernel
theorem dX4_setBroken_90 : decode cX4_setBroken 90 = .ok (.goto 15, 3) := by decide +kernel
theorem dX4_setBroken_93 : decode cX4_setBroken 93 = .ok (.aload_n 0, 1) := by decide +kernel
theorem dX4_setBroken_94 : decode cX4_setBroken 94 = .ok (.getfield 10, 3) := by decide +kernel
theorem dX4_setBroken_97 : decode cX4_setBroken 97 = .ok (.getfield 116, 3) := by decide +kernel
theorem dX4_setBroken_100 : decode cX4_setBroken 100 = .ok (.iload_n 1, 1) := by decide +kernel
theorem dX4_setBroken_101 : decode cX4_setBroken 101 = .ok (.laload, 1) := by decide +kernel
theorem dX4_setBroken_102 : decode cX4_setBroken 102 = .ok (.lload 5, 2) := by decide +kernel
theorem dX4_setBroken_104 : decode cX4_setBroken 104 = .ok (.lor, 1) := by decide +kernel
theorem dX4_setBroken_105 : decode cX4_setBroken 105 = .ok (.lastore, 1) := by decide +kernel
theorem dX4_setBroken_106 : decode cX4_setBroken 106 = .ok (.iload 4, 2) := by decide +kernel
theorem dX4_setBroken_108 : decode cX4_setBroken 108 = .ok (.ireturn, 1) := by decide +kernel
set_option maxRecDepth 20000 in
theorem ggX4_set_X4_within : GoodIn wsX4_set wsX4_within := goodIn_r _ [8] (by decide +kernel) (by decide +kernel)
set_option maxRecDepth 20000 in
theorem gX4_set_X4_within : GoodIn wsX4_set (va_wsS RX4 52 yX4_within wsX4_within) := goodIn_app (goodIn_of _ (by decide +kernel)) ggX4_set_X4_within
set_option maxRecDepth 20000 in
theorem ggX4_set_X4_record : GoodIn wsX4_set wsX4_record := goodIn_r _ [12, 13, 14, 15, 3, 16, 17, 18, 19, 20, 21, 22, 23, 24, 25, 26, 27, 28, 29, 30, 31, 32, 33, 34, 35, 36, 37, 38, 39, 40, 41, 42, 43, 44, 45, 46, 47, 48, 49, 50, 51, 52, 53, 54, 55, 56, 57, 58, 59, 60, 61, 62, 63, 64, 65, 66, 67, 68, 69, 70, 71] (by decide +kernel) (by decide +kernel)
set_option maxRecDepth 20000 in
theorem gX4_set_X4_record : GoodIn wsX4_set (wsV RX4 59 RX4 yX4_record wsX4_record) := goodIn_app (goodIn_of _ (by decide +kernel)) ggX4_set_X4_record
theorem dX4_set_0 : decode cX4_set 0 = .ok (.iload_n 1, 1) := by decide +kernel
theorem dX4_set_1 : decode cX4_set 1 = .ok (.iconst 0, 1) := by decide +kernel
theorem dX4_set_2 : decode cX4_set 2 = .ok (.iconst 3, 1) := by decide +kernel
theorem dX4_set_3 : decode cX4_set 3 = .ok (.invokestatic 52, 3) := by decide +kernel
theorem dX4_set_6 : decode cX4_set 6 = .ok (.ifCond .eq 20, 3) := by decide +kernel
theorem dX4_set_9 : decode cX4_set 9 = .ok (.iload_n 2, 1) := by decide +kernel
theorem dX4_set_10 : decode cX4_set 10 = .ok (.getstatic 121, 3) := by decide +kernel
theorem dX4_set_13 : decode cX4_set 13 = .ok (.iload_n 1, 1) := by decide +kernel
theorem dX4_set_14 : decode cX4_set 14 = .ok (.iaload, 1) := by decide +kernel
theorem dX4_set_15 : decode cX4_set 15 = .ok (.getstatic 125, 3) := by decide +kernel
theorem dX4_set_18 : decode cX4_set 18 = .ok (.iload_n 1, 1) := by decide +kernel
theorem dX4_set_19 : decode cX4_set 19 = .ok (.iaload, 1) := by decide +kernel
theorem dX4_set_20 : decode cX4_set 20 = .ok (.invokestatic 52, 3) := by decide +kernel
theorem dX4_set_23 : decode cX4_set 23 = .ok (.ifCond .ne 6, 3) := by decide +kernel
theorem dX4_set_26 : decode cX4_set 26 = .ok (.bipush (-101), 2) := by decide +kernel
theorem dX4_set_28 : decode cX4_set 28 = .ok (.ireturn, 1) := by decide +kernel
theorem dX4_set_29 : decode cX4_set 29 = .ok (.aload_n 0, 1) := by decide +kernel
theorem dX4_set_30 : decode cX4_set 30 = .ok (.invokevirtual 59, 3) := by decide +kernel
theorem dX4_set_33 : decode cX4_set 33 = .ok (.aload_n 0, 1) := by decide +kernel
theorem dX4_set_34 : decode cX4_set 34 = .ok (.getfield 10, 3) := by decide +kernel
theorem dX4_set_37 : decode cX4_set 37 = .ok (.getfield 128, 3) := by decide +kernel
theorem dX4_set_40 : decode cX4_set 40 = .ok (.iload_n 1, 1) := by decide +kernel
theorem dX4_set_41 : decode cX4_set 41 = .ok (.iaload, 1) := by decide +kernel
theorem dX4_set_42 : decode cX4_set 42 = .ok (.istore_n 3, 1) := by decide +kernel
theorem dX4_set_43 : decode cX4_set 43 = .ok (.aload_n 0, 1) := by decide +kernel
theorem dX4_set_44 : decode cX4_set 44 = .ok (.getfield 10, 3) := by decide +kernel
theorem dX4_set_47 : decode cX4_set 47 = .ok (.getfield 128, 3) := by decide +kernel
theorem dX4_set_50 : decode cX4_set 50 = .ok (.iload_n 1, 1) := by decide +kernel
theorem dX4_set_51 : decode cX4_set 51 = .ok (.iload_n 2, 1) := by decide +kernel
theorem dX4_set_52 : decode cX4_set 52 = .ok (.iastore, 1) := by decide +kernel
theorem dX4_set_53 : decode cX4_set 53 = .ok (.iload_n 3, 1) := by decide +kernel
theorem dX4_set_54 : decode cX4_set 54 = .ok (.ireturn, 1) := by decide +kernel
set_option maxRecDepth 20000 in
theorem ggX4_run_X4_within : GoodIn wsX4_run wsX4_within := goodIn_r _ [9] (by decide +kernel) (by decide +kernel)
set_option maxRecDepth 20000 in
theorem gX4_run_X4_within : GoodIn wsX4_run (va_wsS RX4 52 yX4_within wsX4_within) := goodIn_app (goodIn_of _ (by decide +kernel)) ggX4_run_X4_within
set_option maxRecDepth 20000 in
theorem ggX4_run_X4_record : GoodIn wsX4_run wsX4_record := goodIn_r _ [13, 14, 15, 16, 1, 17, 18, 19, 20, 21, 22, 23, 24, 25, 26, 27, 28, 29, 30, 31, 32, 33, 34, 35, 36, 37, 38, 39, 40, 41, 42, 43, 44, 45, 46, 47, 163, 164, 165, 166, 167, 168, 169, 170, 171, 172, 173, 174, 175, 176, 177, 178, 179, 180, 181, 182, 183, 184, 185, 186, 187] (by decide +kernel) (by decide +kernel)
set_option maxRecDepth 20000 in
theorem gX4_run_X4_record : GoodIn wsX4_run (wsV RX4 59 RX4 yX4_record wsX4_record) := goodIn_app (goodIn_of _ (by decide +kernel)) ggX4_run_X4_record
set_option maxRecDepth 20000 in
theorem ggX4_run_X3_prepare : GoodIn wsX4_run wsX3_prepare := goodIn_r _ [52, 53, 54, 55, 56, 57, 58, 59, 60, 61, 62, 63, 20, 64, 22, 23, 65, 66, 67, 40, 68, 45, 46, 69, 70, 71, 72, 43, 73, 74, 75, 76, 77, 78, 79, 80, 42, 44, 81, 82, 83, 84, 85, 86, 87, 88, 89, 8, 90, 91, 92, 93, 94, 95, 96, 97, 98, 99, 100, 51, 101, 172, 173, 174, 175, 176, 177, 178, 179, 180, 181, 182, 188, 189, 190, 191, 192, 193, 194, 195, 196, 197, 198, 183, 184, 185, 186, 187] (by decide +kernel) (by decide +kernel)
set_option maxRecDepth 20000 in
theorem gX4_run_X3_prepare : GoodIn wsX4_run (wsV RX4 134 RX3 yX3_prepare wsX3_prepare) := goodIn_app (goodIn_of _ (by decide +kernel)) ggX4_run_X3_prepare
set_option maxRecDepth 20000 in
theorem ggX4_run_X3_start : GoodIn wsX4_run wsX3_start := goodIn_r _ [105, 106, 107, 108, 109, 110, 111, 112, 113, 114, 188, 189, 190, 191, 192, 193, 194, 195, 196, 197, 198, 172, 173, 174, 175, 176, 177, 178, 179, 180, 181, 182] (by decide +kernel) (by decide +kernel)
set_option maxRecDepth 20000 in
theorem gX4_run_X3_start : GoodIn wsX4_run (wsV RX4 138 RX3 yX3_start wsX3_start) := goodIn_app (goodIn_of _ (by decide +kernel)) ggX4_run_X3_start
set_option maxRecDepth 20000 in
theorem ggX4_run_X3_goOn : GoodIn wsX4_run wsX3_goOn := goodIn_r _ [118, 113, 119, 120, 121, 51, 122, 112, 57, 56, 110, 106, 123, 82, 83, 84, 124, 125, 126, 127, 128, 129, 130, 131, 132, 133, 108, 114, 59, 134, 74, 75, 76, 188, 189, 190, 191, 192, 193, 194, 195, 196, 197, 198] (by decide +kernel) (by decide +kernel)
set_option maxRecDepth 20000 in
theorem gX4_run_X3_goOn : GoodIn wsX4_run (wsV RX4 142 RX3 yX3_goOn wsX3_goOn) := goodIn_app (goodIn_of _ (by decide +kernel)) ggX4_run_X3_goOn
set_option maxRecDepth 20000 in
theorem ggX4_run_X2_write : GoodIn wsX4_run wsX2_write := goodIn_r _ [138, 139, 140, 24, 141, 25, 142, 27, 26, 143, 144, 145, 146, 51, 147, 114, 148, 149, 150, 20, 151, 34, 152, 35, 153, 36, 154, 125, 83, 126, 155, 156, 157, 158, 159, 160, 161, 162, 54, 99, 100, 101, 188, 189, 190, 191, 192, 193, 194, 195, 196, 197, 198, 172, 173, 174, 175, 176, 177, 178, 179, 180, 181, 182] (by decide +kernel) (by decide +kernel)
set_option maxRecDepth 20000 in
theorem gX4_run_X2_write : GoodIn wsX4_run (wsV RX4 146 RX2 yX2_write wsX2_write) := goodIn_app (goodIn_of _ (by decide +kernel)) ggX4_run_X2_write
theorem dX4_run_0 : decode cX4_run 0 = .ok (.iload_n 1, 1) := by decide +kernel
theorem dX4_run_1 : decode cX4_run 1 = .ok (.iconst 1, 1) := by decide +kernel
theorem dX4_run_2 : decode cX4_run 2 = .ok (.bipush 100, 2) := by decide +kernel
theorem dX4_run_4 : decode cX4_run 4 = .ok (.invokestatic 52, 3) := by decide +kernel
theorem dX4_run_7 : decode cX4_run 7 = .ok (.ifCond .ne 6, 3) := by decide +kernel
theorem dX4_run_10 : decode cX4_run 10 = .ok (.bipush (-101), 2) := by decide +kernel
theorem dX4_run_12 : decode cX4_run 12 = .ok (.ireturn, 1) := by decide +kernel
theorem dX4_run_13 : decode cX4_run 13 = .ok (.aload_n 0, 1) := by decide +kernel
theorem dX4_run_14 : decode cX4_run 14 = .ok (.getfield 10, 3) := by decide +kernel
theorem dX4_run_17 : decode cX4_run 17 = .ok (.getfield 131, 3) := by decide +kernel
theorem dX4_run_20 : decode cX4_run 20 = .ok (.iload_n 1, 1) := by decide +kernel
theorem dX4_run_21 : decode cX4_run 21 = .ok (.iadd, 1) := by decide +kernel
theorem dX4_run_22 : decode cX4_run 22 = .ok (.sipush 5000, 3) := by decide +kernel
theorem dX4_run_25 : decode cX4_run 25 = .ok (.if_icmp .le 6, 3) := by decide +kernel
theorem dX4_run_28 : decode cX4_run 28 = .ok (.bipush (-103), 2) := by decide +kernel
theorem dX4_run_30 : decode cX4_run 30 = .ok (.ireturn, 1) := by decide +kernel
theorem dX4_run_31 : decode cX4_run 31 = .ok (.aload_n 0, 1) := by decide +kernel
theorem dX4_run_32 : decode cX4_run 32 = .ok (.invokevirtual 59, 3) := by decide +kernel
theorem dX4_run_35 : decode cX4_run 35 = .ok (.aload_n 0, 1) := by decide +kernel
theorem dX4_run_36 : decode cX4_run 36 = .ok (.getfield 44, 3) := by decide +kernel
theorem dX4_run_39 : decode cX4_run 39 = .ok (.aload_n 0, 1) := by decide +kernel
theorem dX4_run_40 : decode cX4_run 40 = .ok (.getfield 10, 3) := by decide +kernel
theorem dX4_run_43 : decode cX4_run 43 = .ok (.invokevirtual 134, 3) := by decide +kernel
theorem dX4_run_46 : decode cX4_run 46 = .ok (.aload_n 0, 1) := by decide +kernel
theorem dX4_run_47 : decode cX4_run 47 = .ok (.getfield 44, 3) := by decide +kernel
theorem dX4_run_50 : decode cX4_run 50 = .ok (.aload_n 0, 1) := by decide +kernel
theorem dX4_run_51 : decode cX4_run 51 = .ok (.getfield 10, 3) := by decide +kernel
theorem dX4_run_54 : decode cX4_run 54 = .ok (.aload_n 0, 1) := by decide +kernel
theorem dX4_run_55 : decode cX4_run 55 = .ok (.getfield 10, 3) := by decide +kernel
theorem dX4_run_58 : decode cX4_run 58 = .ok (.getfield 128, 3) := by decide +kernel
theorem dX4_run_61 : decode cX4_run 61 = .ok (.iconst 0, 1) := by decide +kernel
theorem dX4_run_62 : decode cX4_run 62 = .ok (.iaload, 1) := by decide +kernel
theorem dX4_run_63 : decode cX4_run 63 = .ok (.invokevirtual 138, 3) := by decide +kernel
theorem dX4_run_66 : decode cX4_run 66 = .ok (.aload_n 0, 1) := by decide +kernel
theorem dX4_run_67 : decode cX4_run 67 = .ok (.getfield 44, 3) := by decide +kernel
theorem dX4_run_70 : decode cX4_run 70 = .ok (.iload_n 1, 1) := by decide +kernel
theorem dX4_run_71 : decode cX4_run 71 = .ok (.invokevirtual 142, 3) := by decide +kernel
theorem dX4_run_74 : decode cX4_run 74 = .ok (.aload_n 0, 1) := by decide +kernel
theorem dX4_run_75 : decode cX4_run 75 = .ok (.getfield 10, 3) := by decide +kernel
theorem dX4_run_78 : decode cX4_run 78 = .ok (.aload_n 0, 1) := by decide +kernel
theorem dX4_run_79 : decode cX4_run 79 = .ok (.getfield 44, 3) := by decide +kernel
theorem dX4_run_82 : decode cX4_run 82 = .ok (.invokevirtual 146, 3) := by decide +kernel
theorem dX4_run_85 : decode cX4_run 85 = .ok (.aload_n 0, 1) := by decide +kernel
theorem dX4_run_86 : decode cX4_run 86 = .ok (.getfield 10, 3) := by decide +kernel
theorem dX4_run_89 : decode cX4_run 89 = .ok (.getfield 150, 3) := by decide +kernel
theorem dX4_run_92 : decode cX4_run 92 = .ok (.ireturn, 1) := by decide +kernel
set_option maxRecDepth 20000 in
theorem ggX4_undo_X2_copyFrom : GoodIn wsX4_undo wsX2_copyFrom := goodIn_r _ [9, 10, 11, 12, 13, 14, 15, 16, 17, 18, 19, 20, 21, 22, 23, 24, 25, 26, 27, 28, 29, 30, 31, 32, 33, 34, 35, 45, 46, 47, 48, 49, 50, 51, 52, 53, 54, 55, 56, 57, 58, 59, 60] (by decide +kernel) (by decide +kernel)
set_option maxRecDepth 20000 in
theorem gX4_undo_X2_copyFrom : GoodIn wsX4_undo (wsV RX4 153 RX2 yX2_copyFrom wsX2_copyFrom) := goodIn_app (goodIn_of _ (by decide +kernel)) ggX4_undo_X2_copyFrom
theorem dX4_undo_0 : decode cX4_undo 0 = .ok (.aload_n 0, 1) := by decide +kernel
theorem dX4_undo_1 : decode cX4_undo 1 = .ok (.getfield 24, 3) := by decide +kernel
theorem dX4_undo_4 : decode cX4_undo 4 = .ok (.ifCond .ne 6, 3) := by decide +kernel
theorem dX4_undo_7 : decode cX4_undo 7 = .ok (.bipush (-102), 2) := by decide +kernel
theorem dX4_undo_9 : decode cX4_undo 9 = .ok (.ireturn, 1) := by decide +kernel
theorem dX4_undo_10 : decode cX4_undo 10 = .ok (.aload_n 0, 1) := by decide +kernel
theorem dX4_undo_11 : decode cX4_undo 11 = .ok (.dup, 1) := by decide +kernel
theorem dX4_undo_12 : decode cX4_undo 12 = .ok (.getfield 24, 3) := by decide +kernel
theorem dX4_undo_15 : decode cX4_undo 15 = .ok (.iconst 1, 1) := by decide +kernel
theorem dX4_undo_16 : decode cX4_undo 16 = .ok (.isub, 1) := by decide +kernel
theorem dX4_undo_17 : decode cX4_undo 17 = .ok (.putfield 24, 3) := by decide +kernel
theorem dX4_undo_20 : decode cX4_undo 20 = .ok (.aload_n 0, 1) := by decide +kernel
theorem dX4_undo_21 : decode cX4_undo 21 = .ok (.getfield 10, 3) := by decide +kernel
theorem dX4_undo_24 : decode cX4_undo 24 = .ok (.aload_n 0, 1) := by decide +kernel
theorem dX4_undo_25 : decode cX4_undo 25 = .ok (.getfield 16, 3) := by decide +kernel
theorem dX4_undo_28 : decode cX4_undo 28 = .ok (.aload_n 0, 1) := by decide +kernel
theorem dX4_undo_29 : decode cX4_undo 29 = .ok (.getfield 20, 3) := by decide +kernel
theorem dX4_undo_32 : decode cX4_undo 32 = .ok (.aload_n 0, 1) := by decide +kernel
theorem dX4_undo_33 : decode cX4_undo 33 = .ok (.getfield 24, 3) := by decide +kernel
theorem dX4_undo_36 : decode cX4_undo 36 = .ok (.iadd, 1) := by decide +kernel
theorem dX4_undo_37 : decode cX4_undo 37 = .ok (.iconst 5, 1) := by decide +kernel
theorem dX4_undo_38 : decode cX4_undo 38 = .ok (.irem, 1) := by decide +kernel
theorem dX4_undo_39 : decode cX4_undo 39 = .ok (.aaload, 1) := by decide +kernel
theorem dX4_undo_40 : decode cX4_undo 40 = .ok (.invokevirtual 153, 3) := by decide +kernel
theorem dX4_undo_43 : decode cX4_undo 43 = .ok (.aload_n 0, 1) := by decide +kernel
theorem dX4_undo_44 : decode cX4_undo 44 = .ok (.getfield 24, 3) := by decide +kernel
theorem dX4_undo_47 : decode cX4_undo 47 = .ok (.ireturn, 1) := by decide +kernel
set_option maxRecDepth 20000 in
theorem ggX4_record_X2_copyFrom : GoodIn wsX4_record wsX2_copyFrom := goodIn_r _ [9, 10, 11, 12, 13, 14, 15, 16, 17, 18, 19, 20, 21, 22, 23, 24, 25, 26, 27, 28, 29, 30, 31, 32, 33, 34, 35, 45, 46, 47, 48, 49, 50, 51, 52, 53, 54, 55, 56, 57, 58, 59, 60] (by decide +kernel) (by decide +kernel)
set_option maxRecDepth 20000 in
theorem gX4_record_X2_copyFrom : GoodIn wsX4_record (wsV RX4 153 RX2 yX2_copyFrom wsX2_copyFrom) := goodIn_app (goodIn_of _ (by decide +kernel)) ggX4_record_X2_copyFrom
theorem dX4_record_0 : decode cX4_record 0 = .ok (.aload_n 0, 1) := by decide +kernel
theorem dX4_record_1 : decode cX4_record 1 = .ok (.getfield 24, 3) := by decide +kernel
theorem dX4_record_4 : decode cX4_record 4 = .ok (.iconst 5, 1) := by decide +kernel
theorem dX4_record_5 : decode cX4_record 5 = .ok (.if_icmp .ne 25, 3) := by decide +kernel
theorem dX4_record_8 : decode cX4_record 8 = .ok (.aload_n 0, 1) := by decide +kernel
theorem dX4_record_9 : decode cX4_record 9 = .ok (.aload_n 0, 1) := by decide +kernel
theorem dX4_record_10 : decode cX4_record 10 = .ok (.getfield 20, 3) := by decide +kernel
theorem dX4_record_13 : decode cX4_record 13 = .ok (.iconst 1, 1) := by decide +kernel
theorem dX4_record_14 : decode cX4_record 14 = .ok (.iadd, 1) := by decide +kernel
theorem dX4_record_15 : decode cX4_record 15 = .ok (.iconst 5, 1) := by decide +kernel
theorem dX4_record_16 : decode cX4_record 16 = .ok (.irem, 1) := by decide +kernel
theorem dX4_record_17 : decode cX4_record 17 = .ok (.putfield 20, 3) := by decide +kernel
theorem dX4_record_20 : decode cX4_record 20 = .ok (.aload_n 0, 1) := by decide +kernel
theorem dX4_record_21 : decode cX4_record 21 = .ok (.dup, 1) := by decide +kernel
theorem dX4_record_22 : decode cX4_record 22 = .ok (.getfield 24, 3) := by decide +kernel
theorem dX4_record_25 : decode cX4_record 25 = .ok (.iconst 1, 1) := by decide +kernel
theorem dX4_record_26 : decode cX4_record 26 = .ok (.isub, 1) := by decide +kernel
theorem dX4_record_27 : decode cX4_record 27 = .ok (.putfield 24, 3) := by decide +kernel
theorem dX4_record_30 : decode cX4_record 30 = .ok (.aload_n 0, 1) := by decide +kernel
theorem dX4_record_31 : decode cX4_record 31 = .ok (.getfield 16, 3) := by decide +kernel
theorem dX4_record_34 : decode cX4_record 34 = .ok (.aload_n 0, 1) := by decide +kernel
theorem dX4_record_35 : decode cX4_record 35 = .ok (.getfield 20, 3) := by decide +kernel
theorem dX4_record_38 : decode cX4_record 38 = .ok (.aload_n 0, 1) := by decide +kernel
theorem dX4_record_39 : decode cX4_record 39 = .ok (.getfield 24, 3) := by decide +kernel
theorem dX4_record_42 : decode cX4_record 42 = .ok (.iadd, 1) := by decide +kernel
theorem dX4_record_43 : decode cX4_record 43 = .ok (.iconst 5, 1) := by decide +kernel
theorem dX4_record_44 : decode cX4_record 44 = .ok (.irem, 1) := by decide +kernel
theorem dX4_record_45 : decode cX4_record 45 = .ok (.aaload, 1) := by decide +kernel
theorem dX4_record_46 : decode cX4_record 46 = .ok (.aload_n 0, 1) := by decide +kernel
theorem dX4_record_47 : decode cX4_record 47 = .ok (.getfield 10, 3) := by decide +kernel
theorem dX4_record_50 : decode cX4_record 50 = .ok (.invokevirtual 153, 3) := by decide +kernel
theorem dX4_record_53 : decode cX4_record 53 = .ok (.aload_n 0, 1) := by decide +kernel
theorem dX4_record_54 : decode cX4_record 54 = .ok (.dup, 1) := by decide +kernel
theorem dX4_record_55 : decode cX4_record 55 = .ok (.getfield 24, 3) := by decide +kernel
theorem dX4_record_58 : decode cX4_record 58 = .ok (.iconst 1, 1) := by decide +kernel
theorem dX4_record_59 : decode cX4_record 59 = .ok (.iadd, 1) := by decide +kernel
theorem dX4_record_60 : decode cX4_record 60 = .ok (.putfield 24, 3) := by decide +kernel
theorem dX4_record_63 : decode cX4_record 63 = .ok (.return_, 1) := by decide +kernel
set_option maxRecDepth 20000 in
theorem ggX4_count_X4_countLit : GoodIn wsX4_count wsX4_countLit := goodIn_r _ [14, 1, 15, 16, 17, 18, 19, 20, 21, 22, 23, 24, 25, 26, 27, 28, 29, 30, 13, 31, 32, 33, 34, 35, 36, 37, 38, 39, 79, 80, 81, 82, 83, 84, 85, 86, 87, 88, 89, 90, 91, 92, 93, 94, 95, 96, 97, 98] (by decide +kernel) (by decide +kernel)
set_option maxRecDepth 20000 in
theorem gX4_count_X4_countLit : GoodIn wsX4_count (wsV RX4 162 RX4 yX4_countLit wsX4_countLit) := goodIn_app (goodIn_of _ (by decide +kernel)) ggX4_count_X4_countLit
set_option maxRecDepth 20000 in
theorem ggX4_count_X4_countNotAsWanted : GoodIn wsX4_count wsX4_countNotAsWanted := goodIn_r _ [43, 1, 15, 16, 17, 18, 19, 20, 21, 22, 23, 24, 25, 26, 27, 28, 44, 45, 46, 47, 48, 49, 50, 51, 52, 53, 54, 55, 56, 57, 58, 59, 60, 61, 62, 63, 64, 65, 66, 67, 68, 69, 70, 71, 72, 73, 74, 75, 76, 77, 78, 29, 30, 13, 31, 32, 33, 34, 35, 36, 37, 38, 39, 79, 80, 81, 82, 83, 84, 85, 86, 87, 88, 89, 90, 91, 92, 93, 94, 95, 96, 97, 98, 99, 100, 101, 102, 103] (by decide +kernel) (by decide +kernel)
set_option maxRecDepth 20000 in
theorem gX4_count_X4_countNotAsWanted : GoodIn wsX4_count (wsV RX4 166 RX4 yX4_countNotAsWanted wsX4_countNotAsWanted) := goodIn_app (goodIn_of _ (by decide +kernel)) ggX4_count_X4_countNotAsWanted
theorem dX4_count_0 : decode cX4_count 0 = .ok (.iload_n 1, 1) := by decide +kernel
theorem dX4_count_1 : decode cX4_count 1 = .ok (.tableswitch 123 0 9 #[55, 63, 71, 79, 87, 95, 100, 105, 113, 118], 55) := by decide +kernel
theorem dX4_count_56 : decode cX4_count 56 = .ok (.aload_n 0, 1) := by decide +kernel
theorem dX4_count_57 : decode cX4_count 57 = .ok (.getfield 10, 3) := by decide +kernel
theorem dX4_count_60 : decode cX4_count 60 = .ok (.getfield 56, 3) := by decide +kernel
theorem dX4_count_63 : decode cX4_count 63 = .ok (.ireturn, 1) := by decide +kernel
theorem dX4_count_64 : decode cX4_count 64 = .ok (.aload_n 0, 1) := by decide +kernel
theorem dX4_count_65 : decode cX4_count 65 = .ok (.getfield 10, 3) := by decide +kernel
theorem dX4_count_68 : decode cX4_count 68 = .ok (.getfield 156, 3) := by decide +kernel
theorem dX4_count_71 : decode cX4_count 71 = .ok (.ireturn, 1) := by decide +kernel
theorem dX4_count_72 : decode cX4_count 72 = .ok (.aload_n 0, 1) := by decide +kernel
theorem dX4_count_73 : decode cX4_count 73 = .ok (.getfield 10, 3) := by decide +kernel
theorem dX4_count_76 : decode cX4_count 76 = .ok (.getfield 159, 3) := by decide +kernel
theorem dX4_count_79 : decode cX4_count 79 = .ok (.ireturn, 1) := by decide +kernel
theorem dX4_count_80 : decode cX4_count 80 = .ok (.aload_n 0, 1) := by decide +kernel
theorem dX4_count_81 : decode cX4_count 81 = .ok (.getfield 10, 3) := by decide +kernel
theorem dX4_count_84 : decode cX4_count 84 = .ok (.getfield 131, 3) := by decide +kernel
theorem dX4_count_87 : decode cX4_count 87 = .ok (.ireturn, 1) := by decide +kernel
theorem dX4_count_88 : decode cX4_count 88 = .ok (.aload_n 0, 1) := by decide +kernel
theorem dX4_count_89 : decode cX4_count 89 = .ok (.getfield 10, 3) := by decide +kernel
theorem dX4_count_92 : decode cX4_count 92 = .ok (.getfield 150, 3) := by decide +kernel
theorem dX4_count_95 : decode cX4_count 95 = .ok (.ireturn, 1) := by decide +kernel
theorem dX4_count_96 : decode cX4_count 96 = .ok (.aload_n 0, 1) := by decide +kernel
theorem dX4_count_97 : decode cX4_count 97 = .ok (.invokevirtual 162, 3) := by decide +kernel
theorem dX4_count_100 : decode cX4_count 100 = .ok (.ireturn, 1) := by decide +kernel
theorem dX4_count_101 : decode cX4_count 101 = .ok (.aload_n 0, 1) := by decide +kernel
theorem dX4_count_102 : decode cX4_count 102 = .ok (.invokevirtual 166, 3) := by decide +kernel
theorem dX4_count_105 : decode cX4_count 105 = .ok (.ireturn, 1) := by decide +kernel
theorem dX4_count_106 : decode cX4_count 106 = .ok (.aload_n 0, 1) := by decide +kernel
theorem dX4_count_107 : decode cX4_count 107 = .ok (.getfield 10, 3) := by decide +kernel
theorem dX4_count_110 : decode cX4_count 110 = .ok (.getfield 109, 3) := by decide +kernel
theorem dX4_count_113 : decode cX4_count 113 = .ok (.ireturn, 1) := by decide +kernel
theorem dX4_count_114 : decode cX4_count 114 = .ok (.aload_n 0, 1) := by decide +kernel
theorem dX4_count_115 : decode cX4_count 115 = .ok (.getfield 24, 3) := by decide +kernel
theorem dX4_count_118 : decode cX4_count 118 = .ok (.ireturn, 1) := by decide +kernel
theorem dX4_count_119 : decode cX4_count 119 = .ok (.aload_n 0, 1) := by decide +kernel
theorem dX4_count_120 : decode cX4_count 120 = .ok (.getfield 31, 3) := by decide +kernel
theorem dX4_count_123 : decode cX4_count 123 = .ok (.ireturn, 1) := by decide +kernel
theorem dX4_count_124 : decode cX4_count 124 = .ok (.bipush (-101), 2) := by decide +kernel
theorem dX4_count_126 : decode cX4_count 126 = .ok (.ireturn, 1) := by decide +kernel
set_option maxRecDepth 20000 in
theorem ggX4_setting_X4_within : GoodIn wsX4_setting wsX4_within := goodIn_r _ [6] (by decide +kernel) (by decide +kernel)
set_option maxRecDepth 20000 in
theorem gX4_setting_X4_within : GoodIn wsX4_setting (va_wsS RX4 52 yX4_within wsX4_within) := goodIn_app (goodIn_of _ (by decide +kernel)) ggX4_setting_X4_within
theorem dX4_setting_0 : decode cX4_setting 0 = .ok (.iload_n 1, 1) := by decide +kernel
theorem dX4_setting_1 : decode cX4_setting 1 = .ok (.iconst 0, 1) := by decide +kernel
theorem dX4_setting_2 : decode cX4_setting 2 = .ok (.iconst 3, 1) := by decide +kernel
theorem dX4_setting_3 : decode cX4_setting 3 = .ok (.invokestatic 52, 3) := by decide +kernel
theorem dX4_setting_6 : decode cX4_setting 6 = .ok (.ifCond .eq 15, 3) := by decide +kernel
theorem dX4_setting_9 : decode cX4_setting 9 = .ok (.aload_n 0, 1) := by decide +kernel
theorem dX4_setting_10 : decode cX4_setting 10 = .ok (.getfield 10, 3) := by decide +kernel
theorem dX4_setting_13 : decode cX4_setting 13 = .ok (.getfield 128, 3) := by decide +kernel
theorem dX4_setting_16 : decode cX4_setting 16 = .ok (.iload_n 1, 1) := by decide +kernel
theorem dX4_setting_17 : decode cX4_setting 17 = .ok (.iaload, 1) := by decide +kernel
theorem dX4_setting_18 : decode cX4_setting 18 = .ok (.goto 5, 3) := by decide +kernel
theorem dX4_setting_21 : decode cX4_setting 21 = .ok (.bipush (-101), 2) := by decide +kernel
theorem dX4_setting_23 : decode cX4_setting 23 = .ok (.ireturn, 1) := by decide +kernel
set_option maxRecDepth 20000 in
theorem ggX4_picture_X2_pictureNumbered : GoodIn wsX4_picture wsX2_pictureNumbered := goodIn_r _ [10, 11, 12, 13, 14, 15, 56, 57, 58, 59, 60, 61, 62, 63, 64, 65, 66] (by decide +kernel) (by decide +kernel)
set_option maxRecDepth 20000 in
theorem gX4_picture_X2_pictureNumbered : GoodIn wsX4_picture (wsV RX4 71 RX2 yX2_pictureNumbered wsX2_pictureNumbered) := goodIn_app (goodIn_of _ (by decide +kernel)) ggX4_picture_X2_pictureNumbered
set_option maxRecDepth 20000 in
theorem ggX4_picture_X0_countNotDark : GoodIn wsX4_picture wsX0_countNotDark := goodIn_r _ [20, 21, 22, 23, 14, 24, 25, 26, 27, 28, 29, 30, 31, 32, 51, 52, 53, 54, 55] (by decide +kernel) (by decide +kernel)
set_option maxRecDepth 20000 in
theorem gX4_picture_X0_countNotDark : GoodIn wsX4_picture (wsV RX4 169 RX0 yX0_countNotDark wsX0_countNotDark) := goodIn_app (goodIn_of _ (by decide +kernel)) ggX4_picture_X0_countNotDark
set_option maxRecDepth 20000 in
theorem ggX4_picture_X0_coveredAngles : GoodIn wsX4_picture wsX0_coveredAngles := goodIn_r _ [36, 21, 37, 38, 39, 40, 41, 51, 52, 53, 54, 55] (by decide +kernel) (by decide +kernel)
set_option maxRecDepth 20000 in
theorem gX4_picture_X0_coveredAngles : GoodIn wsX4_picture (wsV RX4 172 RX0 yX0_coveredAngles wsX0_coveredAngles) := goodIn_app (goodIn_of _ (by decide +kernel)) ggX4_picture_X0_coveredAngles
theorem dX4_picture_0 : decode cX4_picture 0 = .ok (.aload_n 0, 1) := by decide +kernel
theorem dX4_picture_1 : decode cX4_picture 1 = .ok (.getfield 10, 3) := by decide +kernel
theorem dX4_picture_4 : decode cX4_picture 4 = .ok (.iload_n 1, 1) := by decide +kernel
theorem dX4_picture_5 : decode cX4_picture 5 = .ok (.invokevirtual 71, 3) := by decide +kernel
theorem dX4_picture_8 : decode cX4_picture 8 = .ok (.astore_n 3, 1) := by decide +kernel
theorem dX4_picture_9 : decode cX4_picture 9 = .ok (.aload_n 3, 1) := by decide +kernel
theorem dX4_picture_10 : decode cX4_picture 10 = .ok (.ifnonnull 6, 3) := by decide +kernel
theorem dX4_picture_13 : decode cX4_picture 13 = .ok (.bipush (-101), 2) := by decide +kernel
theorem dX4_picture_15 : decode cX4_picture 15 = .ok (.ireturn, 1) := by decide +kernel
theorem dX4_picture_16 : decode cX4_picture 16 = .ok (.iload_n 2, 1) := by decide +kernel
theorem dX4_picture_17 : decode cX4_picture 17 = .ok (.tableswitch 69 0 5 #[39, 44, 49, 54, 59, 64], 39) := by decide +kernel
theorem dX4_picture_56 : decode cX4_picture 56 = .ok (.aload_n 3, 1) := by decide +kernel
theorem dX4_picture_57 : decode cX4_picture 57 = .ok (.getfield 66, 3) := by decide +kernel
theorem dX4_picture_60 : decode cX4_picture 60 = .ok (.ireturn, 1) := by decide +kernel
theorem dX4_picture_61 : decode cX4_picture 61 = .ok (.aload_n 3, 1) := by decide +kernel
theorem dX4_picture_62 : decode cX4_picture 62 = .ok (.getfield 86, 3) := by decide +kernel
theorem dX4_picture_65 : decode cX4_picture 65 = .ok (.ireturn, 1) := by decide +kernel
theorem dX4_picture_66 : decode cX4_picture 66 = .ok (.aload_n 3, 1) := by decide +kernel
theorem dX4_picture_67 : decode cX4_picture 67 = .ok (.getfield 89, 3) := by decide +kernel
theorem dX4_picture_70 : decode cX4_picture 70 = .ok (.ireturn, 1) := by decide +kernel
theorem dX4_picture_71 : decode cX4_picture 71 = .ok (.aload_n 3, 1) := by decide +kernel
theorem dX4_picture_72 : decode cX4_picture 72 = .ok (.getfield 92, 3) := by decide +kernel
theorem dX4_picture_75 : decode cX4_picture 75 = .ok (.ireturn, 1) := by decide +kernel
theorem dX4_picture_76 : decode cX4_picture 76 = .ok (.aload_n 3, 1) := by decide +kernel
theorem dX4_picture_77 : decode cX4_picture 77 = .ok (.invokevirtual 169, 3) := by decide +kernel
theorem dX4_picture_80 : decode cX4_picture 80 = .ok (.ireturn, 1) := by decide +kernel
theorem dX4_picture_81 : decode cX4_picture 81 = .ok (.aload_n 3, 1) := by decide +kernel
theorem dX4_picture_82 : decode cX4_picture 82 = .ok (.invokevirtual 172, 3) := by decide +kernel
theorem dX4_picture_85 : decode cX4_picture 85 = .ok (.ireturn, 1) := by decide +kernel
theorem dX4_picture_86 : decode cX4_picture 86 = .ok (.bipush (-101), 2) := by decide +kernel
theorem dX4_picture_88 : decode cX4_picture 88 = .ok (.ireturn, 1) := by decide +kernel
set_option maxRecDepth 20000 in
theorem ggX4_color_X2_pictureNumbered : GoodIn wsX4_color wsX2_pictureNumbered := goodIn_r _ [8, 9, 10, 11, 12, 13, 32, 33, 34, 35, 36, 37, 38, 39, 40, 41, 42] (by decide +kernel) (by decide +kernel)
set_option maxRecDepth 20000 in
theorem gX4_color_X2_pictureNumbered : GoodIn wsX4_color (wsV RX4 71 RX2 yX2_pictureNumbered wsX2_pictureNumbered) := goodIn_app (goodIn_of _ (by decide +kernel)) ggX4_color_X2_pictureNumbered
set_option maxRecDepth 20000 in
theorem ggX4_color_X4_within : GoodIn wsX4_color wsX4_within := goodIn_r _ [13] (by decide +kernel) (by decide +kernel)
set_option maxRecDepth 20000 in
theorem gX4_color_X4_within : GoodIn wsX4_color (va_wsS RX4 52 yX4_within wsX4_within) := goodIn_app (goodIn_of _ (by decide +kernel)) ggX4_color_X4_within
set_option maxRecDepth 20000 in
theorem ggX4_color_X4_colorIn : GoodIn wsX4_color wsX4_colorIn := goodIn_r _ [17] (by decide +kernel) (by decide +kernel)
set_option maxRecDepth 20000 in
theorem gX4_color_X4_colorIn : GoodIn wsX4_color (va_wsS RX4 78 yX4_colorIn wsX4_colorIn) := goodIn_app (goodIn_of _ (by decide +kernel)) ggX4_color_X4_colorIn
theorem dX4_color_0 : decode cX4_color 0 = .ok (.aload_n 0, 1) := by decide +kernel
theorem dX4_color_1 : decode cX4_color 1 = .ok (.getfield 10, 3) := by decide +kernel
theorem dX4_color_4 : decode cX4_color 4 = .ok (.iload_n 1, 1) := by decide +kernel
theorem dX4_color_5 : decode cX4_color 5 = .ok (.invokevirtual 71, 3) := by decide +kernel
theorem dX4_color_8 : decode cX4_color 8 = .ok (.astore 4, 2) := by decide +kernel
theorem dX4_color_10 : decode cX4_color 10 = .ok (.aload 4, 2) := by decide +kernel
theorem dX4_color_12 : decode cX4_color 12 = .ok (.ifnull 23, 3) := by decide +kernel
theorem dX4_color_15 : decode cX4_color 15 = .ok (.iload_n 2, 1) := by decide +kernel
theorem dX4_color_16 : decode cX4_color 16 = .ok (.iconst 0, 1) := by decide +kernel
theorem dX4_color_17 : decode cX4_color 17 = .ok (.bipush 39, 2) := by decide +kernel
theorem dX4_color_19 : decode cX4_color 19 = .ok (.invokestatic 52, 3) := by decide +kernel
theorem dX4_color_22 : decode cX4_color 22 = .ok (.ifCond .eq 13, 3) := by decide +kernel
theorem dX4_color_25 : decode cX4_color 25 = .ok (.iload_n 3, 1) := by decide +kernel
theorem dX4_color_26 : decode cX4_color 26 = .ok (.iconst 0, 1) := by decide +kernel
theorem dX4_color_27 : decode cX4_color 27 = .ok (.bipush 11, 2) := by decide +kernel
theorem dX4_color_29 : decode cX4_color 29 = .ok (.invokestatic 52, 3) := by decide +kernel
theorem dX4_color_32 : decode cX4_color 32 = .ok (.ifCond .ne 6, 3) := by decide +kernel
theorem dX4_color_35 : decode cX4_color 35 = .ok (.bipush (-101), 2) := by decide +kernel
theorem dX4_color_37 : decode cX4_color 37 = .ok (.ireturn, 1) := by decide +kernel
theorem dX4_color_38 : decode cX4_color 38 = .ok (.iload_n 2, 1) := by decide +kernel
theorem dX4_color_39 : decode cX4_color 39 = .ok (.aload 4, 2) := by decide +kernel
theorem dX4_color_41 : decode cX4_color 41 = .ok (.getfield 66, 3) := by decide +kernel
theorem dX4_color_44 : decode cX4_color 44 = .ok (.if_icmp .ge 17, 3) := by decide +kernel
theorem dX4_color_47 : decode cX4_color 47 = .ok (.aload 4, 2) := by decide +kernel
theorem dX4_color_49 : decode cX4_color 49 = .ok (.getfield 75, 3) := by decide +kernel
theorem dX4_color_52 : decode cX4_color 52 = .ok (.iload_n 2, 1) := by decide +kernel
theorem dX4_color_53 : decode cX4_color 53 = .ok (.laload, 1) := by decide +kernel
theorem dX4_color_54 : decode cX4_color 54 = .ok (.iload_n 3, 1) := by decide +kernel
theorem dX4_color_55 : decode cX4_color 55 = .ok (.invokestatic 78, 3) := by decide +kernel
theorem dX4_color_58 : decode cX4_color 58 = .ok (.goto 5, 3) := by decide +kernel
theorem dX4_color_61 : decode cX4_color 61 = .ok (.bipush (-109), 2) := by decide +kernel
theorem dX4_color_63 : decode cX4_color 63 = .ok (.ireturn, 1) := by decide +kernel
set_option maxRecDepth 20000 in
theorem ggX4_broken_X4_within : GoodIn wsX4_broken wsX4_within := goodIn_r _ [5] (by decide +kernel) (by decide +kernel)
set_option maxRecDepth 20000 in
theorem gX4_broken_X4_within : GoodIn wsX4_broken (va_wsS RX4 52 yX4_within wsX4_within) := goodIn_app (goodIn_of _ (by decide +kernel)) ggX4_broken_X4_within
set_option maxRecDepth 20000 in
theorem ggX4_broken_X2_works : GoodIn wsX4_broken wsX2_works := goodIn_r _ [10, 11, 21, 22, 23, 24, 25, 26, 27, 28, 29, 30, 31] (by decide +kernel) (by decide +kernel)
set_option maxRecDepth 20000 in
theorem gX4_broken_X2_works : GoodIn wsX4_broken (wsV RX4 112 RX2 yX2_works wsX2_works) := goodIn_app (goodIn_of _ (by decide +kernel)) ggX4_broken_X2_works
theorem dX4_broken_0 : decode cX4_broken 0 = .ok (.iload_n 1, 1) := by decide +kernel
theorem dX4_broken_1 : decode cX4_broken 1 = .ok (.iconst 0, 1) := by decide +kernel
theorem dX4_broken_2 : decode cX4_broken 2 = .ok (.iconst 1, 1) := by decide +kernel
theorem dX4_broken_3 : decode cX4_broken 3 = .ok (.invokestatic 52, 3) := by decide +kernel
theorem dX4_broken_6 : decode cX4_broken 6 = .ok (.ifCond .eq 13, 3) := by decide +kernel
theorem dX4_broken_9 : decode cX4_broken 9 = .ok (.iload_n 2, 1) := by decide +kernel
theorem dX4_broken_10 : decode cX4_broken 10 = .ok (.iconst 0, 1) := by decide +kernel
theorem dX4_broken_11 : decode cX4_broken 11 = .ok (.bipush 11, 2) := by decide +kernel
theorem dX4_broken_13 : decode cX4_broken 13 = .ok (.invokestatic 52, 3) := by decide +kernel
theorem dX4_broken_16 : decode cX4_broken 16 = .ok (.ifCond .ne 6, 3) := by decide +kernel
theorem dX4_broken_19 : decode cX4_broken 19 = .ok (.bipush (-101), 2) := by decide +kernel
theorem dX4_broken_21 : decode cX4_broken 21 = .ok (.ireturn, 1) := by decide +kernel
theorem dX4_broken_22 : decode cX4_broken 22 = .ok (.aload_n 0, 1) := by decide +kernel
theorem dX4_broken_23 : decode cX4_broken 23 = .ok (.getfield 10, 3) := by decide +kernel
theorem dX4_broken_26 : decode cX4_broken 26 = .ok (.iload_n 1, 1) := by decide +kernel
theorem dX4_broken_27 : decode cX4_broken 27 = .ok (.iload_n 2, 1) := by decide +kernel
theorem dX4_broken_28 : decode cX4_broken 28 = .ok (.invokevirtual 112, 3) := by decide +kernel
theorem dX4_broken_31 : decode cX4_broken 31 = .ok (.ifCond .eq 7, 3) := by decide +kernel
theorem dX4_broken_34 : decode cX4_broken 34 = .ok (.iconst 0, 1) := by decide +kernel
theorem dX4_broken_35 : decode cX4_broken 35 = .ok (.goto 4, 3) := by decide +kernel
theorem dX4_broken_38 : decode cX4_broken 38 = .ok (.iconst 1, 1) := by decide +kernel
theorem dX4_broken_39 : decode cX4_broken 39 = .ok (.ireturn, 1) := by decide +kernel
set_option maxRecDepth 20000 in
theorem ggX4_place_X4_within : GoodIn wsX4_place wsX4_within := goodIn_r _ [5] (by decide +kernel) (by decide +kernel)
set_option maxRecDepth 20000 in
theorem gX4_place_X4_within : GoodIn wsX4_place (va_wsS RX4 52 yX4_within wsX4_within) := goodIn_app (goodIn_of _ (by decide +kernel)) ggX4_place_X4_within
set_option maxRecDepth 20000 in
theorem ggX4_place_X2_wantedAt : GoodIn wsX4_place wsX2_wantedAt := goodIn_r _ [10, 11, 12, 13, 14, 15, 16, 17, 18, 19, 20, 21, 22, 23, 24, 25, 26, 27, 28, 29, 30, 31, 32, 33, 34, 35, 36, 37, 38, 39, 40, 41, 42, 73, 74, 75, 76, 77, 78, 79, 80, 81, 82, 83, 84, 85, 86, 87, 88] (by decide +kernel) (by decide +kernel)
set_option maxRecDepth 20000 in
theorem gX4_place_X2_wantedAt : GoodIn wsX4_place (wsV RX4 175 RX2 yX2_wantedAt wsX2_wantedAt) := goodIn_app (goodIn_of _ (by decide +kernel)) ggX4_place_X2_wantedAt
set_option maxRecDepth 20000 in
theorem ggX4_place_X4_colorIn : GoodIn wsX4_place wsX4_colorIn := goodIn_r _ [45] (by decide +kernel) (by decide +kernel)
set_option maxRecDepth 20000 in
theorem gX4_place_X4_colorIn : GoodIn wsX4_place (va_wsS RX4 78 yX4_colorIn wsX4_colorIn) := goodIn_app (goodIn_of _ (by decide +kernel)) ggX4_place_X4_colorIn
set_option maxRecDepth 20000 in
theorem ggX4_place_X2_litAt : GoodIn wsX4_place wsX2_litAt := goodIn_r _ [49, 50, 51, 52, 53, 37, 54, 55, 56, 57, 73, 74, 75, 76, 77, 78, 79, 80, 81, 82, 83] (by decide +kernel) (by decide +kernel)
set_option maxRecDepth 20000 in
theorem gX4_place_X2_litAt : GoodIn wsX4_place (wsV RX4 179 RX2 yX2_litAt wsX2_litAt) := goodIn_app (goodIn_of _ (by decide +kernel)) ggX4_place_X2_litAt
set_option maxRecDepth 20000 in
theorem ggX4_place_X4_ticksSinceWritten : GoodIn wsX4_place wsX4_ticksSinceWritten := goodIn_r _ [61, 1, 62, 63, 64, 65, 66, 67, 68, 69, 70, 71, 72, 73, 74, 75, 76, 77, 78, 79, 80, 81, 82, 83] (by decide +kernel) (by decide +kernel)
set_option maxRecDepth 20000 in
theorem gX4_place_X4_ticksSinceWritten : GoodIn wsX4_place (wsV RX4 183 RX4 yX4_ticksSinceWritten wsX4_ticksSinceWritten) := goodIn_app (goodIn_of _ (by decide +kernel)) ggX4_place_X4_ticksSinceWritten
theorem dX4_place_0 : decode cX4_place 0 = .ok (.iload_n 1, 1) := by decide +kernel
theorem dX4_place_1 : decode cX4_place 1 = .ok (.iconst 0, 1) := by decide +kernel
theorem dX4_place_2 : decode cX4_place 2 = .ok (.sipush 719, 3) := by decide +kernel
theorem dX4_place_5 : decode cX4_place 5 = .ok (.invokestatic 52, 3) := by decide +kernel
theorem dX4_place_8 : decode cX4_place 8 = .ok (.ifCond .eq 13, 3) := by decide +kernel
theorem dX4_place_11 : decode cX4_place 11 = .ok (.iload_n 2, 1) := by decide +kernel
theorem dX4_place_12 : decode cX4_place 12 = .ok (.iconst 0, 1) := by decide +kernel
theorem dX4_place_13 : decode cX4_place 13 = .ok (.bipush 11, 2) := by decide +kernel
theorem dX4_place_15 : decode cX4_place 15 = .ok (.invokestatic 52, 3) := by decide +kernel
theorem dX4_place_18 : decode cX4_place 18 = .ok (.ifCond .ne 6, 3) := by decide +kernel
theorem dX4_place_21 : decode cX4_place 21 = .ok (.bipush (-101), 2) := by decide +kernel
theorem dX4_place_23 : decode cX4_place 23 = .ok (.ireturn, 1) := by decide +kernel
theorem dX4_place_24 : decode cX4_place 24 = .ok (.iload_n 3, 1) := by decide +kernel
theorem dX4_place_25 : decode cX4_place 25 = .ok (.tableswitch 61 0 2 #[27, 40, 54], 27) := by decide +kernel
theorem dX4_place_52 : decode cX4_place 52 = .ok (.aload_n 0, 1) := by decide +kernel
theorem dX4_place_53 : decode cX4_place 53 = .ok (.getfield 10, 3) := by decide +kernel
theorem dX4_place_56 : decode cX4_place 56 = .ok (.iload_n 1, 1) := by decide +kernel
theorem dX4_place_57 : decode cX4_place 57 = .ok (.invokevirtual 175, 3) := by decide +kernel
theorem dX4_place_60 : decode cX4_place 60 = .ok (.iload_n 2, 1) := by decide +kernel
theorem dX4_place_61 : decode cX4_place 61 = .ok (.invokestatic 78, 3) := by decide +kernel
theorem dX4_place_64 : decode cX4_place 64 = .ok (.ireturn, 1) := by decide +kernel
theorem dX4_place_65 : decode cX4_place 65 = .ok (.aload_n 0, 1) := by decide +kernel
theorem dX4_place_66 : decode cX4_place 66 = .ok (.getfield 10, 3) := by decide +kernel
theorem dX4_place_69 : decode cX4_place 69 = .ok (.iload_n 1, 1) := by decide +kernel
theorem dX4_place_70 : decode cX4_place 70 = .ok (.iconst 0, 1) := by decide +kernel
theorem dX4_place_71 : decode cX4_place 71 = .ok (.invokevirtual 179, 3) := by decide +kernel
theorem dX4_place_74 : decode cX4_place 74 = .ok (.iload_n 2, 1) := by decide +kernel
theorem dX4_place_75 : decode cX4_place 75 = .ok (.invokestatic 78, 3) := by decide +kernel
theorem dX4_place_78 : decode cX4_place 78 = .ok (.ireturn, 1) := by decide +kernel
theorem dX4_place_79 : decode cX4_place 79 = .ok (.aload_n 0, 1) := by decide +kernel
theorem dX4_place_80 : decode cX4_place 80 = .ok (.iload_n 1, 1) := by decide +kernel
theorem dX4_place_81 : decode cX4_place 81 = .ok (.iload_n 2, 1) := by decide +kernel
theorem dX4_place_82 : decode cX4_place 82 = .ok (.invokevirtual 183, 3) := by decide +kernel
theorem dX4_place_85 : decode cX4_place 85 = .ok (.ireturn, 1) := by decide +kernel
theorem dX4_place_86 : decode cX4_place 86 = .ok (.bipush (-101), 2) := by decide +kernel
theorem dX4_place_88 : decode cX4_place 88 = .ok (.ireturn, 1) := by decide +kernel
set_option maxRecDepth 20000 in
theorem ggX4_columnAt_X2_pictureNumbered : GoodIn wsX4_columnAt wsX2_pictureNumbered := goodIn_r _ [6, 7, 8, 9, 10, 11, 47, 48, 49, 50, 51, 52, 53, 54, 55, 56, 57] (by decide +kernel) (by decide +kernel)
set_option maxRecDepth 20000 in
theorem gX4_columnAt_X2_pictureNumbered : GoodIn wsX4_columnAt (wsV RX4 71 RX2 yX2_pictureNumbered wsX2_pictureNumbered) := goodIn_app (goodIn_of _ (by decide +kernel)) ggX4_columnAt_X2_pictureNumbered
set_option maxRecDepth 20000 in
theorem ggX4_columnAt_X4_within : GoodIn wsX4_columnAt wsX4_within := goodIn_r _ [11] (by decide +kernel) (by decide +kernel)
set_option maxRecDepth 20000 in
theorem gX4_columnAt_X4_within : GoodIn wsX4_columnAt (va_wsS RX4 52 yX4_within wsX4_within) := goodIn_app (goodIn_of _ (by decide +kernel)) ggX4_columnAt_X4_within
set_option maxRecDepth 20000 in
theorem ggX4_columnAt_X0_covers : GoodIn wsX4_columnAt wsX0_covers := goodIn_r _ [17, 18, 19, 20, 21, 22, 23, 24, 25, 16, 26, 27, 28, 29, 30, 31, 32, 58, 59, 60, 61, 62] (by decide +kernel) (by decide +kernel)
set_option maxRecDepth 20000 in
theorem gX4_columnAt_X0_covers : GoodIn wsX4_columnAt (wsV RX4 187 RX0 yX0_covers wsX0_covers) := goodIn_app (goodIn_of _ (by decide +kernel)) ggX4_columnAt_X0_covers
set_option maxRecDepth 20000 in
theorem ggX4_columnAt_X0_columnOf : GoodIn wsX4_columnAt wsX0_columnOf := goodIn_r _ [36, 18, 28, 37, 27, 19, 20, 21, 22, 58, 59, 60, 61, 62] (by decide +kernel) (by decide +kernel)
set_option maxRecDepth 20000 in
theorem gX4_columnAt_X0_columnOf : GoodIn wsX4_columnAt (wsV RX4 191 RX0 yX0_columnOf wsX0_columnOf) := goodIn_app (goodIn_of _ (by decide +kernel)) ggX4_columnAt_X0_columnOf
theorem dX4_columnAt_0 : decode cX4_columnAt 0 = .ok (.aload_n 0, 1) := by decide +kernel
theorem dX4_columnAt_1 : decode cX4_columnAt 1 = .ok (.getfield 10, 3) := by decide +kernel
theorem dX4_columnAt_4 : decode cX4_columnAt 4 = .ok (.iload_n 1, 1) := by decide +kernel
theorem dX4_columnAt_5 : decode cX4_columnAt 5 = .ok (.invokevirtual 71, 3) := by decide +kernel
theorem dX4_columnAt_8 : decode cX4_columnAt 8 = .ok (.astore_n 3, 1) := by decide +kernel
theorem dX4_columnAt_9 : decode cX4_columnAt 9 = .ok (.aload_n 3, 1) := by decide +kernel
theorem dX4_columnAt_10 : decode cX4_columnAt 10 = .ok (.ifnull 14, 3) := by decide +kernel
theorem dX4_columnAt_13 : decode cX4_columnAt 13 = .ok (.iload_n 2, 1) := by decide +kernel
theorem dX4_columnAt_14 : decode cX4_columnAt 14 = .ok (.iconst 0, 1) := by decide +kernel
theorem dX4_columnAt_15 : decode cX4_columnAt 15 = .ok (.sipush 719, 3) := by decide +kernel
theorem dX4_columnAt_18 : decode cX4_columnAt 18 = .ok (.invokestatic 52, 3) := by decide +kernel
theorem dX4_columnAt_21 : decode cX4_columnAt 21 = .ok (.ifCond .ne 6, 3) := by decide +kernel
theorem dX4_columnAt_24 : decode cX4_columnAt 24 = .ok (.bipush (-101), 2) := by decide +kernel
theorem dX4_columnAt_26 : decode cX4_columnAt 26 = .ok (.ireturn, 1) := by decide +kernel
theorem dX4_columnAt_27 : decode cX4_columnAt 27 = .ok (.aload_n 3, 1) := by decide +kernel
theorem dX4_columnAt_28 : decode cX4_columnAt 28 = .ok (.iload_n 2, 1) := by decide +kernel
theorem dX4_columnAt_29 : decode cX4_columnAt 29 = .ok (.invokevirtual 187, 3) := by decide +kernel
theorem dX4_columnAt_32 : decode cX4_columnAt 32 = .ok (.ifCond .eq 11, 3) := by decide +kernel
theorem dX4_columnAt_35 : decode cX4_columnAt 35 = .ok (.aload_n 3, 1) := by decide +kernel
theorem dX4_columnAt_36 : decode cX4_columnAt 36 = .ok (.iload_n 2, 1) := by decide +kernel
theorem dX4_columnAt_37 : decode cX4_columnAt 37 = .ok (.invokevirtual 191, 3) := by decide +kernel
theorem dX4_columnAt_40 : decode cX4_columnAt 40 = .ok (.goto 5, 3) := by decide +kernel
theorem dX4_columnAt_43 : decode cX4_columnAt 43 = .ok (.bipush (-109), 2) := by decide +kernel
theorem dX4_columnAt_45 : decode cX4_columnAt 45 = .ok (.ireturn, 1) := by decide +kernel
set_option maxRecDepth 20000 in
theorem ggX4_countLit_X2_litAt : GoodIn wsX4_countLit wsX2_litAt := goodIn_r _ [6, 7, 8, 9, 10, 11, 12, 13, 14, 15, 37, 38, 39, 40, 41, 42, 43, 44, 45, 46, 47] (by decide +kernel) (by decide +kernel)
set_option maxRecDepth 20000 in
theorem gX4_countLit_X2_litAt : GoodIn wsX4_countLit (wsV RX4 179 RX2 yX2_litAt wsX2_litAt) := goodIn_app (goodIn_of _ (by decide +kernel)) ggX4_countLit_X2_litAt
set_option maxRecDepth 20000 in
theorem ggX4_countLit_X4_notDark : GoodIn wsX4_countLit wsX4_notDark := goodIn_r _ [19, 20] (by decide +kernel) (by decide +kernel)
set_option maxRecDepth 20000 in
theorem gX4_countLit_X4_notDark : GoodIn wsX4_countLit (va_wsS RX4 195 yX4_notDark wsX4_notDark) := goodIn_app (goodIn_of _ (by decide +kernel)) ggX4_countLit_X4_notDark
set_option maxRecDepth 20000 in
theorem ggX4_countLit_J13_bitCount_95d88 : GoodIn wsX4_countLit wsJ13_bitCount_95d88 := goodIn_r _ [24, 25, 26, 27] (by decide +kernel) (by decide +kernel)
set_option maxRecDepth 20000 in
theorem gX4_countLit_J13_bitCount_95d88 : GoodIn wsX4_countLit (va_wsS RX4 199 yJ13_bitCount_95d88 wsJ13_bitCount_95d88) := goodIn_app (goodIn_of _ (by decide +kernel)) ggX4_countLit_J13_bitCount_95d88
theorem dX4_countLit_0 : decode cX4_countLit 0 = .ok (.iconst 0, 1) := by decide +kernel
theorem dX4_countLit_1 : decode cX4_countLit 1 = .ok (.istore_n 1, 1) := by decide +kernel
theorem dX4_countLit_2 : decode cX4_countLit 2 = .ok (.iconst 0, 1) := by decide +kernel
theorem dX4_countLit_3 : decode cX4_countLit 3 = .ok (.istore_n 2, 1) := by decide +kernel
theorem dX4_countLit_4 : decode cX4_countLit 4 = .ok (.iload_n 2, 1) := by decide +kernel
theorem dX4_countLit_5 : decode cX4_countLit 5 = .ok (.sipush 720, 3) := by decide +kernel
theorem dX4_countLit_8 : decode cX4_countLit 8 = .ok (.if_icmp .ge 27, 3) := by decide +kernel
theorem dX4_countLit_11 : decode cX4_countLit 11 = .ok (.iload_n 1, 1) := by decide +kernel
theorem dX4_countLit_12 : decode cX4_countLit 12 = .ok (.aload_n 0, 1) := by decide +kernel
theorem dX4_countLit_13 : decode cX4_countLit 13 = .ok (.getfield 10, 3) := by decide +kernel
theorem dX4_countLit_16 : decode cX4_countLit 16 = .ok (.iload_n 2, 1) := by decide +kernel
theorem dX4_countLit_17 : decode cX4_countLit 17 = .ok (.iconst 0, 1) := by decide +kernel
theorem dX4_countLit_18 : decode cX4_countLit 18 = .ok (.invokevirtual 179, 3) := by decide +kernel
theorem dX4_countLit_21 : decode cX4_countLit 21 = .ok (.invokestatic 195, 3) := by decide +kernel
theorem dX4_countLit_24 : decode cX4_countLit 24 = .ok (.invokestatic 199, 3) := by decide +kernel
theorem dX4_countLit_27 : decode cX4_countLit 27 = .ok (.iadd, 1) := by decide +kernel
theorem dX4_countLit_28 : decode cX4_countLit 28 = .ok (.istore_n 1, 1) := by decide +kernel
theorem dX4_countLit_29 : decode cX4_countLit 29 = .ok (.iinc 2 1, 3) := by decide +kernel
theorem dX4_countLit_32 : decode cX4_countLit 32 = .ok (.goto (-28), 3) := by decide +kernel
theorem dX4_countLit_35 : decode cX4_countLit 35 = .ok (.iload_n 1, 1) := by decide +kernel
theorem dX4_countLit_36 : decode cX4_countLit 36 = .ok (.ireturn, 1) := by decide +kernel
set_option maxRecDepth 20000 in
theorem ggX4_countNotAsWanted_X2_litAt : GoodIn wsX4_countNotAsWanted wsX2_litAt := goodIn_r _ [6, 7, 8, 9, 10, 11, 12, 13, 14, 15, 72, 73, 74, 75, 76, 77, 78, 79, 80, 81, 82] (by decide +kernel) (by decide +kernel)
set_option maxRecDepth 20000 in
theorem gX4_countNotAsWanted_X2_litAt : GoodIn wsX4_countNotAsWanted (wsV RX4 179 RX2 yX2_litAt wsX2_litAt) := goodIn_app (goodIn_of _ (by decide +kernel)) ggX4_countNotAsWanted_X2_litAt
set_option maxRecDepth 20000 in
theorem ggX4_countNotAsWanted_X2_wantedAt : GoodIn wsX4_countNotAsWanted wsX2_wantedAt := goodIn_r _ [19, 20, 21, 22, 23, 24, 25, 26, 27, 28, 29, 30, 31, 32, 33, 34, 35, 36, 37, 38, 39, 40, 41, 42, 43, 44, 45, 11, 46, 47, 48, 49, 50, 72, 73, 74, 75, 76, 77, 78, 79, 80, 81, 82, 83, 84, 85, 86, 87] (by decide +kernel) (by decide +kernel)
set_option maxRecDepth 20000 in
theorem gX4_countNotAsWanted_X2_wantedAt : GoodIn wsX4_countNotAsWanted (wsV RX4 175 RX2 yX2_wantedAt wsX2_wantedAt) := goodIn_app (goodIn_of _ (by decide +kernel)) ggX4_countNotAsWanted_X2_wantedAt
set_option maxRecDepth 20000 in
theorem ggX4_countNotAsWanted_X4_notDark : GoodIn wsX4_countNotAsWanted wsX4_notDark := goodIn_r _ [54, 55] (by decide +kernel) (by decide +kernel)
set_option maxRecDepth 20000 in
theorem gX4_countNotAsWanted_X4_notDark : GoodIn wsX4_countNotAsWanted (va_wsS RX4 195 yX4_notDark wsX4_notDark) := goodIn_app (goodIn_of _ (by decide +kernel)) ggX4_countNotAsWanted_X4_notDark
set_option maxRecDepth 20000 in
theorem ggX4_countNotAsWanted_J13_bitCount_95d88 : GoodIn wsX4_countNotAsWanted wsJ13_bitCount_95d88 := goodIn_r _ [59, 60, 61, 62] (by decide +kernel) (by decide +kernel)
set_option maxRecDepth 20000 in
theorem gX4_countNotAsWanted_J13_bitCount_95d88 : GoodIn wsX4_countNotAsWanted (va_wsS RX4 199 yJ13_bitCount_95d88 wsJ13_bitCount_95d88) := goodIn_app (goodIn_of _ (by decide +kernel)) ggX4_countNotAsWanted_J13_bitCount_95d88
theorem dX4_countNotAsWanted_0 : decode cX4_countNotAsWanted 0 = .ok (.iconst 0, 1) := by decide +kernel
theorem dX4_countNotAsWanted_1 : decode cX4_countNotAsWanted 1 = .ok (.istore_n 1, 1) := by decide +kernel
theorem dX4_countNotAsWanted_2 : decode cX4_countNotAsWanted 2 = .ok (.iconst 0, 1) := by decide +kernel
theorem dX4_countNotAsWanted_3 : decode cX4_countNotAsWanted 3 = .ok (.istore_n 2, 1) := by decide +kernel
theorem dX4_countNotAsWanted_4 : decode cX4_countNotAsWanted 4 = .ok (.iload_n 2, 1) := by decide +kernel
theorem dX4_countNotAsWanted_5 : decode cX4_countNotAsWanted 5 = .ok (.sipush 720, 3) := by decide +kernel
theorem dX4_countNotAsWanted_8 : decode cX4_countNotAsWanted 8 = .ok (.if_icmp .ge 36, 3) := by decide +kernel
theorem dX4_countNotAsWanted_11 : decode cX4_countNotAsWanted 11 = .ok (.iload_n 1, 1) := by decide +kernel
theorem dX4_countNotAsWanted_12 : decode cX4_countNotAsWanted 12 = .ok (.aload_n 0, 1) := by decide +kernel
theorem dX4_countNotAsWanted_13 : decode cX4_countNotAsWanted 13 = .ok (.getfield 10, 3) := by decide +kernel

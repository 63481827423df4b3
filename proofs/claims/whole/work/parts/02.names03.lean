theorem dX4_set_6 : decode cX4_set 6 = .ok (.ifCond .eq 20, 3) := by decide +kernel
theorem dX4_set_9 : decode cX4_set 9 = .ok (.iload_n 2, 1) := by decide +kernel
theorem dX4_set_10 : decode cX4_set 10 = .ok (.getstatic 121, 3) := by decide +kernel
theorem dX4_set_13 : decode cX4_set 13 = .ok (.iload_n 1, 1) := by decide +kernel
theorem dX4_set_14 : decode cX4_set 14 = .ok (.iaload, 1) := by decide +kernel
theorem dX4_set_15 : decode cX4_set 15 = .ok (.getstatic 125, 3) := by decide +kernel
theorem dX4_set_18 : decode cX4_set 18 = .ok (.iload_n 1, 1) := by decide +kernel
theorem dX4_set_19 : decode cX4_set 19 = .ok (.iaload, 1) := by decide +kernel
theorem dX4_set_20 : decode cX4_set 20 = .ok (.invokestatic 52, 3) := by decide +kernel
theorem dX4_set_23 : decode cX4_set 23 = .ok (.ifCond .ne 6, 3) := by decide +kernel
theorem dX4_set_26 : decode cX4_set 26 = .ok (.bipush (-101), 2) := by decide +kernel
theorem dX4_set_28 : decode cX4_set 28 = .ok (.ireturn, 1) := by decide +kernel
theorem dX4_set_29 : decode cX4_set 29 = .ok (.aload_n 0, 1) := by decide +kernel
theorem dX4_set_30 : decode cX4_set 30 = .ok (.invokevirtual 59, 3) := by decide +kernel
theorem dX4_set_33 : decode cX4_set 33 = .ok (.aload_n 0, 1) := by decide +kernel
theorem dX4_set_34 : decode cX4_set 34 = .ok (.getfield 10, 3) := by decide +kernel
theorem dX4_set_37 : decode cX4_set 37 = .ok (.getfield 128, 3) := by decide +kernel
theorem dX4_set_40 : decode cX4_set 40 = .ok (.iload_n 1, 1) := by decide +kernel
theorem dX4_set_41 : decode cX4_set 41 = .ok (.iaload, 1) := by decide +kernel
theorem dX4_set_42 : decode cX4_set 42 = .ok (.istore_n 3, 1) := by decide +kernel
theorem dX4_set_43 : decode cX4_set 43 = .ok (.aload_n 0, 1) := by decide +kernel
theorem dX4_set_44 : decode cX4_set 44 = .ok (.getfield 10, 3) := by decide +kernel
theorem dX4_set_47 : decode cX4_set 47 = .ok (.getfield 128, 3) := by decide +kernel
theorem dX4_set_50 : decode cX4_set 50 = .ok (.iload_n 1, 1) := by decide +kernel
theorem dX4_set_51 : decode cX4_set 51 = .ok (.iload_n 2, 1) := by decide +kernel
theorem dX4_set_52 : decode cX4_set 52 = .ok (.iastore, 1) := by decide +kernel
theorem dX4_set_53 : decode cX4_set 53 = .ok (.iload_n 3, 1) := by decide +kernel
theorem dX4_set_54 : decode cX4_set 54 = .ok (.ireturn, 1) := by decide +kernel
set_option maxRecDepth 20000 in
theorem ggX4_run_X4_within : GoodIn wsX4_run wsX4_within := goodIn_r _ [9] (by decide +kernel) (by decide +kernel)
set_option maxRecDepth 20000 in
theorem gX4_run_X4_within : GoodIn wsX4_run (va_wsS RX4 52 yX4_within wsX4_within) := goodIn_app (goodIn_of _ (by decide +kernel)) ggX4_run_X4_within
set_option maxRecDepth 20000 in
theorem ggX4_run_X4_record : GoodIn wsX4_run wsX4_record := goodIn_r _ [13, 14, 15, 16, 1, 17, 18, 19, 20, 21, 22, 23, 24, 25, 26, 27, 28, 29, 30, 31, 32, 33, 34, 35, 36, 37, 38, 39, 40, 41, 42, 43, 44, 45, 46, 47, 163, 164, 165, 166, 167, 168, 169, 170, 171, 172, 173, 174, 175, 176, 177, 178, 179, 180, 181, 182, 183, 184, 185, 186, 187] (by decide +kernel) (by decide +kernel)
set_option maxRecDepth 20000 in
theorem gX4_run_X4_record : GoodIn wsX4_run (wsV RX4 59 RX4 yX4_record wsX4_record) := goodIn_app (goodIn_of _ (by decide +kernel)) ggX4_run_X4_record
set_option maxRecDepth 20000 in
theorem ggX4_run_X3_prepare : GoodIn wsX4_run wsX3_prepare := goodIn_r _ [52, 53, 54, 55, 56, 57, 58, 59, 60, 61, 62, 63, 20, 64, 22, 23, 65, 66, 67, 40, 68, 45, 46, 69, 70, 71, 72, 43, 73, 74, 75, 76, 77, 78, 79, 80, 42, 44, 81, 82, 83, 84, 85, 86, 87, 88, 89, 8, 90, 91, 92, 93, 94, 95, 96, 97, 98, 99, 100, 51, 101, 172, 173, 174, 175, 176, 177, 178, 179, 180, 181, 182, 188, 189, 190, 191, 192, 193, 194, 195, 196, 197, 198, 183, 184, 185, 186, 187] (by decide +kernel) (by decide +kernel)
set_option maxRecDepth 20000 in
theorem gX4_run_X3_prepare : GoodIn wsX4_run (wsV RX4 134 RX3 yX3_prepare wsX3_prepare) := goodIn_app (goodIn_of _ (by decide +kernel)) ggX4_run_X3_prepare
set_option maxRecDepth 20000 in
theorem ggX4_run_X3_start : GoodIn wsX4_run wsX3_start := goodIn_r _ [105, 106, 107, 108, 109, 110, 111, 112, 113, 114, 188, 189, 190, 191, 192, 193, 194, 195, 196, 197, 198, 172, 173, 174, 175, 176, 177, 178, 179, 180, 181, 182] (by decide +kernel) (by decide +kernel)
set_option maxRecDepth 20000 in
theorem gX4_run_X3_start : GoodIn wsX4_run (wsV RX4 138 RX3 yX3_start wsX3_start) := goodIn_app (goodIn_of _ (by decide +kernel)) ggX4_run_X3_start
set_option maxRecDepth 20000 in
theorem ggX4_run_X3_goOn : GoodIn wsX4_run wsX3_goOn := goodIn_r _ [118, 113, 119, 120, 121, 51, 122, 112, 57, 56, 110, 106, 123, 82, 83, 84, 124, 125, 126, 127, 128, 129, 130, 131, 132, 133, 108, 114, 59, 134, 74, 75, 76, 188, 189, 190, 191, 192, 193, 194, 195, 196, 197, 198] (by decide +kernel) (by decide +kernel)
set_option maxRecDepth 20000 in
theorem gX4_run_X3_goOn : GoodIn wsX4_run (wsV RX4 142 RX3 yX3_goOn wsX3_goOn) := goodIn_app (goodIn_of _ (by decide +kernel)) ggX4_run_X3_goOn
set_option maxRecDepth 20000 in
theorem ggX4_run_X2_write : GoodIn wsX4_run wsX2_write := goodIn_r _ [138, 139, 140, 24, 141, 25, 142, 27, 26, 143, 144, 145, 146, 51, 147, 114, 148, 149, 150, 20, 151, 34, 152, 35, 153, 36, 154, 125, 83, 126, 155, 156, 157, 158, 159, 160, 161, 162, 54, 99, 100, 101, 188, 189, 190, 191, 192, 193, 194, 195, 196, 197, 198, 172, 173, 174, 175, 176, 177, 178, 179, 180, 181, 182] (by decide +kernel) (by decide +kernel)
set_option maxRecDepth 20000 in
theorem gX4_run_X2_write : GoodIn wsX4_run (wsV RX4 146 RX2 yX2_write wsX2_write) := goodIn_app (goodIn_of _ (by decide +kernel)) ggX4_run_X2_write
theorem dX4_run_0 : decode cX4_run 0 = .ok (.iload_n 1, 1) := by decide +kernel
theorem dX4_run_1 : decode cX4_run 1 = .ok (.iconst 1, 1) := by decide +kernel
theorem dX4_run_2 : decode cX4_run 2 = .ok (.bipush 100, 2) := by decide +kernel
theorem dX4_run_4 : decode cX4_run 4 = .ok (.invokestatic 52, 3) := by decide +kernel
theorem dX4_run_7 : decode cX4_run 7 = .ok (.ifCond .ne 6, 3) := by decide +kernel
theorem dX4_run_10 : decode cX4_run 10 = .ok (.bipush (-101), 2) := by decide +kernel
theorem dX4_run_12 : decode cX4_run 12 = .ok (.ireturn, 1) := by decide +kernel
theorem dX4_run_13 : decode cX4_run 13 = .ok (.aload_n 0, 1) := by decide +kernel
theorem dX4_run_14 : decode cX4_run 14 = .ok (.getfield 10, 3) := by decide +kernel
theorem dX4_run_17 : decode cX4_run 17 = .ok (.getfield 131, 3) := by decide +kernel
theorem dX4_run_20 : decode cX4_run 20 = .ok (.iload_n 1, 1) := by decide +kernel
theorem dX4_run_21 : decode cX4_run 21 = .ok (.iadd, 1) := by decide +kernel
theorem dX4_run_22 : decode cX4_run 22 = .ok (.sipush 5000, 3) := by decide +kernel
theorem dX4_run_25 : decode cX4_run 25 = .ok (.if_icmp .le 6, 3) := by decide +kernel
theorem dX4_run_28 : decode cX4_run 28 = .ok (.bipush (-103), 2) := by decide +kernel
theorem dX4_run_30 : decode cX4_run 30 = .ok (.ireturn, 1) := by decide +kernel
theorem dX4_run_31 : decode cX4_run 31 = .ok (.aload_n 0, 1) := by decide +kernel
theorem dX4_run_32 : decode cX4_run 32 = .ok (.invokevirtual 59, 3) := by decide +kernel
theorem dX4_run_35 : decode cX4_run 35 = .ok (.aload_n 0, 1) := by decide +kernel
theorem dX4_run_36 : decode cX4_run 36 = .ok (.getfield 44, 3) := by decide +kernel
theorem dX4_run_39 : decode cX4_run 39 = .ok (.aload_n 0, 1) := by decide +kernel
theorem dX4_run_40 : decode cX4_run 40 = .ok (.getfield 10, 3) := by decide +kernel
theorem dX4_run_43 : decode cX4_run 43 = .ok (.invokevirtual 134, 3) := by decide +kernel
theorem dX4_run_46 : decode cX4_run 46 = .ok (.aload_n 0, 1) := by decide +kernel
theorem dX4_run_47 : decode cX4_run 47 = .ok (.getfield 44, 3) := by decide +kernel
theorem dX4_run_50 : decode cX4_run 50 = .ok (.aload_n 0, 1) := by decide +kernel
theorem dX4_run_51 : decode cX4_run 51 = .ok (.getfield 10, 3) := by decide +kernel
theorem dX4_run_54 : decode cX4_run 54 = .ok (.aload_n 0, 1) := by decide +kernel
theorem dX4_run_55 : decode cX4_run 55 = .ok (.getfield 10, 3) := by decide +kernel
theorem dX4_run_58 : decode cX4_run 58 = .ok (.getfield 128, 3) := by decide +kernel
theorem dX4_run_61 : decode cX4_run 61 = .ok (.iconst 0, 1) := by decide +kernel
theorem dX4_run_62 : decode cX4_run 62 = .ok (.iaload, 1) := by decide +kernel
theorem dX4_run_63 : decode cX4_run 63 = .ok (.invokevirtual 138, 3) := by decide +kernel
theorem dX4_run_66 : decode cX4_run 66 = .ok (.aload_n 0, 1) := by decide +kernel
theorem dX4_run_67 : decode cX4_run 67 = .ok (.getfield 44, 3) := by decide +kernel
theorem dX4_run_70 : decode cX4_run 70 = .ok (.iload_n 1, 1) := by decide +kernel
theorem dX4_run_71 : decode cX4_run 71 = .ok (.invokevirtual 142, 3) := by decide +kernel
theorem dX4_run_74 : decode cX4_run 74 = .ok (.aload_n 0, 1) := by decide +kernel
theorem dX4_run_75 : decode cX4_run 75 = .ok (.getfield 10, 3) := by decide +kernel
theorem dX4_run_78 : decode cX4_run 78 = .ok (.aload_n 0, 1) := by decide +kernel
theorem dX4_run_79 : decode cX4_run 79 = .ok (.getfield 44, 3) := by decide +kernel
theorem dX4_run_82 : decode cX4_run 82 = .ok (.invokevirtual 146, 3) := by decide +kernel
theorem dX4_run_85 : decode cX4_run 85 = .ok (.aload_n 0, 1) := by decide +kernel
theorem dX4_run_86 : decode cX4_run 86 = .ok (.getfield 10, 3) := by decide +kernel
theorem dX4_run_89 : decode cX4_run 89 = .ok (.getfield 150, 3) := by decide +kernel
theorem dX4_run_92 : decode cX4_run 92 = .ok (.ireturn, 1) := by decide +kernel
set_option maxRecDepth 20000 in
theorem ggX4_undo_X2_copyFrom : GoodIn wsX4_undo wsX2_copyFrom := goodIn_r _ [9, 10, 11, 12, 13, 14, 15, 16, 17, 18, 19, 20, 21, 22, 23, 24, 25, 26, 27, 28, 29, 30, 31, 32, 33, 34, 35, 45, 46, 47, 48, 49, 50, 51, 52, 53, 54, 55, 56, 57, 58, 59, 60] (by decide +kernel) (by decide +kernel)
set_option maxRecDepth 20000 in
theorem gX4_undo_X2_copyFrom : GoodIn wsX4_undo (wsV RX4 153 RX2 yX2_copyFrom wsX2_copyFrom) := goodIn_app (goodIn_of _ (by decide +kernel)) ggX4_undo_X2_copyFrom
theorem dX4_undo_0 : decode cX4_undo 0 = .ok (.aload_n 0, 1) := by decide +kernel
theorem dX4_undo_1 : decode cX4_undo 1 = .ok (.getfield 24, 3) := by decide +kernel
theorem dX4_undo_4 : decode cX4_undo 4 = .ok (.ifCond .ne 6, 3) := by decide +kernel
theorem dX4_undo_7 : decode cX4_undo 7 = .ok (.bipush (-102), 2) := by decide +kernel
theorem dX4_undo_9 : decode cX4_undo 9 = .ok (.ireturn, 1) := by decide +kernel
theorem dX4_undo_10 : decode cX4_undo 10 = .ok (.aload_n 0, 1) := by decide +kernel
theorem dX4_undo_11 : decode cX4_undo 11 = .ok (.dup, 1) := by decide +kernel
theorem dX4_undo_12 : decode cX4_undo 12 = .ok (.getfield 24, 3) := by decide +kernel
theorem dX4_undo_15 : decode cX4_undo 15 = .ok (.iconst 1, 1) := by decide +kernel
theorem dX4_undo_16 : decode cX4_undo 16 = .ok (.isub, 1) := by decide +kernel
theorem dX4_undo_17 : decode cX4_undo 17 = .ok (.putfield 24, 3) := by decide +kernel
theorem dX4_undo_20 : decode cX4_undo 20 = .ok (.aload_n 0, 1) := by decide +kernel
theorem dX4_undo_21 : decode cX4_undo 21 = .ok (.getfield 10, 3) := by decide +kernel
theorem dX4_undo_24 : decode cX4_undo 24 = .ok (.aload_n 0, 1) := by decide +kernel
theorem dX4_undo_25 : decode cX4_undo 25 = .ok (.getfield 16, 3) := by decide +kernel
theorem dX4_undo_28 : decode cX4_undo 28 = .ok (.aload_n 0, 1) := by decide +kernel
theorem dX4_undo_29 : decode cX4_undo 29 = .ok (.getfield 20, 3) := by decide +kernel
theorem dX4_undo_32 : decode cX4_undo 32 = .ok (.aload_n 0, 1) := by decide +kernel
theorem dX4_undo_33 : decode cX4_undo 33 = .ok (.getfield 24, 3) := by decide +kernel
theorem dX4_undo_36 : decode cX4_undo 36 = .ok (.iadd, 1) := by decide +kernel
theorem dX4_undo_37 : decode cX4_undo 37 = .ok (.iconst 5, 1) := by decide +kernel
theorem dX4_undo_38 : decode cX4_undo 38 = .ok (.irem, 1) := by decide +kernel
theorem dX4_undo_39 : decode cX4_undo 39 = .ok (.aaload, 1) := by decide +kernel
theorem dX4_undo_40 : decode cX4_undo 40 = .ok (.invokevirtual 153, 3) := by decide +kernel
theorem dX4_undo_43 : decode cX4_undo 43 = .ok (.aload_n 0, 1) := by decide +kernel
theorem dX4_undo_44 : decode cX4_undo 44 = .ok (.getfield 24, 3) := by decide +kernel
theorem dX4_undo_47 : decode cX4_undo 47 = .ok (.ireturn, 1) := by decide +kernel
set_option maxRecDepth 20000 in
theorem ggX4_record_X2_copyFrom : GoodIn wsX4_record wsX2_copyFrom := goodIn_r _ [9, 10, 11, 12, 13, 14, 15, 16, 17, 18, 19, 20, 21, 22, 23, 24, 25, 26, 27, 28, 29, 30, 31, 32, 33, 34, 35, 45, 46, 47, 48, 49, 50, 51, 52, 53, 54, 55, 56, 57, 58, 59, 60] (by decide +kernel) (by decide +kernel)
set_option maxRecDepth 20000 in
theorem gX4_record_X2_copyFrom : GoodIn wsX4_record (wsV RX4 153 RX2 yX2_copyFrom wsX2_copyFrom) := goodIn_app (goodIn_of _ (by decide +kernel)) ggX4_record_X2_copyFrom
theorem dX4_record_0 : decode cX4_record 0 = .ok (.aload_n 0, 1) := by decide +kernel
theorem dX4_record_1 : decode cX4_record 1 = .ok (.getfield 24, 3) := by decide +kernel
theorem dX4_record_4 : decode cX4_record 4 = .ok (.iconst 5, 1) := by decide +kernel
theorem dX4_record_5 : decode cX4_record 5 = .ok (.if_icmp .ne 25, 3) := by decide +kernel
theorem dX4_record_8 : decode cX4_record 8 = .ok (.aload_n 0, 1) := by decide +kernel
theorem dX4_record_9 : decode cX4_record 9 = .ok (.aload_n 0, 1) := by decide +kernel
theorem dX4_record_10 : decode cX4_record 10 = .ok (.getfield 20, 3) := by decide +kernel
theorem dX4_record_13 : decode cX4_record 13 = .ok (.iconst 1, 1) := by decide +kernel
theorem dX4_record_14 : decode cX4_record 14 = .ok (.iadd, 1) := by decide +kernel
theorem dX4_record_15 : decode cX4_record 15 = .ok (.iconst 5, 1) := by decide +kernel
theorem dX4_record_16 : decode cX4_record 16 = .ok (.irem, 1) := by decide +kernel
theorem dX4_record_17 : decode cX4_record 17 = .ok (.putfield 20, 3) := by decide +kernel
theorem dX4_record_20 : decode cX4_record 20 = .ok (.aload_n 0, 1) := by decide +kernel
theorem dX4_record_21 : decode cX4_record 21 = .ok (.dup, 1) := by decide +kernel
theorem dX4_record_22 : decode cX4_record 22 = .ok (.getfield 24, 3) := by decide +kernel
theorem dX4_record_25 : decode cX4_record 25 = .ok (.iconst 1, 1) := by decide +kernel
theorem dX4_record_26 : decode cX4_record 26 = .ok (.isub, 1) := by decide +kernel
theorem dX4_record_27 : decode cX4_record 27 = .ok (.putfield 24, 3) := by decide +kernel
theorem dX4_record_30 : decode cX4_record 30 = .ok (.aload_n 0, 1) := by decide +kernel
theorem dX4_record_31 : decode cX4_record 31 = .ok (.getfield 16, 3) := by decide +kernel
theorem dX4_record_34 : decode cX4_record 34 = .ok (.aload_n 0, 1) := by decide +kernel
theorem dX4_record_35 : decode cX4_record 35 = .ok (.getfield 20, 3) := by decide +kernel
theorem dX4_record_38 : decode cX4_record 38 = .ok (.aload_n 0, 1) := by decide +kernel
theorem dX4_record_39 : decode cX4_record 39 = .ok (.getfield 24, 3) := by decide +kernel
theorem dX4_record_42 : decode cX4_record 42 = .ok (.iadd, 1) := by decide +kernel
theorem dX4_record_43 : decode cX4_record 43 = .ok (.iconst 5, 1) := by decide +kernel
theorem dX4_record_44 : decode cX4_record 44 = .ok (.irem, 1) := by decide +kernel
theorem dX4_record_45 : decode cX4_record 45 = .ok (.aaload, 1) := by decide +kernel
theorem dX4_record_46 : decode cX4_record 46 = .ok (.aload_n 0, 1) := by decide +kernel
theorem dX4_record_47 : decode cX4_record 47 = .ok (.getfield 10, 3) := by decide +kernel
theorem dX4_record_50 : decode cX4_record 50 = .ok (.invokevirtual 153, 3) := by decide +kernel
theorem dX4_record_53 : decode cX4_record 53 = .ok (.aload_n 0, 1) := by decide +kernel
theorem dX4_record_54 : decode cX4_record 54 = .ok (.dup, 1) := by decide +kernel
theorem dX4_record_55 : decode cX4_record 55 = .ok (.getfield 24, 3) := by decide +kernel
theorem dX4_record_58 : decode cX4_record 58 = .ok (.iconst 1, 1) := by decide +kernel
theorem dX4_record_59 : decode cX4_record 59 = .ok (.iadd, 1) := by decide +kernel
theorem dX4_record_60 : decode cX4_record 60 = .ok (.putfield 24, 3) := by decide +kernel
theorem dX4_record_63 : decode cX4_record 63 = .ok (.return_, 1) := by decide +kernel
set_option maxRecDepth 20000 in
theorem ggX4_count_X4_countLit : GoodIn wsX4_count wsX4_countLit := goodIn_r _ [14, 1, 15, 16, 17, 18, 19, 20, 21, 22, 23, 24, 25, 26, 27, 28, 29, 30, 13, 31, 32, 33, 34, 35, 36, 37, 38, 39, 79, 80, 81, 82, 83, 84, 85, 86, 87, 88, 89, 90, 91, 92, 93, 94, 95, 96, 97, 98] (by decide +kernel) (by decide +kernel)
set_option maxRecDepth 20000 in
theorem gX4_count_X4_countLit : GoodIn wsX4_count (wsV RX4 162 RX4 yX4_countLit wsX4_countLit) := goodIn_app (goodIn_of _ (by decide +kernel)) ggX4_count_X4_countLit
set_option maxRecDepth 20000 in
theorem ggX4_count_X4_countNotAsWanted : GoodIn wsX4_count wsX4_countNotAsWanted := goodIn_r _ [43, 1, 15, 16, 17, 18, 19, 20, 21, 22, 23, 24, 25, 26, 27, 28, 44, 45, 46, 47, 48, 49, 50, 51, 52, 53, 54, 55, 56, 57, 58, 59, 60, 61, 62, 63, 64, 65, 66, 67, 68, 69, 70, 71, 72, 73, 74, 75, 76, 77, 78, 29, 30, 13, 31, 32, 33, 34, 35, 36, 37, 38, 39, 79, 80, 81, 82, 83, 84, 85, 86, 87, 88, 89, 90, 91, 92, 93, 94, 95, 96, 97, 98, 99, 100, 101, 102, 103] (by decide +kernel) (by decide +kernel)
set_option maxRecDepth 20000 in
theorem gX4_count_X4_countNotAsWanted : GoodIn wsX4_count (wsV RX4 166 RX4 yX4_countNotAsWanted wsX4_countNotAsWanted) := goodIn_app (goodIn_of _ (by decide +kernel)) ggX4_count_X4_countNotAsWanted
theorem dX4_count_0 : decode cX4_count 0 = .ok (.iload_n 1, 1) := by decide +kernel
theorem dX4_count_1 : decode cX4_count 1 = .ok (.tableswitch 123 0 9 #[55, 63, 71, 79, 87, 95, 100, 105, 113, 118], 55) := by decide +kernel
theorem dX4_count_56 : decode cX4_count 56 = .ok (.aload_n 0, 1) := by decide +kernel
theorem dX4_count_57 : decode cX4_count 57 = .ok (.getfield 10, 3) := by decide +kernel
theorem dX4_count_60 : decode cX4_count 60 = .ok (.getfield 56, 3) := by decide +kernel
theorem dX4_count_63 : decode cX4_count 63 = .ok (.ireturn, 1) := by decide +kernel
theorem dX4_count_64 : decode cX4_count 64 = .ok (.aload_n 0, 1) := by decide +kernel
theorem dX4_count_65 : decode cX4_count 65 = .ok (.getfield 10, 3) := by decide +kernel
theorem dX4_count_68 : decode cX4_count 68 = .ok (.getfield 156, 3) := by decide +kernel
theorem dX4_count_71 : decode cX4_count 71 = .ok (.ireturn, 1) := by decide +kernel
theorem dX4_count_72 : decode cX4_count 72 = .ok (.aload_n 0, 1) := by decide +kernel
theorem dX4_count_73 : decode cX4_count 73 = .ok (.getfield 10, 3) := by decide +kernel
theorem dX4_count_76 : decode cX4_count 76 = .ok (.getfield 159, 3) := by decide +kernel
theorem dX4_count_79 : decode cX4_count 79 = .ok (.ireturn, 1) := by decide +kernel
theorem dX4_count_80 : decode cX4_count 80 = .ok (.aload_n 0, 1) := by decide +kernel
theorem dX4_count_81 : decode cX4_count 81 = .ok (.getfield 10, 3) := by decide +kernel
theorem dX4_count_84 : decode cX4_count 84 = .ok (.getfield 131, 3) := by decide +kernel
theorem dX4_count_87 : decode cX4_count 87 = .ok (.ireturn, 1) := by decide +kernel
theorem dX4_count_88 : decode cX4_count 88 = .ok (.aload_n 0, 1) := by decide +kernel
theorem dX4_count_89 : decode cX4_count 89 = .ok (.getfield 10, 3) := by decide +kernel
theorem dX4_count_92 : decode cX4_count 92 = .ok (.getfield 150, 3) := by decide +kernel
theorem dX4_count_95 : decode cX4_count 95 = .ok (.ireturn, 1) := by decide +kernel
theorem dX4_count_96 : decode cX4_count 96 = .ok (.aload_n 0, 1) := by decide +kernel
theorem dX4_count_97 : decode cX4_count 97 = .ok (.invokevirtual 162, 3) := by decide +kernel
theorem dX4_count_100 : decode cX4_count 100 = .ok (.ireturn, 1) := by decide +kernel
theorem dX4_count_101 : decode cX4_count 101 = .ok (.aload_n 0, 1) := by decide +kernel
theorem dX4_count_102 : decode cX4_count 102 = .ok (.invokevirtual 166, 3) := by decide +kernel
theorem dX4_count_105 : decode cX4_count 105 = .ok (.ireturn, 1) := by decide +kernel
theorem dX4_count_106 : decode cX4_count 106 = .ok (.aload_n 0, 1) := by decide +kernel
theorem dX4_count_107 : decode cX4_count 107 = .ok (.getfield 10, 3) := by decide +kernel
theorem dX4_count_110 : decode cX4_count 110 = .ok (.getfield 109, 3) := by decide +kernel
theorem dX4_count_113 : decode cX4_count 113 = .ok (.ireturn, 1) := by decide +kernel
theorem dX4_count_114 : decode cX4_count 114 = .ok (.aload_n 0, 1) := by decide +kernel
theorem dX4_count_115 : decode cX4_count 115 = .ok (.getfield 24, 3) := by decide +kernel
theorem dX4_count_118 : decode cX4_count 118 = .ok (.ireturn, 1) := by decide +kernel
theorem dX4_count_119 : decode cX4_count 119 = .ok (.aload_n 0, 1) := by decide +kernel
theorem dX4_count_120 : decode cX4_count 120 = .ok (.getfield 31, 3) := by decide +kernel
theorem dX4_count_123 : decode cX4_count 123 = .ok (.ireturn, 1) := by decide +kernel
theorem dX4_count_124 : decode cX4_count 124 = .ok (.bipush (-101), 2) := by decide +kernel
theorem dX4_count_126 : decode cX4_count 126 = .ok (.ireturn, 1) := by decide +kernel
set_option maxRecDepth 20000 in
theorem ggX4_setting_X4_within : GoodIn wsX4_setting wsX4_within := goodIn_r _ [6] (by decide +kernel) (by decide +kernel)
set_option maxRecDepth 20000 in
theorem gX4_setting_X4_within : GoodIn wsX4_setting (va_wsS RX4 52 yX4_within wsX4_within) := goodIn_app (goodIn_of _ (by decide +kernel)) ggX4_setting_X4_within
theorem dX4_setting_0 : decode cX4_setting 0 = .ok (.iload_n 1, 1) := by decide +kernel
theorem dX4_setting_1 : decode cX4_setting 1 = .ok (.iconst 0, 1) := by decide +kernel
theorem dX4_setting_2 : decode cX4_setting 2 = .ok (.iconst 3, 1) := by decide +kernel
theorem dX4_setting_3 : decode cX4_setting 3 = .ok (.invokestatic 52, 3) := by decide +kernel
theorem dX4_setting_6 : decode cX4_setting 6 = .ok (.ifCond .eq 15, 3) := by decide +kernel
theorem dX4_setting_9 : decode cX4_setting 9 = .ok (.aload_n 0, 1) := by decide +kernel
theorem dX4_setting_10 : decode cX4_setting 10 = .ok (.getfield 10, 3) := by decide +kernel
theorem dX4_setting_13 : decode cX4_setting 13 = .ok (.getfield 128, 3) := by decide +kernel
theorem dX4_setting_16 : decode cX4_setting 16 = .ok (.iload_n 1, 1) := by decide +kernel
theorem dX4_setting_17 : decode cX4_setting 17 = .ok (.iaload, 1) := by decide +kernel
theorem dX4_setting_18 : decode cX4_setting 18 = .ok (.goto 5, 3) := by decide +kernel
theorem dX4_setting_21 : decode cX4_setting 21 = .ok (.bipush (-101), 2) := by decide +kernel
theorem dX4_setting_23 : decode cX4_setting 23 = .ok (.ireturn, 1) := by decide +kernel
set_option maxRecDepth 20000 in
theorem ggX4_picture_X2_pictureNumbered : GoodIn wsX4_picture wsX2_pictureNumbered := goodIn_r _ [10, 11, 12, 13, 14, 15, 56, 57, 58, 59, 60, 61, 62, 63, 64, 65, 66] (by decide +kernel) (by decide +kernel)
set_option maxRecDepth 20000 in
theorem gX4_picture_X2_pictureNumbered : GoodIn wsX4_picture (wsV RX4 71 RX2 yX2_pictureNumbered wsX2_pictureNumbered) := goodIn_app (goodIn_of _ (by decide +kernel)) ggX4_picture_X2_pictureNumbered
set_option maxRecDepth 20000 in
theorem ggX4_picture_X0_countNotDark : GoodIn wsX4_picture wsX0_countNotDark := goodIn_r _ [20, 21, 22, 23, 14, 24, 25, 26, 27, 28, 29, 30, 31, 32, 51, 52, 53, 54, 55] (by decide +kernel) (by decide +kernel)
set_option maxRecDepth 20000 in
theorem gX4_picture_X0_countNotDark : GoodIn wsX4_picture (wsV RX4 169 RX0 yX0_countNotDark wsX0_countNotDark) := goodIn_app (goodIn_of _ (by decide +kernel)) ggX4_picture_X0_countNotDark
set_option maxRecDepth 20000 in
theorem ggX4_picture_X0_coveredAngles : GoodIn wsX4_picture wsX0_coveredAngles := goodIn_r _ [36, 21, 37, 38, 39, 40, 41, 51, 52, 53, 54, 55] (by decide +kernel) (by decide +kernel)
set_option maxRecDepth 20000 in
theorem gX4_picture_X0_coveredAngles : GoodIn wsX4_picture (wsV RX4 172 RX0 yX0_coveredAngles wsX0_coveredAngles) := goodIn_app (goodIn_of _ (by decide +kernel)) ggX4_picture_X0_coveredAngles
theorem dX4_picture_0 : decode cX4_picture 0 = .ok (.aload_n 0, 1) := by decide +kernel
theorem dX4_picture_1 : decode cX4_picture 1 = .ok (.getfield 10, 3) := by decide +kernel
theorem dX4_picture_4 : decode cX4_picture 4 = .ok (.iload_n 1, 1) := by decide +kernel
theorem dX4_picture_5 : decode cX4_picture 5 = .ok (.invokevirtual 71, 3) := by decide +kernel
theorem dX4_picture_8 : decode cX4_picture 8 = .ok (.astore_n 3, 1) := by decide +kernel
theorem dX4_picture_9 : decode cX4_picture 9 = .ok (.aload_n 3, 1) := by decide +kernel
theorem dX4_picture_10 : decode cX4_picture 10 = .ok (.ifnonnull 6, 3) := by decide +kernel
theorem dX4_picture_13 : decode cX4_picture 13 = .ok (.bipush (-101), 2) := by decide +kernel
theorem dX4_picture_15 : decode cX4_picture 15 = .ok (.ireturn, 1) := by decide +kernel
theorem dX4_picture_16 : decode cX4_picture 16 = .ok (.iload_n 2, 1) := by decide +kernel
theorem dX4_picture_17 : decode cX4_picture 17 = .ok (.tableswitch 69 0 5 #[39, 44, 49, 54, 59, 64], 39) := by decide +kernel
theorem dX4_picture_56 : decode cX4_picture 56 = .ok (.aload_n 3, 1) := by decide +kernel
theorem dX4_picture_57 : decode cX4_picture 57 = .ok (.getfield 66, 3) := by decide +kernel
theorem dX4_picture_60 : decode cX4_picture 60 = .ok (.ireturn, 1) := by decide +kernel
theorem dX4_picture_61 : decode cX4_picture 61 = .ok (.aload_n 3, 1) := by decide +kernel
theorem dX4_picture_62 : decode cX4_picture 62 = .ok (.getfield 86, 3) := by decide +kernel
theorem dX4_picture_65 : decode cX4_picture 65 = .ok (.ireturn, 1) := by decide +kernel
theorem dX4_picture_66 : decode cX4_picture 66 = .ok (.aload_n 3, 1) := by decide +kernel
theorem dX4_picture_67 : decode cX4_picture 67 = .ok (.getfield 89, 3) := by decide +kernel
theorem dX4_picture_70 : decode cX4_picture 70 = .ok (.ireturn, 1) := by decide +kernel
theorem dX4_picture_71 : decode cX4_picture 71 = .ok (.aload_n 3, 1) := by decide +kernel
theorem dX4_picture_72 : decode cX4_picture 72 = .ok (.getfield 92, 3) := by decide +kernel
theorem dX4_picture_75 : decode cX4_picture 75 = .ok (.ireturn, 1) := by decide +kernel
theorem dX4_picture_76 : decode cX4_picture 76 = .ok (.aload_n 3, 1) := by decide +kernel
theorem dX4_picture_77 : decode cX4_picture 77 = .ok (.invokevirtual 169, 3) := by decide +kernel
theorem dX4_picture_80 : decode cX4_picture 80 = .ok (.ireturn, 1) := by decide +kernel
theorem dX4_picture_81 : decode cX4_picture 81 = .ok (.aload_n 3, 1) := by decide +kernel
theorem dX4_picture_82 : decode cX4_picture 82 = .ok (.invokevirtual 172, 3) := by decide +kernel
theorem dX4_picture_85 : decode cX4_picture 85 = .ok (.ireturn, 1) := by decide +kernel
theorem dX4_picture_86 : decode cX4_picture 86 = .ok (.bipush (-101), 2) := by decide +kernel
theorem dX4_picture_88 : decode cX4_picture 88 = .ok (.ireturn, 1) := by decide +kernel
set_option maxRecDepth 20000 in
theorem ggX4_color_X2_pictureNumbered : GoodIn wsX4_color wsX2_pictureNumbered := goodIn_r _ [8, 9, 10, 11, 12, 13, 32, 33, 34, 35, 36, 37, 38, 39, 40, 41, 42] (by decide +kernel) (by decide +kernel)
set_option maxRecDepth 20000 in
theorem gX4_color_X2_pictureNumbered : GoodIn wsX4_color (wsV RX4 71 RX2 yX2_pictureNumbered wsX2_pictureNumbered) := goodIn_app (goodIn_of _ (by decide +kernel)) ggX4_color_X2_pictureNumbered
set_option maxRecDepth 20000 in
theorem ggX4_color_X4_within : GoodIn wsX4_color wsX4_within := goodIn_r _ [13] (by decide +kernel) (by decide +kernel)
set_option maxRecDepth 20000 in
theorem gX4_color_X4_within : GoodIn wsX4_color (va_wsS RX4 52 yX4_within wsX4_within) := goodIn_app (goodIn_of _ (by decide +kernel)) ggX4_color_X4_within
set_option maxRecDepth 20000 in
theorem ggX4_color_X4_colorIn : GoodIn wsX4_color wsX4_colorIn := goodIn_r _ [17] (by decide +kernel) (by decide +kernel)
set_option maxRecDepth 20000 in
theorem gX4_color_X4_colorIn : GoodIn wsX4_color (va_wsS RX4 78 yX4_colorIn wsX4_colorIn) := goodIn_app (goodIn_of _ (by decide +kernel)) ggX4_color_X4_colorIn
theorem dX4_color_0 : decode cX4_color 0 = .ok (.aload_n 0, 1) := by decide +kernel
theorem dX4_color_1 : decode cX4_color 1 = .ok (.getfield 10, 3) := by decide +kernel
theorem dX4_color_4 : decode cX4_color 4 = .ok (.iload_n 1, 1) := by decide +kernel
theorem dX4_color_5 : decode cX4_color 5 = .ok (.invokevirtual 71, 3) := by decide +kernel
theorem dX4_color_8 : decode cX4_color 8 = .ok (.astore 4, 2) := by decide +kernel
theorem dX4_color_10 : decode cX4_color 10 = .ok (.aload 4, 2) := by decide +kernel
theorem dX4_color_12 : decode cX4_color 12 = .ok (.ifnull 23, 3) := by decide +kernel
theorem dX4_color_15 : decode cX4_color 15 = .ok (.iload_n 2, 1) := by decide +kernel
theorem dX4_color_16 : decode cX4_color 16 = .ok (.iconst 0, 1) := by decide +kernel
theorem dX4_color_17 : decode cX4_color 17 = .ok (.bipush 39, 2) := by decide +kernel
theorem dX4_color_19 : decode cX4_color 19 = .ok (.invokestatic 52, 3) := by decide +kernel
theorem dX4_color_22 : decode cX4_color 22 = .ok (.ifCond .eq 13, 3) := by decide +kernel
theorem dX4_color_25 : decode cX4_color 25 = .ok (.iload_n 3, 1) := by decide +kernel
theorem dX4_color_26 : decode cX4_color 26 = .ok (.iconst 0, 1) := by decide +kernel
theorem dX4_color_27 : decode cX4_color 27 = .ok (.bipush 11, 2) := by decide +kernel
theorem dX4_color_29 : decode cX4_color 29 = .ok (.invokestatic 52, 3) := by decide +kernel
theorem dX4_color_32 : decode cX4_color 32 = .ok (.ifCond .ne 6, 3) := by decide +kernel
theorem dX4_color_35 : decode cX4_color 35 = .ok (.bipush (-101), 2) := by decide +kernel
theorem dX4_color_37 : decode cX4_color 37 = .ok (.ireturn, 1) := by decide +kernel
theorem dX4_color_38 : decode cX4_color 38 = .ok (.iload_n 2, 1) := by decide +kernel
theorem dX4_color_39 : decode cX4_color 39 = .ok (.aload 4, 2) := by decide +kernel
theorem dX4_color_41 : decode cX4_color 41 = .ok (.getfield 66, 3) := by decide +kernel
theorem dX4_color_44 : decode cX4_color 44 = .ok (.if_icmp .ge 17, 3) := by decide +kernel
theorem dX4_color_47 : decode cX4_color 47 = .ok (.aload 4, 2) := by decide +kernel
theorem dX4_color_49 : decode cX4_color 49 = .ok (.getfield 75, 3) := by decide +kernel
theorem dX4_color_52 : decode cX4_color 52 = .ok (.iload_n 2, 1) := by decide +kernel
theorem dX4_color_53 : decode cX4_color 53 = .ok (.laload, 1) := by decide +kernel
theorem dX4_color_54 : decode cX4_color 54 = .ok (.iload_n 3, 1) := by decide +kernel
theorem dX4_color_55 : decode cX4_color 55 = .ok (.invokestatic 78, 3) := by decide +kernel
theorem dX4_color_58 : decode cX4_color 58 = .ok (.goto 5, 3) := by decide +kernel
theorem dX4_color_61 : decode cX4_color 61 = .ok (.bipush (-109), 2) := by decide +kernel
theorem dX4_color_63 : decode cX4_color 63 = .ok (.ireturn, 1) := by decide +kernel
set_option maxRecDepth 20000 in
theorem ggX4_broken_X4_within : GoodIn wsX4_broken wsX4_within := goodIn_r _ [5] (by decide +kernel) (by decide +kernel)
set_option maxRecDepth 20000 in
theorem gX4_broken_X4_within : GoodIn wsX4_broken (va_wsS RX4 52 yX4_within wsX4_within) := goodIn_app (goodIn_of _ (by decide +kernel)) ggX4_broken_X4_within
set_option maxRecDepth 20000 in
theorem ggX4_broken_X2_works : GoodIn wsX4_broken wsX2_works := goodIn_r _ [10, 11, 21, 22, 23, 24, 25, 26, 27, 28, 29, 30, 31] (by decide +kernel) (by decide +kernel)
set_option maxRecDepth 20000 in
theorem gX4_broken_X2_works : GoodIn wsX4_broken (wsV RX4 112 RX2 yX2_works wsX2_works) := goodIn_app (goodIn_of _ (by decide +kernel)) ggX4_broken_X2_works
theorem dX4_broken_0 : decode cX4_broken 0 = .ok (.iload_n 1, 1) := by decide +kernel
theorem dX4_broken_1 : decode cX4_broken 1 = .ok (.iconst 0, 1) := by decide +kernel
theorem dX4_broken_2 : decode cX4_broken 2 = .ok (.iconst 1, 1) := by decide +kernel
theorem dX4_broken_3 : decode cX4_broken 3 = .ok (.invokestatic 52, 3) := by decide +kernel
theorem dX4_broken_6 : decode cX4_broken 6 = .ok (.ifCond .eq 13, 3) := by decide +kernel
theorem dX4_broken_9 : decode cX4_broken 9 = .ok (.iload_n 2, 1) := by decide +kernel
theorem dX4_broken_10 : decode cX4_broken 10 = .ok (.iconst 0, 1) := by decide +kernel
theorem dX4_broken_11 : decode cX4_broken 11 = .ok (.bipush 11, 2) := by decide +kernel
theorem dX4_broken_13 : decode cX4_broken 13 = .ok (.invokestatic 52, 3) := by decide +kernel
theorem dX4_broken_16 : decode cX4_broken 16 = .ok (.ifCond .ne 6, 3) := by decide +kernel
theorem dX4_broken_19 : decode cX4_broken 19 = .ok (.bipush (-101), 2) := by decide +kernel
theorem dX4_broken_21 : decode cX4_broken 21 = .ok (.ireturn, 1) := by decide +kernel
theorem dX4_broken_22 : decode cX4_broken 22 = .ok (.aload_n 0, 1) := by decide +kernel
theorem dX4_broken_23 : decode cX4_broken 23 = .ok (.getfield 10, 3) := by decide +kernel
theorem dX4_broken_26 : decode cX4_broken 26 = .ok (.iload_n 1, 1) := by decide +kernel
theorem dX4_broken_27 : decode cX4_broken 27 = .ok (.iload_n 2, 1) := by decide +kernel
theorem dX4_broken_28 : decode cX4_broken 28 = .ok (.invokevirtual 112, 3) := by decide +kernel
theorem dX4_broken_31 : decode cX4_broken 31 = .ok (.ifCond .eq 7, 3) := by decide +kernel
theorem dX4_broken_34 : decode cX4_broken 34 = .ok (.iconst 0, 1) := by decide +kernel
theorem dX4_broken_35 : decode cX4_broken 35 = .ok (.goto 4, 3) := by decide +kernel
theorem dX4_broken_38 : decode cX4_broken 38 = .ok (.iconst 1, 1) := by decide +kernel
theorem dX4_broken_39 : decode cX4_broken 39 = .ok (.ireturn, 1) := by decide +kernel
set_option maxRecDepth 20000 in
theorem ggX4_place_X4_within : GoodIn wsX4_place wsX4_within := goodIn_r _ [5] (by decide +kernel) (by decide +kernel)
set_option maxRecDepth 20000 in
theorem gX4_place_X4_within : GoodIn wsX4_place (va_wsS RX4 52 yX4_within wsX4_within) := goodIn_app (goodIn_of _ (by decide +kernel)) ggX4_place_X4_within
set_option maxRecDepth 20000 in
theorem ggX4_place_X2_wantedAt : GoodIn wsX4_place wsX2_wantedAt := goodIn_r _ [10, 11, 12, 13, 14, 15, 16, 17, 18, 19, 20, 21, 22, 23, 24, 25, 26, 27, 28, 29, 30, 31, 32, 33, 34, 35, 36, 37, 38, 39, 40, 41, 42, 73, 74, 75, 76, 77, 78, 79, 80, 81, 82, 83, 84, 85, 86, 87, 88] (by decide +kernel) (by decide +kernel)
set_option maxRecDepth 20000 in
theorem gX4_place_X2_wantedAt : GoodIn wsX4_place (wsV RX4 175 RX2 yX2_wantedAt wsX2_wantedAt) := goodIn_app (goodIn_of _ (by decide +kernel)) ggX4_place_X2_wantedAt
set_option maxRecDepth 20000 in
theorem ggX4_place_X4_colorIn : GoodIn wsX4_place wsX4_colorIn := goodIn_r _ [45] (by decide +kernel) (by decide +kernel)
set_option maxRecDepth 20000 in
theorem gX4_place_X4_colorIn : GoodIn wsX4_place (va_wsS RX4 78 yX4_colorIn wsX4_colorIn) := goodIn_app (goodIn_of _ (by decide +kernel)) ggX4_place_X4_colorIn
set_option maxRecDepth 20000 in
theorem ggX4_place_X2_litAt : GoodIn wsX4_place wsX2_litAt := goodIn_r _ [49, 50, 51, 52, 53, 37, 54, 55, 56, 57, 73, 74, 75, 76, 77, 78, 79, 80, 81, 82, 83] (by decide +kernel) (by decide +kernel)
set_option maxRecDepth 20000 in
theorem gX4_place_X2_litAt : GoodIn wsX4_place (wsV RX4 179 RX2 yX2_litAt wsX2_litAt) := goodIn_app (goodIn_of _ (by decide +kernel)) ggX4_place_X2_litAt
set_option maxRecDepth 20000 in
theorem ggX4_place_X4_ticksSinceWritten : GoodIn wsX4_place wsX4_ticksSinceWritten := goodIn_r _ [61, 1, 62, 63, 64, 65, 66, 67, 68, 69, 70, 71, 72, 73, 74, 75, 76, 77, 78, 79, 80, 81, 82, 83] (by decide +kernel) (by decide +kernel)
set_option maxRecDepth 20000 in
theorem gX4_place_X4_ticksSinceWritten : GoodIn wsX4_place (wsV RX4 183 RX4 yX4_ticksSinceWritten wsX4_ticksSinceWritten) := goodIn_app (goodIn_of _ (by decide +kernel)) ggX4_place_X4_ticksSinceWritten
theorem dX4_place_0 : decode cX4_place 0 = .ok (.iload_n 1, 1) := by decide +kernel
theorem dX4_place_1 : decode cX4_place 1 = .ok (.iconst 0, 1) := by decide +kernel
theorem dX4_place_2 : decode cX4_place 2 = .ok (.sipush 719, 3) := by decide +kernel
theorem dX4_place_5 : decode cX4_place 5 = .ok (.invokestatic 52, 3) := by decide +kernel
theorem dX4_place_8 : decode cX4_place 8 = .ok (.ifCond .eq 13, 3) := by decide +kernel
theorem dX4_place_11 : decode cX4_place 11 = .ok (.iload_n 2, 1) := by decide +kernel
theorem dX4_place_12 : decode cX4_place 12 = .ok (.iconst 0, 1) := by decide +kernel
theorem dX4_place_13 : decode cX4_place 13 = .ok (.bipush 11, 2) := by decide +kernel
theorem dX4_place_15 : decode cX4_place 15 = .ok (.invokestatic 52, 3) := by decide +kernel
theorem dX4_place_18 : decode cX4_place 18 = .ok (.ifCond .ne 6, 3) := by decide +kernel
theorem dX4_place_21 : decode cX4_place 21 = .ok (.bipush (-101), 2) := by decide +kernel
theorem dX4_place_23 : decode cX4_place 23 = .ok (.ireturn, 1) := by decide +kernel
theorem dX4_place_24 : decode cX4_place 24 = .ok (.iload_n 3, 1) := by decide +kernel
theorem dX4_place_25 : decode cX4_place 25 = .ok (.tableswitch 61 0 2 #[27, 40, 54], 27) := by decide +kernel
theorem dX4_place_52 : decode cX4_place 52 = .ok (.aload_n 0, 1) := by decide +kernel
theorem dX4_place_53 : decode cX4_place 53 = .ok (.getfield 10, 3) := by decide +kernel
theorem dX4_place_56 : decode cX4_place 56 = .ok (.iload_n 1, 1) := by decide +kernel
theorem dX4_place_57 : decode cX4_place 57 = .ok (.invokevirtual 175, 3) := by decide +kernel
theorem dX4_place_60 : decode cX4_place 60 = .ok (.iload_n 2, 1) := by decide +kernel
theorem dX4_place_61 : decode cX4_place 61 = .ok (.invokestatic 78, 3) := by decide +kernel
theorem dX4_place_64 : decode cX4_place 64 = .ok (.ireturn, 1) := by decide +kernel
theorem dX4_place_65 : decode cX4_place 65 = .ok (.aload_n 0, 1) := by decide +kernel
theorem dX4_place_66 : decode cX4_place 66 = .ok (.getfield 10, 3) := by decide +kernel
theorem dX4_place_69 : decode cX4_place 69 = .ok (.iload_n 1, 1) := by decide +kernel
theorem dX4_place_70 : decode cX4_place 70 = .ok (.iconst 0, 1) := by decide +kernel
theorem dX4_place_71 : decode cX4_place 71 = .ok (.invokevirtual 179, 3) := by decide +kernel
theorem dX4_place_74 : decode cX4_place 74 = .ok (.iload_n 2, 1) := by decide +kernel
theorem dX4_place_75 : decode cX4_place 75 = .ok (.invokestatic 78, 3) := by decide +kernel
theorem dX4_place_78 : decode cX4_place 78 = .ok (.ireturn, 1) := by decide +kernel
theorem dX4_place_79 : decode cX4_place 79 = .ok (.aload_n 0, 1) := by decide +kernel
theorem dX4_place_80 : decode cX4_place 80 = .ok (.iload_n 1, 1) := by decide +kernel
theorem dX4_place_81 : decode cX4_place 81 = .ok (.iload_n 2, 1) := by decide +kernel
theorem dX4_place_82 : decode cX4_place 82 = .ok (.invokevirtual 183, 3) := by decide +kernel
theorem dX4_place_85 : decode cX4_place 85 = .ok (.ireturn, 1) := by decide +kernel
theorem dX4_place_86 : decode cX4_place 86 = .ok (.bipush (-101), 2) := by decide +kernel
theorem dX4_place_88 : decode cX4_place 88 = .ok (.ireturn, 1) := by decide +kernel
set_option maxRecDepth 20000 in
theorem ggX4_columnAt_X2_pictureNumbered : GoodIn wsX4_columnAt wsX2_pictureNumbered := goodIn_r _ [6, 7, 8, 9, 10, 11, 47, 48, 49, 50, 51, 52, 53, 54, 55, 56, 57] (by decide +kernel) (by decide +kernel)
set_option maxRecDepth 20000 in
theorem gX4_columnAt_X2_pictureNumbered : GoodIn wsX4_columnAt (wsV RX4 71 RX2 yX2_pictureNumbered wsX2_pictureNumbered) := goodIn_app (goodIn_of _ (by decide +kernel)) ggX4_columnAt_X2_pictureNumbered
set_option maxRecDepth 20000 in
theorem ggX4_columnAt_X4_within : GoodIn wsX4_columnAt wsX4_within := goodIn_r _ [11] (by decide +kernel) (by decide +kernel)
set_option maxRecDepth 20000 in
theorem gX4_columnAt_X4_within : GoodIn wsX4_columnAt (va_wsS RX4 52 yX4_within wsX4_within) := goodIn_app (goodIn_of _ (by decide +kernel)) ggX4_columnAt_X4_within
set_option maxRecDepth 20000 in
theorem ggX4_columnAt_X0_covers : GoodIn wsX4_columnAt wsX0_covers := goodIn_r _ [17, 18, 19, 20, 21, 22, 23, 24, 25, 16, 26, 27, 28, 29, 30, 31, 32, 58, 59, 60, 61, 62] (by decide +kernel) (by decide +kernel)
set_option maxRecDepth 20000 in
theorem gX4_columnAt_X0_covers : GoodIn wsX4_columnAt (wsV RX4 187 RX0 yX0_covers wsX0_covers) := goodIn_app (goodIn_of _ (by decide +kernel)) ggX4_columnAt_X0_covers
set_option maxRecDepth 20000 in
theorem ggX4_columnAt_X0_columnOf : GoodIn wsX4_columnAt wsX0_columnOf := goodIn_r _ [36, 18, 28, 37, 27, 19, 20, 21, 22, 58, 59, 60, 61, 62] (by decide +kernel) (by decide +kernel)
set_option maxRecDepth 20000 in
theorem gX4_columnAt_X0_columnOf : GoodIn wsX4_columnAt (wsV RX4 191 RX0 yX0_columnOf wsX0_columnOf) := goodIn_app (goodIn_of _ (by decide +kernel)) ggX4_columnAt_X0_columnOf
theorem dX4_columnAt_0 : decode cX4_columnAt 0 = .ok (.aload_n 0, 1) := by decide +kernel
theorem dX4_columnAt_1 : decode cX4_columnAt 1 = .ok (.getfield 10, 3) := by decide +kernel
theorem dX4_columnAt_4 : decode cX4_columnAt 4 = .ok (.iload_n 1, 1) := by decide +kernel
theorem dX4_columnAt_5 : decode cX4_columnAt 5 = .ok (.invokevirtual 71, 3) := by decide +kernel
theorem dX4_columnAt_8 : decode cX4_columnAt 8 = .ok (.astore_n 3, 1) := by decide +kernel
theorem dX4_columnAt_9 : decode cX4_columnAt 9 = .ok (.aload_n 3, 1) := by decide +kernel
theorem dX4_columnAt_10 : decode cX4_columnAt 10 = .ok (.ifnull 14, 3) := by decide +kernel
theorem dX4_columnAt_13 : decode cX4_columnAt 13 = .ok (.iload_n 2, 1) := by decide +kernel
theorem dX4_columnAt_14 : decode cX4_columnAt 14 = .ok (.iconst 0, 1) := by decide +kernel
theorem dX4_columnAt_15 : decode cX4_columnAt 15 = .ok (.sipush 719, 3) := by decide +kernel
theorem dX4_columnAt_18 : decode cX4_columnAt 18 = .ok (.invokestatic 52, 3) := by decide +kernel
theorem dX4_columnAt_21 : decode cX4_columnAt 21 = .ok (.ifCond .ne 6, 3) := by decide +kernel
theorem dX4_columnAt_24 : decode cX4_columnAt 24 = .ok (.bipush (-101), 2) := by decide +kernel
theorem dX4_columnAt_26 : decode cX4_columnAt 26 = .ok (.ireturn, 1) := by decide +kernel
theorem dX4_columnAt_27 : decode cX4_columnAt 27 = .ok (.aload_n 3, 1) := by decide +kernel
theorem dX4_columnAt_28 : decode cX4_columnAt 28 = .ok (.iload_n 2, 1) := by decide +kernel
theorem dX4_columnAt_29 : decode cX4_columnAt 29 = .ok (.invokevirtual 187, 3) := by decide +kernel
theorem dX4_columnAt_32 : decode cX4_columnAt 32 = .ok (.ifCond .eq 11, 3) := by decide +kernel
theorem dX4_columnAt_35 : decode cX4_columnAt 35 = .ok (.aload_n 3, 1) := by decide +kernel
theorem dX4_columnAt_36 : decode cX4_columnAt 36 = .ok (.iload_n 2, 1) := by decide +kernel
theorem dX4_columnAt_37 : decode cX4_columnAt 37 = .ok (.invokevirtual 191, 3) := by decide +kernel
theorem dX4_columnAt_40 : decode cX4_columnAt 40 = .ok (.goto 5, 3) := by decide +kernel
theorem dX4_columnAt_43 : decode cX4_columnAt 43 = .ok (.bipush (-109), 2) := by decide +kernel
theorem dX4_columnAt_45 : decode cX4_columnAt 45 = .ok (.ireturn, 1) := by decide +kernel
set_option maxRecDepth 20000 in
theorem ggX4_countLit_X2_litAt : GoodIn wsX4_countLit wsX2_litAt := goodIn_r _ [6, 7, 8, 9, 10, 11, 12, 13, 14, 15, 37, 38, 39, 40, 41, 42, 43, 44, 45, 46, 47] (by decide +kernel) (by decide +kernel)
set_option maxRecDepth 20000 in
theorem gX4_countLit_X2_litAt : GoodIn wsX4_countLit (wsV RX4 179 RX2 yX2_litAt wsX2_litAt) := goodIn_app (goodIn_of _ (by decide +kernel)) ggX4_countLit_X2_litAt
set_option maxRecDepth 20000 in
theorem ggX4_countLit_X4_notDark : GoodIn wsX4_countLit wsX4_notDark := goodIn_r _ [19, 20] (by decide +kernel) (by decide +kernel)
set_option maxRecDepth 20000 in
theorem gX4_countLit_X4_notDark : GoodIn wsX4_countLit (va_wsS RX4 195 yX4_notDark wsX4_notDark) := goodIn_app (goodIn_of _ (by decide +kernel)) ggX4_countLit_X4_notDark
set_option maxRecDepth 20000 in
theorem ggX4_countLit_J13_bitCount_95d88 : GoodIn wsX4_countLit wsJ13_bitCount_95d88 := goodIn_r _ [24, 25, 26, 27] (by decide +kernel) (by decide +kernel)
set_option maxRecDepth 20000 in
theorem gX4_countLit_J13_bitCount_95d88 : GoodIn wsX4_countLit (va_wsS RX4 199 yJ13_bitCount_95d88 wsJ13_bitCount_95d88) := goodIn_app (goodIn_of _ (by decide +kernel)) ggX4_countLit_J13_bitCount_95d88
theorem dX4_countLit_0 : decode cX4_countLit 0 = .ok (.iconst 0, 1) := by decide +kernel
theorem dX4_countLit_1 : decode cX4_countLit 1 = .ok (.istore_n 1, 1) := by decide +kernel
theorem dX4_countLit_2 : decode cX4_countLit 2 = .ok (.iconst 0, 1) := by decide +kernel
theorem dX4_countLit_3 : decode cX4_countLit 3 = .ok (.istore_n 2, 1) := by decide +kernel
theorem dX4_countLit_4 : decode cX4_countLit 4 = .ok (.iload_n 2, 1) := by decide +kernel
theorem dX4_countLit_5 : decode cX4_countLit 5 = .ok (.sipush 720, 3) := by decide +kernel
theorem dX4_countLit_8 : decode cX4_countLit 8 = .ok (.if_icmp .ge 27, 3) := by decide +kernel
theorem dX4_countLit_11 : decode cX4_countLit 11 = .ok (.iload_n 1, 1) := by decide +kernel
theorem dX4_countLit_12 : decode cX4_countLit 12 = .ok (.aload_n 0, 1) := by decide +kernel
theorem dX4_countLit_13 : decode cX4_countLit 13 = .ok (.getfield 10, 3) := by decide +kernel
theorem dX4_countLit_16 : decode cX4_countLit 16 = .ok (.iload_n 2, 1) := by decide +kernel
theorem dX4_countLit_17 : decode cX4_countLit 17 = .ok (.iconst 0, 1) := by decide +kernel
theorem dX4_countLit_18 : decode cX4_countLit 18 = .ok (.invokevirtual 179, 3) := by decide +kernel
theorem dX4_countLit_21 : decode cX4_countLit 21 = .ok (.invokestatic 195, 3) := by decide +kernel
theorem dX4_countLit_24 : decode cX4_countLit 24 = .ok (.invokestatic 199, 3) := by decide +kernel
theorem dX4_countLit_27 : decode cX4_countLit 27 = .ok (.iadd, 1) := by decide +kernel
theorem dX4_countLit_28 : decode cX4_countLit 28 = .ok (.istore_n 1, 1) := by decide +kernel
theorem dX4_countLit_29 : decode cX4_countLit 29 = .ok (.iinc 2 1, 3) := by decide +kernel
theorem dX4_countLit_32 : decode cX4_countLit 32 = .ok (.goto (-28), 3) := by decide +kernel
theorem dX4_countLit_35 : decode cX4_countLit 35 = .ok (.iload_n 1, 1) := by decide +kernel
theorem dX4_countLit_36 : decode cX4_countLit 36 = .ok (.ireturn, 1) := by decide +kernel
set_option maxRecDepth 20000 in
theorem ggX4_countNotAsWanted_X2_litAt : GoodIn wsX4_countNotAsWanted wsX2_litAt := goodIn_r _ [6, 7, 8, 9, 10, 11, 12, 13, 14, 15, 72, 73, 74, 75, 76, 77, 78, 79, 80, 81, 82] (by decide +kernel) (by decide +kernel)
set_option maxRecDepth 20000 in
theorem gX4_countNotAsWanted_X2_litAt : GoodIn wsX4_countNotAsWanted (wsV RX4 179 RX2 yX2_litAt wsX2_litAt) := goodIn_app (goodIn_of _ (by decide +kernel)) ggX4_countNotAsWanted_X2_litAt
set_option maxRecDepth 20000 in
theorem ggX4_countNotAsWanted_X2_wantedAt : GoodIn wsX4_countNotAsWanted wsX2_wantedAt := goodIn_r _ [19, 20, 21, 22, 23, 24, 25, 26, 27, 28, 29, 30, 31, 32, 33, 34, 35, 36, 37, 38, 39, 40, 41, 42, 43, 44, 45, 11, 46, 47, 48, 49, 50, 72, 73, 74, 75, 76, 77, 78, 79, 80, 81, 82, 83, 84, 85, 86, 87] (by decide +kernel) (by decide +kernel)
set_option maxRecDepth 20000 in
theorem gX4_countNotAsWanted_X2_wantedAt : GoodIn wsX4_countNotAsWanted (wsV RX4 175 RX2 yX2_wantedAt wsX2_wantedAt) := goodIn_app (goodIn_of _ (by decide +kernel)) ggX4_countNotAsWanted_X2_wantedAt
set_option maxRecDepth 20000 in
theorem ggX4_countNotAsWanted_X4_notDark : GoodIn wsX4_countNotAsWanted wsX4_notDark := goodIn_r _ [54, 55] (by decide +kernel) (by decide +kernel)
set_option maxRecDepth 20000 in
theorem gX4_countNotAsWanted_X4_notDark : GoodIn wsX4_countNotAsWanted (va_wsS RX4 195 yX4_notDark wsX4_notDark) := goodIn_app (goodIn_of _ (by decide +kernel)) ggX4_countNotAsWanted_X4_notDark
set_option maxRecDepth 20000 in
theorem ggX4_countNotAsWanted_J13_bitCount_95d88 : GoodIn wsX4_countNotAsWanted wsJ13_bitCount_95d88 := goodIn_r _ [59, 60, 61, 62] (by decide +kernel) (by decide +kernel)
set_option maxRecDepth 20000 in
theorem gX4_countNotAsWanted_J13_bitCount_95d88 : GoodIn wsX4_countNotAsWanted (va_wsS RX4 199 yJ13_bitCount_95d88 wsJ13_bitCount_95d88) := goodIn_app (goodIn_of _ (by decide +kernel)) ggX4_countNotAsWanted_J13_bitCount_95d88
theorem dX4_countNotAsWanted_0 : decode cX4_countNotAsWanted 0 = .ok (.iconst 0, 1) := by decide +kernel
theorem dX4_countNotAsWanted_1 : decode cX4_countNotAsWanted 1 = .ok (.istore_n 1, 1) := by decide +kernel
theorem dX4_countNotAsWanted_2 : decode cX4_countNotAsWanted 2 = .ok (.iconst 0, 1) := by decide +kernel
theorem dX4_countNotAsWanted_3 : decode cX4_countNotAsWanted 3 = .ok (.istore_n 2, 1) := by decide +kernel
theorem dX4_countNotAsWanted_4 : decode cX4_countNotAsWanted 4 = .ok (.iload_n 2, 1) := by decide +kernel
theorem dX4_countNotAsWanted_5 : decode cX4_countNotAsWanted 5 = .ok (.sipush 720, 3) := by decide +kernel
theorem dX4_countNotAsWanted_8 : decode cX4_countNotAsWanted 8 = .ok (.if_icmp .ge 36, 3) := by decide +kernel
theorem dX4_countNotAsWanted_11 : decode cX4_countNotAsWanted 11 = .ok (.iload_n 1, 1) := by decide +kernel
theorem dX4_countNotAsWanted_12 : decode cX4_countNotAsWanted 12 = .ok (.aload_n 0, 1) := by decide +kernel
theorem dX4_countNotAsWanted_13 : decode cX4_countNotAsWanted 13 = .ok (.getfield 10, 3) := by decide +kernel
theorem dX4_countNotAsWanted_16 : decode cX4_countNotAsWanted 16 = .ok (.iload_n 2, 1) := by decide +kernel
theorem dX4_countNotAsWanted_17 : decode cX4_countNotAsWanted 17 = .ok (.iconst 0, 1) := by decide +kernel
theorem dX4_countNotAsWanted_18 : decode cX4_countNotAsWanted 18 = .ok (.invokevirtual 179, 3) := by decide +kernel
theorem dX4_countNotAsWanted_21 : decode cX4_countNotAsWanted 21 = .ok (.aload_n 0, 1) := by decide +kernel
theorem dX4_countNotAsWanted_22 : decode cX4_countNotAsWanted 22 = .ok (.getfield 10, 3) := by decide +kernel
theorem dX4_countNotAsWanted_25 : decode cX4_countNotAsWanted 25 = .ok (.iload_n 2, 1) := by decide +kernel
theorem dX4_countNotAsWanted_26 : decode cX4_countNotAsWanted 26 = .ok (.invokevirtual 175, 3) := by decide +kernel
theorem dX4_countNotAsWanted_29 : decode cX4_countNotAsWanted 29 = .ok (.lxor, 1) := by decide +kernel
theorem dX4_countNotAsWanted_30 : decode cX4_countNotAsWanted 30 = .ok (.invokestatic 195, 3) := by decide +kernel
theorem dX4_countNotAsWanted_33 : decode cX4_countNotAsWanted 33 = .ok (.invokestatic 199, 3) := by decide +kernel
theorem dX4_countNotAsWanted_36 : decode cX4_countNotAsWanted 36 = .ok (.iadd, 1) := by decide +kernel
theorem dX4_countNotAsWanted_37 : decode cX4_countNotAsWanted 37 = .ok (.istore_n 1, 1) := by decide +kernel
theorem dX4_countNotAsWanted_38 : decode cX4_countNotAsWanted 38 = .ok (.iinc 2 1, 3) := by decide +kernel
theorem dX4_countNotAsWanted_41 : decode cX4_countNotAsWanted 41 = .ok (.goto (-37), 3) := by decide +kernel
theorem dX4_countNotAsWanted_44 : decode cX4_countNotAsWanted 44 = .ok (.iload_n 1, 1) := by decide +kernel
theorem dX4_countNotAsWanted_45 : decode cX4_countNotAsWanted 45 = .ok (.ireturn, 1) := by decide +kernel
theorem dX4_ticksSinceWritten_0 : decode cX4_ticksSinceWritten 0 = .ok (.aload_n 0, 1) := by decide +kernel
theorem dX4_ticksSinceWritten_1 : decode cX4_ticksSinceWritten 1 = .ok (.getfield 10, 3) := by decide +kernel
theorem dX4_ticksSinceWritten_4 : decode cX4_ticksSinceWritten 4 = .ok (.getfield 205, 3) := by decide +kernel
theorem dX4_ticksSinceWritten_7 : decode cX4_ticksSinceWritten 7 = .ok (.iload_n 1, 1) := by decide +kernel
theorem dX4_ticksSinceWritten_8 : decode cX4_ticksSinceWritten 8 = .ok (.bipush 12, 2) := by decide +kernel
theorem dX4_ticksSinceWritten_10 : decode cX4_ticksSinceWritten 10 = .ok (.imul, 1) := by decide +kernel
theorem dX4_ticksSinceWritten_11 : decode cX4_ticksSinceWritten 11 = .ok (.iload_n 2, 1) := by decide +kernel
theorem dX4_ticksSinceWritten_12 : decode cX4_ticksSinceWritten 12 = .ok (.iadd, 1) := by decide +kernel
theorem dX4_ticksSinceWritten_13 : decode cX4_ticksSinceWritten 13 = .ok (.iaload, 1) := by decide +kernel
theorem dX4_ticksSinceWritten_14 : decode cX4_ticksSinceWritten 14 = .ok (.istore_n 3, 1) := by decide +kernel
theorem dX4_ticksSinceWritten_15 : decode cX4_ticksSinceWritten 15 = .ok (.iload_n 3, 1) := by decide +kernel
theorem dX4_ticksSinceWritten_16 : decode cX4_ticksSinceWritten 16 = .ok (.ifCond .ne 8, 3) := by decide +kernel
theorem dX4_ticksSinceWritten_19 : decode cX4_ticksSinceWritten 19 = .ok (.bipush (-109), 2) := by decide +kernel
theorem dX4_ticksSinceWritten_21 : decode cX4_ticksSinceWritten 21 = .ok (.goto 12, 3) := by decide +kernel
theorem dX4_ticksSinceWritten_24 : decode cX4_ticksSinceWritten 24 = .ok (.aload_n 0, 1) := by decide +kernel
theorem dX4_ticksSinceWritten_25 : decode cX4_ticksSinceWritten 25 = .ok (.getfield 10, 3) := by decide +kernel
theorem dX4_ticksSinceWritten_28 : decode cX4_ticksSinceWritten 28 = .ok (.getfield 131, 3) := by decide +kernel
theorem dX4_ticksSinceWritten_31 : decode cX4_ticksSinceWritten 31 = .ok (.iload_n 3, 1) := by decide +kernel
theorem dX4_ticksSinceWritten_32 : decode cX4_ticksSinceWritten 32 = .ok (.isub, 1) := by decide +kernel
theorem dX4_ticksSinceWritten_33 : decode cX4_ticksSinceWritten 33 = .ok (.ireturn, 1) := by decide +kernel
set_option maxRecDepth 20000 in
theorem ggX4_ticksAround_X3_prepare : GoodIn wsX4_ticksAround wsX3_prepare := goodIn_r _ [13, 14, 15, 16, 17, 18, 19, 20, 21, 22, 23, 24, 25, 26, 27, 28, 29, 30, 31, 32, 33, 34, 35, 36, 37, 38, 39, 40, 41, 42, 43, 44, 45, 46, 47, 48, 49, 50, 51, 52, 7, 53, 54, 55, 56, 57, 58, 59, 60, 61, 62, 63, 64, 65, 66, 67, 68, 69, 70, 12, 71, 112, 113, 114, 115, 116, 117, 118, 119, 120, 121, 122, 123, 124, 125, 126, 127, 128, 129, 130, 131, 132, 133, 134, 135, 136, 137, 138] (by decide +kernel) (by decide +kernel)
set_option maxRecDepth 20000 in
theorem gX4_ticksAround_X3_prepare : GoodIn wsX4_ticksAround (wsV RX4 134 RX3 yX3_prepare wsX3_prepare) := goodIn_app (goodIn_of _ (by decide +kernel)) ggX4_ticksAround_X3_prepare
set_option maxRecDepth 20000 in
theorem ggX4_ticksAround_X3_start : GoodIn wsX4_ticksAround wsX3_start := goodIn_r _ [75, 76, 77, 78, 79, 80, 81, 82, 83, 84, 123, 124, 125, 126, 127, 128, 129, 130, 131, 132, 133, 112, 113, 114, 115, 116, 117, 118, 119, 120, 121, 122] (by decide +kernel) (by decide +kernel)
set_option maxRecDepth 20000 in
theorem gX4_ticksAround_X3_start : GoodIn wsX4_ticksAround (wsV RX4 138 RX3 yX3_start wsX3_start) := goodIn_app (goodIn_of _ (by decide +kernel)) ggX4_ticksAround_X3_start
set_option maxRecDepth 20000 in
theorem ggX4_ticksAround_X3_goOn : GoodIn wsX4_ticksAround wsX3_goOn := goodIn_r _ [88, 83, 89, 90, 91, 12, 92, 82, 18, 17, 80, 76, 93, 52, 7, 53, 94, 95, 96, 97, 98, 99, 100, 101, 6, 8, 78, 84, 20, 102, 42, 43, 44, 123, 124, 125, 126, 127, 128, 129, 130, 131, 132, 133] (by decide +kernel) (by decide +kernel)
set_option maxRecDepth 20000 in
theorem gX4_ticksAround_X3_goOn : GoodIn wsX4_ticksAround (wsV RX4 142 RX3 yX3_goOn wsX3_goOn) := goodIn_app (goodIn_of _ (by decide +kernel)) ggX4_ticksAround_X3_goOn
theorem dX4_ticksAround_0 : decode cX4_ticksAround 0 = .ok (.aload_n 0, 1) := by decide +kernel
theorem dX4_ticksAround_1 : decode cX4_ticksAround 1 = .ok (.getfield 44, 3) := by decide +kernel
theorem dX4_ticksAround_4 : decode cX4_ticksAround 4 = .ok (.aload_n 0, 1) := by decide +kernel
theorem dX4_ticksAround_5 : decode cX4_ticksAround 5 = .ok (.getfield 10, 3) := by decide +kernel
theorem dX4_ticksAround_8 : decode cX4_ticksAround 8 = .ok (.invokevirtual 134, 3) := by decide +kernel
theorem dX4_ticksAround_11 : decode cX4_ticksAround 11 = .ok (.aload_n 0, 1) := by decide +kernel
theorem dX4_ticksAround_12 : decode cX4_ticksAround 12 = .ok (.getfield 44, 3) := by decide +kernel
theorem dX4_ticksAround_15 : decode cX4_ticksAround 15 = .ok (.aload_n 0, 1) := by decide +kernel
theorem dX4_ticksAround_16 : decode cX4_ticksAround 16 = .ok (.getfield 10, 3) := by decide +kernel
theorem dX4_ticksAround_19 : decode cX4_ticksAround 19 = .ok (.aload_n 0, 1) := by decide +kernel
theorem dX4_ticksAround_20 : decode cX4_ticksAround 20 = .ok (.getfield 10, 3) := by decide +kernel
theorem dX4_ticksAround_23 : decode cX4_ticksAround 23 = .ok (.getfield 128, 3) := by decide +kernel
theorem dX4_ticksAround_26 : decode cX4_ticksAround 26 = .ok (.iconst 0, 1) := by decide +kernel
theorem dX4_ticksAround_27 : decode cX4_ticksAround 27 = .ok (.iaload, 1) := by decide +kernel
theorem dX4_ticksAround_28 : decode cX4_ticksAround 28 = .ok (.invokevirtual 138, 3) := by decide +kernel
theorem dX4_ticksAround_31 : decode cX4_ticksAround 31 = .ok (.iconst 0, 1) := by decide +kernel
theorem dX4_ticksAround_32 : decode cX4_ticksAround 32 = .ok (.istore_n 1, 1) := by decide +kernel
theorem dX4_ticksAround_33 : decode cX4_ticksAround 33 = .ok (.iconst 1, 1) := by decide +kernel
theorem dX4_ticksAround_34 : decode cX4_ticksAround 34 = .ok (.istore_n 2, 1) := by decide +kernel
theorem dX4_ticksAround_35 : decode cX4_ticksAround 35 = .ok (.iload_n 2, 1) := by decide +kernel
theorem dX4_ticksAround_36 : decode cX4_ticksAround 36 = .ok (.sipush 500, 3) := by decide +kernel
theorem dX4_ticksAround_39 : decode cX4_ticksAround 39 = .ok (.if_icmp .gt 39, 3) := by decide +kernel
theorem dX4_ticksAround_42 : decode cX4_ticksAround 42 = .ok (.aload_n 0, 1) := by decide +kernel
theorem dX4_ticksAround_43 : decode cX4_ticksAround 43 = .ok (.getfield 44, 3) := by decide +kernel
theorem dX4_ticksAround_46 : decode cX4_ticksAround 46 = .ok (.iconst 1, 1) := by decide +kernel
theorem dX4_ticksAround_47 : decode cX4_ticksAround 47 = .ok (.invokevirtual 142, 3) := by decide +kernel
theorem dX4_ticksAround_50 : decode cX4_ticksAround 50 = .ok (.iload_n 1, 1) := by decide +kernel
theorem dX4_ticksAround_51 : decode cX4_ticksAround 51 = .ok (.aload_n 0, 1) := by decide +kernel
theorem dX4_ticksAround_52 : decode cX4_ticksAround 52 = .ok (.getfield 44, 3) := by decide +kernel
theorem dX4_ticksAround_55 : decode cX4_ticksAround 55 = .ok (.getfield 208, 3) := by decide +kernel
theorem dX4_ticksAround_58 : decode cX4_ticksAround 58 = .ok (.invokestatic 209, 3) := by decide +kernel
theorem dX4_ticksAround_61 : decode cX4_ticksAround 61 = .ok (.iadd, 1) := by decide +kernel
theorem dX4_ticksAround_62 : decode cX4_ticksAround 62 = .ok (.istore_n 1, 1) := by decide +kernel
theorem dX4_ticksAround_63 : decode cX4_ticksAround 63 = .ok (.iload_n 1, 1) := by decide +kernel
theorem dX4_ticksAround_64 : decode cX4_ticksAround 64 = .ok (.sipush 720, 3) := by decide +kernel
theorem dX4_ticksAround_67 : decode cX4_ticksAround 67 = .ok (.if_icmp .lt 5, 3) := by decide +kernel
theorem dX4_ticksAround_70 : decode cX4_ticksAround 70 = .ok (.iload_n 2, 1) := by decide +kernel
theorem dX4_ticksAround_71 : decode cX4_ticksAround 71 = .ok (.ireturn, 1) := by decide +kernel
theorem dX4_ticksAround_72 : decode cX4_ticksAround 72 = .ok (.iinc 2 1, 3) := by decide +kernel
theorem dX4_ticksAround_75 : decode cX4_ticksAround 75 = .ok (.goto (-40), 3) := by decide +kernel
theorem dX4_ticksAround_78 : decode cX4_ticksAround 78 = .ok (.bipush (-109), 2) := by decide +kernel
theorem dX4_ticksAround_80 : decode cX4_ticksAround 80 = .ok (.ireturn, 1) := by decide +kernel
set_option maxRecDepth 20000 in
theorem ggX4_gaps_X4_within : GoodIn wsX4_gaps wsX4_within := goodIn_r _ [7] (by decide +kernel) (by decide +kernel)
set_option maxRecDepth 20000 in
theorem gX4_gaps_X4_within : GoodIn wsX4_gaps (va_wsS RX4 52 yX4_within wsX4_within) := goodIn_app (goodIn_of _ (by decide +kernel)) ggX4_gaps_X4_within
set_option maxRecDepth 20000 in
theorem ggX4_gaps_X3_prepare : GoodIn wsX4_gaps wsX3_prepare := goodIn_r _ [12, 13, 14, 15, 16, 17, 18, 19, 20, 21, 22, 23, 24, 25, 26, 27, 28, 29, 30, 31, 32, 33, 34, 35, 36, 37, 38, 39, 40, 41, 42, 43, 44, 45, 46, 47, 48, 49, 50, 51, 52, 53, 54, 55, 56, 57, 58, 6, 59, 60, 61, 62, 63, 64, 65, 66, 67, 68, 69, 11, 70, 127, 128, 129, 130, 131, 132, 133, 134, 135, 136, 137, 138, 139, 140, 141, 142, 143, 144, 145, 146, 147, 148, 149, 150, 151, 152, 153] (by decide +kernel) (by decide +kernel)
set_option maxRecDepth 20000 in
theorem gX4_gaps_X3_prepare : GoodIn wsX4_gaps (wsV RX4 134 RX3 yX3_prepare wsX3_prepare) := goodIn_app (goodIn_of _ (by decide +kernel)) ggX4_gaps_X3_prepare
set_option maxRecDepth 20000 in
theorem ggX4_gaps_X3_start : GoodIn wsX4_gaps wsX3_start := goodIn_r _ [74, 75, 76, 77, 78, 79, 80, 81, 82, 83, 138, 139, 140, 141, 142, 143, 144, 145, 146, 147, 148, 127, 128, 129, 130, 131, 132, 133, 134, 135, 136, 137] (by decide +kernel) (by decide +kernel)
set_option maxRecDepth 20000 in
theorem gX4_gaps_X3_start : GoodIn wsX4_gaps (wsV RX4 138 RX3 yX3_start wsX3_start) := goodIn_app (goodIn_of _ (by decide +kernel)) ggX4_gaps_X3_start
set_option maxRecDepth 20000 in
theorem ggX4_gaps_X3_goOn : GoodIn wsX4_gaps wsX3_goOn := goodIn_r _ [87, 82, 88, 89, 90, 11, 91, 81, 17, 16, 79, 75, 92, 51, 52, 53, 93, 94, 95, 96, 97, 98, 99, 100, 101, 102, 77, 83, 19, 103, 41, 42, 43, 138, 139, 140, 141, 142, 143, 144, 145, 146, 147, 148] (by decide +kernel) (by decide +kernel)
set_option maxRecDepth 20000 in
theorem gX4_gaps_X3_goOn : GoodIn wsX4_gaps (wsV RX4 142 RX3 yX3_goOn wsX3_goOn) := goodIn_app (goodIn_of _ (by decide +kernel)) ggX4_gaps_X3_goOn
set_option maxRecDepth 20000 in
theorem ggX4_gaps_X3_firstArmAt : GoodIn wsX4_gaps wsX3_firstArmAt := goodIn_r _ [107, 83, 138, 139, 140, 141, 142, 143, 144, 145, 146, 147, 148] (by decide +kernel) (by decide +kernel)
set_option maxRecDepth 20000 in
theorem gX4_gaps_X3_firstArmAt : GoodIn wsX4_gaps (wsV RX4 214 RX3 yX3_firstArmAt wsX3_firstArmAt) := goodIn_app (goodIn_of _ (by decide +kernel)) ggX4_gaps_X3_firstArmAt
set_option maxRecDepth 20000 in
theorem ggX4_gaps_X3_secondArmAt : GoodIn wsX4_gaps wsX3_secondArmAt := goodIn_r _ [111, 14, 83, 68, 69, 11, 70, 138, 139, 140, 141, 142, 143, 144, 145, 146, 147, 148] (by decide +kernel) (by decide +kernel)
set_option maxRecDepth 20000 in
theorem gX4_gaps_X3_secondArmAt : GoodIn wsX4_gaps (wsV RX4 217 RX3 yX3_secondArmAt wsX3_secondArmAt) := goodIn_app (goodIn_of _ (by decide +kernel)) ggX4_gaps_X3_secondArmAt
set_option maxRecDepth 20000 in
theorem ggX4_gaps_X2_isCoveredAt : GoodIn wsX4_gaps wsX2_isCoveredAt := goodIn_r _ [115, 26, 27, 116, 117, 36, 37, 31, 38, 39, 40, 41, 42, 43, 44, 45, 46, 47, 48, 49, 50, 51, 52, 53, 127, 128, 129, 130, 131, 132, 133, 134, 135, 136, 137, 149, 150, 151, 152, 153] (by decide +kernel) (by decide +kernel)
set_option maxRecDepth 20000 in
theorem gX4_gaps_X2_isCoveredAt : GoodIn wsX4_gaps (wsV RX4 220 RX2 yX2_isCoveredAt wsX2_isCoveredAt) := goodIn_app (goodIn_of _ (by decide +kernel)) ggX4_gaps_X2_isCoveredAt
theorem dX4_gaps_0 : decode cX4_gaps 0 = .ok (.iload_n 1, 1) := by decide +kernel
theorem dX4_gaps_1 : decode cX4_gaps 1 = .ok (.iconst 0, 1) := by decide +kernel
theorem dX4_gaps_2 : decode cX4_gaps 2 = .ok (.sipush 200, 3) := by decide +kernel
theorem dX4_gaps_5 : decode cX4_gaps 5 = .ok (.invokestatic 52, 3) := by decide +kernel
theorem dX4_gaps_8 : decode cX4_gaps 8 = .ok (.ifCond .ne 6, 3) := by decide +kernel
theorem dX4_gaps_11 : decode cX4_gaps 11 = .ok (.bipush (-101), 2) := by decide +kernel
theorem dX4_gaps_13 : decode cX4_gaps 13 = .ok (.ireturn, 1) := by decide +kernel
theorem dX4_gaps_14 : decode cX4_gaps 14 = .ok (.aload_n 0, 1) := by decide +kernel
theorem dX4_gaps_15 : decode cX4_gaps 15 = .ok (.getfield 44, 3) := by decide +kernel
theorem dX4_gaps_18 : decode cX4_gaps 18 = .ok (.aload_n 0, 1) := by decide +kernel
theorem dX4_gaps_19 : decode cX4_gaps 19 = .ok (.getfield 10, 3) := by decide +kernel
theorem dX4_gaps_22 : decode cX4_gaps 22 = .ok (.invokevirtual 134, 3) := by decide +kernel
theorem dX4_gaps_25 : decode cX4_gaps 25 = .ok (.aload_n 0, 1) := by decide +kernel
theorem dX4_gaps_26 : decode cX4_gaps 26 = .ok (.getfield 44, 3) := by decide +kernel
theorem dX4_gaps_29 : decode cX4_gaps 29 = .ok (.aload_n 0, 1) := by decide +kernel
theorem dX4_gaps_30 : decode cX4_gaps 30 = .ok (.getfield 10, 3) := by decide +kernel
theorem dX4_gaps_33 : decode cX4_gaps 33 = .ok (.aload_n 0, 1) := by decide +kernel
theorem dX4_gaps_34 : decode cX4_gaps 34 = .ok (.getfield 10, 3) := by decide +kernel
theorem dX4_gaps_37 : decode cX4_gaps 37 = .ok (.getfield 128, 3) := by decide +kernel
theorem dX4_gaps_40 : decode cX4_gaps 40 = .ok (.iconst 0, 1) := by decide +kernel
theorem dX4_gaps_41 : decode cX4_gaps 41 = .ok (.iaload, 1) := by decide +kernel
theorem dX4_gaps_42 : decode cX4_gaps 42 = .ok (.invokevirtual 138, 3) := by decide +kernel
theorem dX4_gaps_45 : decode cX4_gaps 45 = .ok (.aload_n 0, 1) := by decide +kernel
theorem dX4_gaps_46 : decode cX4_gaps 46 = .ok (.getfield 44, 3) := by decide +kernel
theorem dX4_gaps_49 : decode cX4_gaps 49 = .ok (.iload_n 1, 1) := by decide +kernel
theorem dX4_gaps_50 : decode cX4_gaps 50 = .ok (.invokevirtual 142, 3) := by decide +kernel
theorem dX4_gaps_53 : decode cX4_gaps 53 = .ok (.iconst 0, 1) := by decide +kernel
theorem dX4_gaps_54 : decode cX4_gaps 54 = .ok (.istore_n 2, 1) := by decide +kernel
theorem dX4_gaps_55 : decode cX4_gaps 55 = .ok (.iconst 0, 1) := by decide +kernel
theorem dX4_gaps_56 : decode cX4_gaps 56 = .ok (.istore_n 3, 1) := by decide +kernel
theorem dX4_gaps_57 : decode cX4_gaps 57 = .ok (.iload_n 3, 1) := by decide +kernel
theorem dX4_gaps_58 : decode cX4_gaps 58 = .ok (.sipush 720, 3) := by decide +kernel
theorem dX4_gaps_61 : decode cX4_gaps 61 = .ok (.if_icmp .ge 57, 3) := by decide +kernel
theorem dX4_gaps_64 : decode cX4_gaps 64 = .ok (.aload_n 0, 1) := by decide +kernel
theorem dX4_gaps_65 : decode cX4_gaps 65 = .ok (.getfield 44, 3) := by decide +kernel
theorem dX4_gaps_68 : decode cX4_gaps 68 = .ok (.iload_n 3, 1) := by decide +kernel
theorem dX4_gaps_69 : decode cX4_gaps 69 = .ok (.invokevirtual 214, 3) := by decide +kernel
theorem dX4_gaps_72 : decode cX4_gaps 72 = .ok (.ifCond .gt 14, 3) := by decide +kernel
theorem dX4_gaps_75 : decode cX4_gaps 75 = .ok (.aload_n 0, 1) := by decide +kernel
theorem dX4_gaps_76 : decode cX4_gaps 76 = .ok (.getfield 44, 3) := by decide +kernel
theorem dX4_gaps_79 : decode cX4_gaps 79 = .ok (.iload_n 3, 1) := by decide +kernel
theorem dX4_gaps_80 : decode cX4_gaps 80 = .ok (.invokevirtual 217, 3) := by decide +kernel
theorem dX4_gaps_83 : decode cX4_gaps 83 = .ok (.ifCond .le 7, 3) := by decide +kernel
theorem dX4_gaps_86 : decode cX4_gaps 86 = .ok (.iconst 1, 1) := by decide +kernel
theorem dX4_gaps_87 : decode cX4_gaps 87 = .ok (.goto 4, 3) := by decide +kernel
theorem dX4_gaps_90 : decode cX4_gaps 90 = .ok (.iconst 0, 1) := by decide +kernel
theorem dX4_gaps_91 : decode cX4_gaps 91 = .ok (.istore 4, 2) := by decide +kernel
theorem dX4_gaps_93 : decode cX4_gaps 93 = .ok (.iload 4, 2) := by decide +kernel
theorem dX4_gaps_95 : decode cX4_gaps 95 = .ok (.ifCond .ne 17, 3) := by decide +kernel
theorem dX4_gaps_98 : decode cX4_gaps 98 = .ok (.aload_n 0, 1) := by decide +kernel
theorem dX4_gaps_99 : decode cX4_gaps 99 = .ok (.getfield 10, 3) := by decide +kernel
theorem dX4_gaps_102 : decode cX4_gaps 102 = .ok (.iload_n 3, 1) := by decide +kernel
theorem dX4_gaps_103 : decode cX4_gaps 103 = .ok (.invokevirtual 220, 3) := by decide +kernel
theorem dX4_gaps_106 : decode cX4_gaps 106 = .ok (.ifCond .eq 6, 3) := by decide +kernel
theorem dX4_gaps_109 : decode cX4_gaps 109 = .ok (.iinc 2 1, 3) := by decide +kernel
theorem dX4_gaps_112 : decode cX4_gaps 112 = .ok (.iinc 3 1, 3) := by decide +kernel
theorem dX4_gaps_115 : decode cX4_gaps 115 = .ok (.goto (-58), 3) := by decide +kernel
theorem dX4_gaps_118 : decode cX4_gaps 118 = .ok (.iload_n 2, 1) := by decide +kernel
theorem dX4_gaps_119 : decode cX4_gaps 119 = .ok (.ireturn, 1) := by decide +kernel
set_option maxRecDepth 20000 in
theorem ggX4_bestSpeed_X4_within : GoodIn wsX4_bestSpeed wsX4_within := goodIn_r _ [12] (by decide +kernel) (by decide +kernel)
set_option maxRecDepth 20000 in
theorem gX4_bestSpeed_X4_within : GoodIn wsX4_bestSpeed (va_wsS RX4 52 yX4_within wsX4_within) := goodIn_app (goodIn_of _ (by decide +kernel)) ggX4_bestSpeed_X4_within
set_option maxRecDepth 20000 in
theorem ggX4_bestSpeed_X3_prepare : GoodIn wsX4_bestSpeed wsX3_prepare := goodIn_r _ [17, 18, 19, 20, 21, 22, 23, 24, 25, 26, 27, 28, 29, 30, 31, 32, 33, 34, 35, 36, 37, 38, 39, 40, 41, 42, 43, 44, 45, 46, 47, 48, 49, 50, 51, 52, 53, 54, 55, 56, 57, 58, 59, 60, 61, 62, 63, 11, 64, 4, 65, 66, 67, 68, 69, 70, 71, 72, 73, 16, 74, 155, 156, 157, 158, 159, 160, 161, 162, 163, 164, 165, 144, 145, 146, 147, 148, 149, 150, 151, 152, 153, 154, 166, 167, 168, 169, 170] (by decide +kernel) (by decide +kernel)
set_option maxRecDepth 20000 in
theorem gX4_bestSpeed_X3_prepare : GoodIn wsX4_bestSpeed (wsV RX4 134 RX3 yX3_prepare wsX3_prepare) := goodIn_app (goodIn_of _ (by decide +kernel)) ggX4_bestSpeed_X3_prepare
set_option maxRecDepth 20000 in
theorem ggX4_bestSpeed_X2_litAt : GoodIn wsX4_bestSpeed wsX2_litAt := goodIn_r _ [78, 79, 80, 81, 82, 57, 83, 84, 85, 86, 155, 156, 157, 158, 159, 160, 161, 162, 163, 164, 165] (by decide +kernel) (by decide +kernel)
set_option maxRecDepth 20000 in
theorem gX4_bestSpeed_X2_litAt : GoodIn wsX4_bestSpeed (wsV RX4 179 RX2 yX2_litAt wsX2_litAt) := goodIn_app (goodIn_of _ (by decide +kernel)) ggX4_bestSpeed_X2_litAt
set_option maxRecDepth 20000 in
theorem ggX4_bestSpeed_X4_notDark : GoodIn wsX4_bestSpeed wsX4_notDark := goodIn_r _ [64, 4] (by decide +kernel) (by decide +kernel)
set_option maxRecDepth 20000 in
theorem gX4_bestSpeed_X4_notDark : GoodIn wsX4_bestSpeed (va_wsS RX4 195 yX4_notDark wsX4_notDark) := goodIn_app (goodIn_of _ (by decide +kernel)) ggX4_bestSpeed_X4_notDark
set_option maxRecDepth 20000 in
theorem ggX4_bestSpeed_X3_start : GoodIn wsX4_bestSpeed wsX3_start := goodIn_r _ [91, 92, 93, 94, 95, 96, 97, 98, 99, 100, 144, 145, 146, 147, 148, 149, 150, 151, 152, 153, 154, 155, 156, 157, 158, 159, 160, 161, 162, 163, 164, 165] (by decide +kernel) (by decide +kernel)
set_option maxRecDepth 20000 in
theorem gX4_bestSpeed_X3_start : GoodIn wsX4_bestSpeed (wsV RX4 138 RX3 yX3_start wsX3_start) := goodIn_app (goodIn_of _ (by decide +kernel)) ggX4_bestSpeed_X3_start
set_option maxRecDepth 20000 in
theorem ggX4_bestSpeed_X3_goOn : GoodIn wsX4_bestSpeed wsX3_goOn := goodIn_r _ [104, 99, 105, 106, 107, 16, 108, 98, 22, 21, 96, 92, 109, 56, 57, 58, 110, 82, 83, 111, 112, 113, 114, 115, 116, 117, 94, 100, 24, 118, 46, 47, 48, 144, 145, 146, 147, 148, 149, 150, 151, 152, 153, 154] (by decide +kernel) (by decide +kernel)
set_option maxRecDepth 20000 in
theorem gX4_bestSpeed_X3_goOn : GoodIn wsX4_bestSpeed (wsV RX4 142 RX3 yX3_goOn wsX3_goOn) := goodIn_app (goodIn_of _ (by decide +kernel)) ggX4_bestSpeed_X3_goOn
set_option maxRecDepth 20000 in
theorem ggX4_bestSpeed_X4_countRight : GoodIn wsX4_bestSpeed wsX4_countRight := goodIn_r _ [122, 2, 123, 124, 82, 57, 83, 1, 125, 3, 126, 127, 128, 16, 129, 100, 130, 131, 132, 133, 19, 72, 73, 74, 134, 66, 67, 68, 69, 70, 71, 135, 136, 137, 138, 139, 140, 141, 142, 143, 155, 156, 157, 158, 159, 160, 161, 162, 163, 164, 165, 144, 145, 146, 147, 148, 149, 150, 151, 152, 153, 154] (by decide +kernel) (by decide +kernel)
set_option maxRecDepth 20000 in
theorem gX4_bestSpeed_X4_countRight : GoodIn wsX4_bestSpeed (wsV RX4 228 RX4 yX4_countRight wsX4_countRight) := goodIn_app (goodIn_of _ (by decide +kernel)) ggX4_bestSpeed_X4_countRight
theorem dX4_bestSpeed_0 : decode cX4_bestSpeed 0 = .ok (.iload_n 1, 1) := by decide +kernel
theorem dX4_bestSpeed_1 : decode cX4_bestSpeed 1 = .ok (.iconst 1, 1) := by decide +kernel
theorem dX4_bestSpeed_2 : decode cX4_bestSpeed 2 = .ok (.bipush 40, 2) := by decide +kernel
theorem dX4_bestSpeed_4 : decode cX4_bestSpeed 4 = .ok (.invokestatic 52, 3) := by decide +kernel
theorem dX4_bestSpeed_7 : decode cX4_bestSpeed 7 = .ok (.ifCond .ne 6, 3) := by decide +kernel
theorem dX4_bestSpeed_10 : decode cX4_bestSpeed 10 = .ok (.bipush (-101), 2) := by decide +kernel
theorem dX4_bestSpeed_12 : decode cX4_bestSpeed 12 = .ok (.ireturn, 1) := by decide +kernel
theorem dX4_bestSpeed_13 : decode cX4_bestSpeed 13 = .ok (.aload_n 0, 1) := by decide +kernel
theorem dX4_bestSpeed_14 : decode cX4_bestSpeed 14 = .ok (.getfield 44, 3) := by decide +kernel
theorem dX4_bestSpeed_17 : decode cX4_bestSpeed 17 = .ok (.aload_n 0, 1) := by decide +kernel
theorem dX4_bestSpeed_18 : decode cX4_bestSpeed 18 = .ok (.getfield 10, 3) := by decide +kernel
theorem dX4_bestSpeed_21 : decode cX4_bestSpeed 21 = .ok (.invokevirtual 134, 3) := by decide +kernel
theorem dX4_bestSpeed_24 : decode cX4_bestSpeed 24 = .ok (.iconst 0, 1) := by decide +kernel
theorem dX4_bestSpeed_25 : decode cX4_bestSpeed 25 = .ok (.istore_n 2, 1) := by decide +kernel
theorem dX4_bestSpeed_26 : decode cX4_bestSpeed 26 = .ok (.iload_n 2, 1) := by decide +kernel
theorem dX4_bestSpeed_27 : decode cX4_bestSpeed 27 = .ok (.sipush 720, 3) := by decide +kernel
theorem dX4_bestSpeed_30 : decode cX4_bestSpeed 30 = .ok (.if_icmp .ge 45, 3) := by decide +kernel
theorem dX4_bestSpeed_33 : decode cX4_bestSpeed 33 = .ok (.aload_n 0, 1) := by decide +kernel
theorem dX4_bestSpeed_34 : decode cX4_bestSpeed 34 = .ok (.getfield 48, 3) := by decide +kernel
theorem dX4_bestSpeed_37 : decode cX4_bestSpeed 37 = .ok (.iload_n 2, 1) := by decide +kernel
theorem dX4_bestSpeed_38 : decode cX4_bestSpeed 38 = .ok (.ldc2_w 223, 3) := by decide +kernel
theorem dX4_bestSpeed_41 : decode cX4_bestSpeed 41 = .ok (.aload_n 0, 1) := by decide +kernel
theorem dX4_bestSpeed_42 : decode cX4_bestSpeed 42 = .ok (.getfield 10, 3) := by decide +kernel
theorem dX4_bestSpeed_45 : decode cX4_bestSpeed 45 = .ok (.iload_n 2, 1) := by decide +kernel
theorem dX4_bestSpeed_46 : decode cX4_bestSpeed 46 = .ok (.iload_n 1, 1) := by decide +kernel
theorem dX4_bestSpeed_47 : decode cX4_bestSpeed 47 = .ok (.invokevirtual 179, 3) := by decide +kernel
theorem dX4_bestSpeed_50 : decode cX4_bestSpeed 50 = .ok (.aload_n 0, 1) := by decide +kernel
theorem dX4_bestSpeed_51 : decode cX4_bestSpeed 51 = .ok (.getfield 44, 3) := by decide +kernel
theorem dX4_bestSpeed_54 : decode cX4_bestSpeed 54 = .ok (.getfield 225, 3) := by decide +kernel
theorem dX4_bestSpeed_57 : decode cX4_bestSpeed 57 = .ok (.iload_n 2, 1) := by decide +kernel
theorem dX4_bestSpeed_58 : decode cX4_bestSpeed 58 = .ok (.laload, 1) := by decide +kernel
theorem dX4_bestSpeed_59 : decode cX4_bestSpeed 59 = .ok (.lxor, 1) := by decide +kernel
theorem dX4_bestSpeed_60 : decode cX4_bestSpeed 60 = .ok (.invokestatic 195, 3) := by decide +kernel
theorem dX4_bestSpeed_63 : decode cX4_bestSpeed 63 = .ok (.ldc2_w 119, 3) := by decide +kernel
theorem dX4_bestSpeed_66 : decode cX4_bestSpeed 66 = .ok (.lxor, 1) := by decide +kernel
theorem dX4_bestSpeed_67 : decode cX4_bestSpeed 67 = .ok (.land, 1) := by decide +kernel
theorem dX4_bestSpeed_68 : decode cX4_bestSpeed 68 = .ok (.lastore, 1) := by decide +kernel
theorem dX4_bestSpeed_69 : decode cX4_bestSpeed 69 = .ok (.iinc 2 1, 3) := by decide +kernel
theorem dX4_bestSpeed_72 : decode cX4_bestSpeed 72 = .ok (.goto (-46), 3) := by decide +kernel
theorem dX4_bestSpeed_75 : decode cX4_bestSpeed 75 = .ok (.getstatic 121, 3) := by decide +kernel
theorem dX4_bestSpeed_78 : decode cX4_bestSpeed 78 = .ok (.iconst 0, 1) := by decide +kernel
theorem dX4_bestSpeed_79 : decode cX4_bestSpeed 79 = .ok (.iaload, 1) := by decide +kernel
theorem dX4_bestSpeed_80 : decode cX4_bestSpeed 80 = .ok (.istore_n 2, 1) := by decide +kernel
theorem dX4_bestSpeed_81 : decode cX4_bestSpeed 81 = .ok (.iconst (-1), 1) := by decide +kernel
theorem dX4_bestSpeed_82 : decode cX4_bestSpeed 82 = .ok (.istore_n 3, 1) := by decide +kernel
theorem dX4_bestSpeed_83 : decode cX4_bestSpeed 83 = .ok (.getstatic 121, 3) := by decide +kernel
theorem dX4_bestSpeed_86 : decode cX4_bestSpeed 86 = .ok (.iconst 0, 1) := by decide +kernel
theorem dX4_bestSpeed_87 : decode cX4_bestSpeed 87 = .ok (.iaload, 1) := by decide +kernel
theorem dX4_bestSpeed_88 : decode cX4_bestSpeed 88 = .ok (.istore 4, 2) := by decide +kernel
theorem dX4_bestSpeed_90 : decode cX4_bestSpeed 90 = .ok (.iload 4, 2) := by decide +kernel
theorem dX4_bestSpeed_92 : decode cX4_bestSpeed 92 = .ok (.getstatic 125, 3) := by decide +kernel
theorem dX4_bestSpeed_95 : decode cX4_bestSpeed 95 = .ok (.iconst 0, 1) := by decide +kernel
theorem dX4_bestSpeed_96 : decode cX4_bestSpeed 96 = .ok (.iaload, 1) := by decide +kernel
theorem dX4_bestSpeed_97 : decode cX4_bestSpeed 97 = .ok (.if_icmp .gt 49, 3) := by decide +kernel
theorem dX4_bestSpeed_100 : decode cX4_bestSpeed 100 = .ok (.aload_n 0, 1) := by decide +kernel
theorem dX4_bestSpeed_101 : decode cX4_bestSpeed 101 = .ok (.getfield 44, 3) := by decide +kernel
theorem dX4_bestSpeed_104 : decode cX4_bestSpeed 104 = .ok (.aload_n 0, 1) := by decide +kernel
theorem dX4_bestSpeed_105 : decode cX4_bestSpeed 105 = .ok (.getfield 10, 3) := by decide +kernel
theorem dX4_bestSpeed_108 : decode cX4_bestSpeed 108 = .ok (.iload 4, 2) := by decide +kernel
theorem dX4_bestSpeed_110 : decode cX4_bestSpeed 110 = .ok (.invokevirtual 138, 3) := by decide +kernel
theorem dX4_bestSpeed_113 : decode cX4_bestSpeed 113 = .ok (.aload_n 0, 1) := by decide +kernel
theorem dX4_bestSpeed_114 : decode cX4_bestSpeed 114 = .ok (.getfield 44, 3) := by decide +kernel
theorem dX4_bestSpeed_117 : decode cX4_bestSpeed 117 = .ok (.iload_n 1, 1) := by decide +kernel
theorem dX4_bestSpeed_118 : decode cX4_bestSpeed 118 = .ok (.invokevirtual 142, 3) := by decide +kernel
theorem dX4_bestSpeed_121 : decode cX4_bestSpeed 121 = .ok (.aload_n 0, 1) := by decide +kernel
theorem dX4_bestSpeed_122 : decode cX4_bestSpeed 122 = .ok (.iload_n 1, 1) := by decide +kernel
theorem dX4_bestSpeed_123 : decode cX4_bestSpeed 123 = .ok (.invokevirtual 228, 3) := by decide +kernel
theorem dX4_bestSpeed_126 : decode cX4_bestSpeed 126 = .ok (.istore 5, 2) := by decide +kernel
theorem dX4_bestSpeed_128 : decode cX4_bestSpeed 128 = .ok (.iload 5, 2) := by decide +kernel
theorem dX4_bestSpeed_130 : decode cX4_bestSpeed 130 = .ok (.iload_n 3, 1) := by decide +kernel
theorem dX4_bestSpeed_131 : decode cX4_bestSpeed 131 = .ok (.if_icmp .le 9, 3) := by decide +kernel
theorem dX4_bestSpeed_134 : decode cX4_bestSpeed 134 = .ok (.iload 5, 2) := by decide +kernel
theorem dX4_bestSpeed_136 : decode cX4_bestSpeed 136 = .ok (.istore_n 3, 1) := by decide +kernel
theorem dX4_bestSpeed_137 : decode cX4_bestSpeed 137 = .ok (.iload 4, 2) := by decide +kernel
theorem dX4_bestSpeed_139 : decode cX4_bestSpeed 139 = .ok (.istore_n 2, 1) := by decide +kernel
theorem dX4_bestSpeed_140 : decode cX4_bestSpeed 140 = .ok (.iinc 4 10, 3) := by decide +kernel
theorem dX4_bestSpeed_143 : decode cX4_bestSpeed 143 = .ok (.goto (-53), 3) := by decide +kernel
theorem dX4_bestSpeed_146 : decode cX4_bestSpeed 146 = .ok (.iload_n 2, 1) := by decide +kernel
theorem dX4_bestSpeed_147 : decode cX4_bestSpeed 147 = .ok (.ireturn, 1) := by decide +kernel
set_option maxRecDepth 20000 in
theorem ggX4_meetings_X2_pictureNumbered : GoodIn wsX4_meetings wsX2_pictureNumbered := goodIn_r _ [6, 7, 8, 9, 10, 11, 62, 63, 64, 65, 66, 67, 68, 69, 70, 71, 72] (by decide +kernel) (by decide +kernel)
set_option maxRecDepth 20000 in
theorem gX4_meetings_X2_pictureNumbered : GoodIn wsX4_meetings (wsV RX4 71 RX2 yX2_pictureNumbered wsX2_pictureNumbered) := goodIn_app (goodIn_of _ (by decide +kernel)) ggX4_meetings_X2_pictureNumbered
set_option maxRecDepth 20000 in
theorem ggX4_meetings_X0_wantedAt : GoodIn wsX4_meetings wsX0_wantedAt := goodIn_r _ [16, 17, 18, 19, 20, 21, 15, 22, 23, 24, 25, 26, 27, 28, 29, 30, 31, 32, 33, 34, 35, 36, 37, 38, 39, 40, 41, 73, 74, 75, 76, 77] (by decide +kernel) (by decide +kernel)
set_option maxRecDepth 20000 in
theorem gX4_meetings_X0_wantedAt : GoodIn wsX4_meetings (wsV RX4 231 RX0 yX0_wantedAt wsX0_wantedAt) := goodIn_app (goodIn_of _ (by decide +kernel)) ggX4_meetings_X0_wantedAt

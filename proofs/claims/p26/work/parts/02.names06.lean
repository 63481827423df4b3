theorem dL_places_165 : decode cL_places 165 = .ok (.if_icmp .ne 59, 3) := by decide +kernel
theorem dL_places_168 : decode cL_places 168 = .ok (.iload 6, 2) := by decide +kernel
theorem dL_places_170 : decode cL_places 170 = .ok (.ifCond .lt 54, 3) := by decide +kernel
theorem dL_places_173 : decode cL_places 173 = .ok (.iload 6, 2) := by decide +kernel
theorem dL_places_175 : decode cL_places 175 = .ok (.bipush 7, 2) := by decide +kernel
theorem dL_places_177 : decode cL_places 177 = .ok (.if_icmp .gt 47, 3) := by decide +kernel
theorem dL_places_180 : decode cL_places 180 = .ok (.iload 7, 2) := by decide +kernel
theorem dL_places_182 : decode cL_places 182 = .ok (.bipush (-109), 2) := by decide +kernel
theorem dL_places_184 : decode cL_places 184 = .ok (.if_icmp .eq 18, 3) := by decide +kernel
theorem dL_places_187 : decode cL_places 187 = .ok (.iload 7, 2) := by decide +kernel
theorem dL_places_189 : decode cL_places 189 = .ok (.ifCond .lt 35, 3) := by decide +kernel
theorem dL_places_192 : decode cL_places 192 = .ok (.iload 7, 2) := by decide +kernel
theorem dL_places_194 : decode cL_places 194 = .ok (.aload_n 0, 1) := by decide +kernel
theorem dL_places_195 : decode cL_places 195 = .ok (.iconst 3, 1) := by decide +kernel
theorem dL_places_196 : decode cL_places 196 = .ok (.invokevirtual 15, 3) := by decide +kernel
theorem dL_places_199 : decode cL_places 199 = .ok (.if_icmp .ge 25, 3) := by decide +kernel
theorem dL_places_202 : decode cL_places 202 = .ok (.iload 6, 2) := by decide +kernel
theorem dL_places_204 : decode cL_places 204 = .ok (.ifCond .le 22, 3) := by decide +kernel
theorem dL_places_207 : decode cL_places 207 = .ok (.iload 7, 2) := by decide +kernel
theorem dL_places_209 : decode cL_places 209 = .ok (.bipush (-109), 2) := by decide +kernel
theorem dL_places_211 : decode cL_places 211 = .ok (.if_icmp .eq 13, 3) := by decide +kernel
theorem dL_places_214 : decode cL_places 214 = .ok (.iload 7, 2) := by decide +kernel
theorem dL_places_216 : decode cL_places 216 = .ok (.aload_n 0, 1) := by decide +kernel
theorem dL_places_217 : decode cL_places 217 = .ok (.iconst 3, 1) := by decide +kernel
theorem dL_places_218 : decode cL_places 218 = .ok (.invokevirtual 34, 3) := by decide +kernel
theorem dL_places_221 : decode cL_places 221 = .ok (.if_icmp .lt 5, 3) := by decide +kernel
theorem dL_places_224 : decode cL_places 224 = .ok (.iconst 0, 1) := by decide +kernel
theorem dL_places_225 : decode cL_places 225 = .ok (.ireturn, 1) := by decide +kernel
theorem dL_places_226 : decode cL_places 226 = .ok (.iinc 2 1, 3) := by decide +kernel
theorem dL_places_229 : decode cL_places 229 = .ok (.goto (-227), 3) := by decide +kernel
theorem dL_places_232 : decode cL_places 232 = .ok (.iconst 1, 1) := by decide +kernel
theorem dL_places_233 : decode cL_places 233 = .ok (.ireturn, 1) := by decide +kernel
set_option maxRecDepth 20000 in
theorem ggL_pictures_X4_count : GoodIn wsL_pictures wsX4_count := goodIn_r _ [5, 6, 7, 8, 9, 10, 11, 12, 13, 14, 15, 16, 17, 4, 18, 19, 20, 21, 22, 23, 24, 25, 26, 27, 28, 29, 30, 31, 32, 33, 34, 35, 36, 37, 38, 39, 40, 41, 42, 43, 44, 45, 46, 47, 48, 49, 50, 51, 52, 53, 54, 55, 56, 57, 58, 59, 60, 61, 62, 63, 64, 65, 66, 67, 68, 69, 70, 71, 72, 73, 74, 75, 76, 77, 78, 79, 80, 81, 82, 184, 185, 186, 187, 188, 189, 190, 191, 192, 193, 194, 195, 196, 197, 198, 199, 200, 201, 202, 203, 204, 205, 206, 207, 208] (by decide +kernel) (by decide +kernel)
set_option maxRecDepth 20000 in
theorem gL_pictures_X4_count : GoodIn wsL_pictures (wsV RL 15 RX4 yX4_count wsX4_count) := goodIn_app (goodIn_of _ (by decide +kernel)) ggL_pictures_X4_count
set_option maxRecDepth 20000 in
theorem ggL_pictures_X4_picture : GoodIn wsL_pictures wsX4_picture := goodIn_r _ [86, 6, 87, 88, 89, 90, 91, 92, 93, 22, 94, 52, 53, 95, 4, 96, 97, 98, 99, 57, 100, 74, 60, 34, 35, 36, 101, 38, 39, 40, 41, 42, 43, 102, 71, 72, 73, 75, 76, 77, 28, 78, 184, 185, 186, 187, 188, 189, 190, 191, 192, 204, 205, 206, 207, 208, 193, 194, 195, 196, 197, 198, 199, 200, 201, 202, 203] (by decide +kernel) (by decide +kernel)
set_option maxRecDepth 20000 in
theorem gL_pictures_X4_picture : GoodIn wsL_pictures (wsV RL 24 RX4 yX4_picture wsX4_picture) := goodIn_app (goodIn_of _ (by decide +kernel)) ggL_pictures_X4_picture
set_option maxRecDepth 20000 in
theorem ggL_pictures_X4_columnAt : GoodIn wsL_pictures wsX4_columnAt := goodIn_r _ [106, 6, 91, 92, 93, 22, 94, 52, 53, 95, 4, 96, 107, 108, 62, 63, 57, 64, 65, 66, 67, 68, 69, 70, 71, 72, 73, 74, 75, 76, 77, 28, 78, 109, 80, 81, 82, 59, 184, 185, 186, 187, 188, 189, 190, 191, 192, 193, 194, 195, 196, 197, 198, 199, 200, 201, 202, 203, 204, 205, 206, 207, 208] (by decide +kernel) (by decide +kernel)
set_option maxRecDepth 20000 in
theorem gL_pictures_X4_columnAt : GoodIn wsL_pictures (wsV RL 21 RX4 yX4_columnAt wsX4_columnAt) := goodIn_app (goodIn_of _ (by decide +kernel)) ggL_pictures_X4_columnAt
set_option maxRecDepth 20000 in
theorem ggL_pictures_X4_meetings : GoodIn wsL_pictures wsX4_meetings := goodIn_r _ [113, 6, 91, 92, 93, 22, 94, 52, 53, 95, 4, 96, 114, 55, 56, 57, 58, 59, 60, 61, 62, 63, 64, 65, 66, 67, 68, 69, 70, 71, 72, 73, 74, 75, 76, 77, 28, 78, 79, 80, 81, 82, 33, 34, 35, 36, 37, 38, 39, 40, 41, 42, 43, 184, 185, 186, 187, 188, 189, 190, 191, 192, 193, 194, 195, 196, 197, 198, 199, 200, 201, 202, 203, 204, 205, 206, 207, 208] (by decide +kernel) (by decide +kernel)
set_option maxRecDepth 20000 in
theorem gL_pictures_X4_meetings : GoodIn wsL_pictures (wsV RL 37 RX4 yX4_meetings wsX4_meetings) := goodIn_app (goodIn_of _ (by decide +kernel)) ggL_pictures_X4_meetings
set_option maxRecDepth 20000 in
theorem ggL_pictures_X4_gaps : GoodIn wsL_pictures wsX4_gaps := goodIn_r _ [118, 119, 6, 120, 107, 95, 4, 96, 121, 122, 123, 124, 125, 126, 127, 128, 129, 130, 131, 132, 133, 134, 49, 50, 22, 51, 52, 53, 54, 55, 56, 57, 58, 59, 60, 61, 62, 63, 64, 65, 66, 67, 68, 69, 70, 71, 72, 73, 74, 75, 76, 77, 28, 78, 79, 80, 81, 82, 34, 35, 36, 135, 38, 39, 40, 41, 42, 43, 136, 137, 138, 139, 140, 141, 142, 143, 144, 145, 146, 147, 148, 149, 150, 151, 152, 153, 154, 155, 156, 157, 158, 159, 160, 161, 27, 29, 162, 163, 164, 165, 166, 167, 168, 169, 170, 171, 172, 173, 174, 175, 176, 177, 178, 179, 180, 181, 182, 183, 184, 185, 186, 187, 188, 189, 190, 191, 192, 193, 194, 195, 196, 197, 198, 199, 200, 201, 202, 203, 209, 210, 211, 212, 213, 214, 215, 216, 217, 218, 219, 204, 205, 206, 207, 208] (by decide +kernel) (by decide +kernel)
set_option maxRecDepth 20000 in
theorem gL_pictures_X4_gaps : GoodIn wsL_pictures (wsV RL 40 RX4 yX4_gaps wsX4_gaps) := goodIn_app (goodIn_of _ (by decide +kernel)) ggL_pictures_X4_gaps
theorem dL_pictures_0 : decode cL_pictures 0 = .ok (.aload_n 0, 1) := by decide +kernel
theorem dL_pictures_1 : decode cL_pictures 1 = .ok (.iconst 0, 1) := by decide +kernel
theorem dL_pictures_2 : decode cL_pictures 2 = .ok (.invokevirtual 15, 3) := by decide +kernel
theorem dL_pictures_5 : decode cL_pictures 5 = .ok (.istore_n 1, 1) := by decide +kernel
theorem dL_pictures_6 : decode cL_pictures 6 = .ok (.iconst 0, 1) := by decide +kernel
theorem dL_pictures_7 : decode cL_pictures 7 = .ok (.istore_n 2, 1) := by decide +kernel
theorem dL_pictures_8 : decode cL_pictures 8 = .ok (.iconst 0, 1) := by decide +kernel
theorem dL_pictures_9 : decode cL_pictures 9 = .ok (.istore_n 3, 1) := by decide +kernel
theorem dL_pictures_10 : decode cL_pictures 10 = .ok (.iload_n 3, 1) := by decide +kernel
theorem dL_pictures_11 : decode cL_pictures 11 = .ok (.sipush 720, 3) := by decide +kernel
theorem dL_pictures_14 : decode cL_pictures 14 = .ok (.if_icmp .ge 75, 3) := by decide +kernel
theorem dL_pictures_17 : decode cL_pictures 17 = .ok (.iconst 0, 1) := by decide +kernel
theorem dL_pictures_18 : decode cL_pictures 18 = .ok (.istore 4, 2) := by decide +kernel
theorem dL_pictures_20 : decode cL_pictures 20 = .ok (.iconst 0, 1) := by decide +kernel
theorem dL_pictures_21 : decode cL_pictures 21 = .ok (.istore 5, 2) := by decide +kernel
theorem dL_pictures_23 : decode cL_pictures 23 = .ok (.iload 5, 2) := by decide +kernel
theorem dL_pictures_25 : decode cL_pictures 25 = .ok (.iload_n 1, 1) := by decide +kernel
theorem dL_pictures_26 : decode cL_pictures 26 = .ok (.if_icmp .ge 44, 3) := by decide +kernel
theorem dL_pictures_29 : decode cL_pictures 29 = .ok (.iload 4, 2) := by decide +kernel
theorem dL_pictures_31 : decode cL_pictures 31 = .ok (.ifCond .ne 26, 3) := by decide +kernel
theorem dL_pictures_34 : decode cL_pictures 34 = .ok (.aload_n 0, 1) := by decide +kernel
theorem dL_pictures_35 : decode cL_pictures 35 = .ok (.iload 5, 2) := by decide +kernel
theorem dL_pictures_37 : decode cL_pictures 37 = .ok (.iconst 3, 1) := by decide +kernel
theorem dL_pictures_38 : decode cL_pictures 38 = .ok (.invokevirtual 24, 3) := by decide +kernel
theorem dL_pictures_41 : decode cL_pictures 41 = .ok (.iconst 2, 1) := by decide +kernel
theorem dL_pictures_42 : decode cL_pictures 42 = .ok (.if_icmp .eq 19, 3) := by decide +kernel
theorem dL_pictures_45 : decode cL_pictures 45 = .ok (.aload_n 0, 1) := by decide +kernel
theorem dL_pictures_46 : decode cL_pictures 46 = .ok (.iload 5, 2) := by decide +kernel
theorem dL_pictures_48 : decode cL_pictures 48 = .ok (.iload_n 3, 1) := by decide +kernel
theorem dL_pictures_49 : decode cL_pictures 49 = .ok (.invokevirtual 21, 3) := by decide +kernel
theorem dL_pictures_52 : decode cL_pictures 52 = .ok (.bipush (-109), 2) := by decide +kernel
theorem dL_pictures_54 : decode cL_pictures 54 = .ok (.if_icmp .eq 7, 3) := by decide +kernel
theorem dL_pictures_57 : decode cL_pictures 57 = .ok (.iconst 1, 1) := by decide +kernel
theorem dL_pictures_58 : decode cL_pictures 58 = .ok (.goto 4, 3) := by decide +kernel
theorem dL_pictures_61 : decode cL_pictures 61 = .ok (.iconst 0, 1) := by decide +kernel
theorem dL_pictures_62 : decode cL_pictures 62 = .ok (.istore 4, 2) := by decide +kernel
theorem dL_pictures_64 : decode cL_pictures 64 = .ok (.iinc 5 1, 3) := by decide +kernel
theorem dL_pictures_67 : decode cL_pictures 67 = .ok (.goto (-44), 3) := by decide +kernel
theorem dL_pictures_70 : decode cL_pictures 70 = .ok (.iload_n 2, 1) := by decide +kernel
theorem dL_pictures_71 : decode cL_pictures 71 = .ok (.iload 4, 2) := by decide +kernel
theorem dL_pictures_73 : decode cL_pictures 73 = .ok (.ifCond .eq 7, 3) := by decide +kernel
theorem dL_pictures_76 : decode cL_pictures 76 = .ok (.iconst 1, 1) := by decide +kernel
theorem dL_pictures_77 : decode cL_pictures 77 = .ok (.goto 4, 3) := by decide +kernel
theorem dL_pictures_80 : decode cL_pictures 80 = .ok (.iconst 0, 1) := by decide +kernel
theorem dL_pictures_81 : decode cL_pictures 81 = .ok (.iadd, 1) := by decide +kernel
theorem dL_pictures_82 : decode cL_pictures 82 = .ok (.istore_n 2, 1) := by decide +kernel
theorem dL_pictures_83 : decode cL_pictures 83 = .ok (.iinc 3 1, 3) := by decide +kernel
theorem dL_pictures_86 : decode cL_pictures 86 = .ok (.goto (-76), 3) := by decide +kernel
theorem dL_pictures_89 : decode cL_pictures 89 = .ok (.iconst 0, 1) := by decide +kernel
theorem dL_pictures_90 : decode cL_pictures 90 = .ok (.istore_n 3, 1) := by decide +kernel
theorem dL_pictures_91 : decode cL_pictures 91 = .ok (.iload_n 3, 1) := by decide +kernel
theorem dL_pictures_92 : decode cL_pictures 92 = .ok (.iload_n 1, 1) := by decide +kernel
theorem dL_pictures_93 : decode cL_pictures 93 = .ok (.if_icmp .ge 249, 3) := by decide +kernel
theorem dL_pictures_96 : decode cL_pictures 96 = .ok (.iconst 0, 1) := by decide +kernel
theorem dL_pictures_97 : decode cL_pictures 97 = .ok (.istore 4, 2) := by decide +kernel
theorem dL_pictures_99 : decode cL_pictures 99 = .ok (.aload_n 0, 1) := by decide +kernel
theorem dL_pictures_100 : decode cL_pictures 100 = .ok (.iload_n 3, 1) := by decide +kernel
theorem dL_pictures_101 : decode cL_pictures 101 = .ok (.iconst 0, 1) := by decide +kernel
theorem dL_pictures_102 : decode cL_pictures 102 = .ok (.invokevirtual 24, 3) := by decide +kernel
theorem dL_pictures_105 : decode cL_pictures 105 = .ok (.istore 5, 2) := by decide +kernel
theorem dL_pictures_107 : decode cL_pictures 107 = .ok (.iconst 0, 1) := by decide +kernel
theorem dL_pictures_108 : decode cL_pictures 108 = .ok (.istore 6, 2) := by decide +kernel
theorem dL_pictures_110 : decode cL_pictures 110 = .ok (.iload 6, 2) := by decide +kernel
theorem dL_pictures_112 : decode cL_pictures 112 = .ok (.sipush 720, 3) := by decide +kernel
theorem dL_pictures_115 : decode cL_pictures 115 = .ok (.if_icmp .ge 56, 3) := by decide +kernel
theorem dL_pictures_118 : decode cL_pictures 118 = .ok (.aload_n 0, 1) := by decide +kernel
theorem dL_pictures_119 : decode cL_pictures 119 = .ok (.iload_n 3, 1) := by decide +kernel
theorem dL_pictures_120 : decode cL_pictures 120 = .ok (.iload 6, 2) := by decide +kernel
theorem dL_pictures_122 : decode cL_pictures 122 = .ok (.invokevirtual 21, 3) := by decide +kernel
theorem dL_pictures_125 : decode cL_pictures 125 = .ok (.istore 7, 2) := by decide +kernel
theorem dL_pictures_127 : decode cL_pictures 127 = .ok (.iload 4, 2) := by decide +kernel
theorem dL_pictures_129 : decode cL_pictures 129 = .ok (.iload 7, 2) := by decide +kernel
theorem dL_pictures_131 : decode cL_pictures 131 = .ok (.bipush (-109), 2) := by decide +kernel
theorem dL_pictures_133 : decode cL_pictures 133 = .ok (.if_icmp .ne 7, 3) := by decide +kernel
theorem dL_pictures_136 : decode cL_pictures 136 = .ok (.iconst 0, 1) := by decide +kernel
theorem dL_pictures_137 : decode cL_pictures 137 = .ok (.goto 4, 3) := by decide +kernel
theorem dL_pictures_140 : decode cL_pictures 140 = .ok (.iconst 1, 1) := by decide +kernel
theorem dL_pictures_141 : decode cL_pictures 141 = .ok (.iadd, 1) := by decide +kernel
theorem dL_pictures_142 : decode cL_pictures 142 = .ok (.istore 4, 2) := by decide +kernel
theorem dL_pictures_144 : decode cL_pictures 144 = .ok (.iload 7, 2) := by decide +kernel
theorem dL_pictures_146 : decode cL_pictures 146 = .ok (.bipush (-109), 2) := by decide +kernel
theorem dL_pictures_148 : decode cL_pictures 148 = .ok (.if_icmp .eq 17, 3) := by decide +kernel
theorem dL_pictures_151 : decode cL_pictures 151 = .ok (.iload 7, 2) := by decide +kernel
theorem dL_pictures_153 : decode cL_pictures 153 = .ok (.ifCond .lt 10, 3) := by decide +kernel
theorem dL_pictures_156 : decode cL_pictures 156 = .ok (.iload 7, 2) := by decide +kernel
theorem dL_pictures_158 : decode cL_pictures 158 = .ok (.iload 5, 2) := by decide +kernel
theorem dL_pictures_160 : decode cL_pictures 160 = .ok (.if_icmp .lt 5, 3) := by decide +kernel
theorem dL_pictures_163 : decode cL_pictures 163 = .ok (.iconst 0, 1) := by decide +kernel
theorem dL_pictures_164 : decode cL_pictures 164 = .ok (.ireturn, 1) := by decide +kernel
theorem dL_pictures_165 : decode cL_pictures 165 = .ok (.iinc 6 1, 3) := by decide +kernel
theorem dL_pictures_168 : decode cL_pictures 168 = .ok (.goto (-58), 3) := by decide +kernel
theorem dL_pictures_171 : decode cL_pictures 171 = .ok (.aload_n 0, 1) := by decide +kernel
theorem dL_pictures_172 : decode cL_pictures 172 = .ok (.iload_n 3, 1) := by decide +kernel
theorem dL_pictures_173 : decode cL_pictures 173 = .ok (.aload_n 0, 1) := by decide +kernel
theorem dL_pictures_174 : decode cL_pictures 174 = .ok (.iload_n 3, 1) := by decide +kernel
theorem dL_pictures_175 : decode cL_pictures 175 = .ok (.iconst 1, 1) := by decide +kernel
theorem dL_pictures_176 : decode cL_pictures 176 = .ok (.invokevirtual 24, 3) := by decide +kernel
theorem dL_pictures_179 : decode cL_pictures 179 = .ok (.invokevirtual 21, 3) := by decide +kernel
theorem dL_pictures_182 : decode cL_pictures 182 = .ok (.istore 6, 2) := by decide +kernel
theorem dL_pictures_184 : decode cL_pictures 184 = .ok (.iload 4, 2) := by decide +kernel
theorem dL_pictures_186 : decode cL_pictures 186 = .ok (.aload_n 0, 1) := by decide +kernel
theorem dL_pictures_187 : decode cL_pictures 187 = .ok (.iload_n 3, 1) := by decide +kernel
theorem dL_pictures_188 : decode cL_pictures 188 = .ok (.iconst 5, 1) := by decide +kernel
theorem dL_pictures_189 : decode cL_pictures 189 = .ok (.invokevirtual 24, 3) := by decide +kernel
theorem dL_pictures_192 : decode cL_pictures 192 = .ok (.if_icmp .ne 49, 3) := by decide +kernel
theorem dL_pictures_195 : decode cL_pictures 195 = .ok (.iload 6, 2) := by decide +kernel
theorem dL_pictures_197 : decode cL_pictures 197 = .ok (.aload_n 0, 1) := by decide +kernel
theorem dL_pictures_198 : decode cL_pictures 198 = .ok (.iload_n 3, 1) := by decide +kernel
theorem dL_pictures_199 : decode cL_pictures 199 = .ok (.iconst 3, 1) := by decide +kernel
theorem dL_pictures_200 : decode cL_pictures 200 = .ok (.invokevirtual 24, 3) := by decide +kernel
theorem dL_pictures_203 : decode cL_pictures 203 = .ok (.iconst 1, 1) := by decide +kernel
theorem dL_pictures_204 : decode cL_pictures 204 = .ok (.if_icmp .ne 10, 3) := by decide +kernel
theorem dL_pictures_207 : decode cL_pictures 207 = .ok (.iload 5, 2) := by decide +kernel
theorem dL_pictures_209 : decode cL_pictures 209 = .ok (.iconst 1, 1) := by decide +kernel
theorem dL_pictures_210 : decode cL_pictures 210 = .ok (.isub, 1) := by decide +kernel
theorem dL_pictures_211 : decode cL_pictures 211 = .ok (.goto 4, 3) := by decide +kernel
theorem dL_pictures_214 : decode cL_pictures 214 = .ok (.iconst 0, 1) := by decide +kernel
theorem dL_pictures_215 : decode cL_pictures 215 = .ok (.if_icmp .ne 26, 3) := by decide +kernel
theorem dL_pictures_218 : decode cL_pictures 218 = .ok (.aload_n 0, 1) := by decide +kernel
theorem dL_pictures_219 : decode cL_pictures 219 = .ok (.iload_n 3, 1) := by decide +kernel
theorem dL_pictures_220 : decode cL_pictures 220 = .ok (.iconst 4, 1) := by decide +kernel
theorem dL_pictures_221 : decode cL_pictures 221 = .ok (.invokevirtual 24, 3) := by decide +kernel
theorem dL_pictures_224 : decode cL_pictures 224 = .ok (.ifCond .lt 17, 3) := by decide +kernel
theorem dL_pictures_227 : decode cL_pictures 227 = .ok (.aload_n 0, 1) := by decide +kernel
theorem dL_pictures_228 : decode cL_pictures 228 = .ok (.iload_n 3, 1) := by decide +kernel
theorem dL_pictures_229 : decode cL_pictures 229 = .ok (.iconst 4, 1) := by decide +kernel
theorem dL_pictures_230 : decode cL_pictures 230 = .ok (.invokevirtual 24, 3) := by decide +kernel
theorem dL_pictures_233 : decode cL_pictures 233 = .ok (.bipush 12, 2) := by decide +kernel
theorem dL_pictures_235 : decode cL_pictures 235 = .ok (.iload 5, 2) := by decide +kernel
theorem dL_pictures_237 : decode cL_pictures 237 = .ok (.imul, 1) := by decide +kernel
theorem dL_pictures_238 : decode cL_pictures 238 = .ok (.if_icmp .le 5, 3) := by decide +kernel
theorem dL_pictures_241 : decode cL_pictures 241 = .ok (.iconst 0, 1) := by decide +kernel
theorem dL_pictures_242 : decode cL_pictures 242 = .ok (.ireturn, 1) := by decide +kernel
theorem dL_pictures_243 : decode cL_pictures 243 = .ok (.iconst 0, 1) := by decide +kernel
theorem dL_pictures_244 : decode cL_pictures 244 = .ok (.istore 7, 2) := by decide +kernel
theorem dL_pictures_246 : decode cL_pictures 246 = .ok (.iload 7, 2) := by decide +kernel
theorem dL_pictures_248 : decode cL_pictures 248 = .ok (.iload_n 1, 1) := by decide +kernel
theorem dL_pictures_249 : decode cL_pictures 249 = .ok (.if_icmp .ge 87, 3) := by decide +kernel
theorem dL_pictures_252 : decode cL_pictures 252 = .ok (.iload 7, 2) := by decide +kernel
theorem dL_pictures_254 : decode cL_pictures 254 = .ok (.iload_n 3, 1) := by decide +kernel
theorem dL_pictures_255 : decode cL_pictures 255 = .ok (.if_icmp .ne 7, 3) := by decide +kernel
theorem dL_pictures_258 : decode cL_pictures 258 = .ok (.iconst 0, 1) := by decide +kernel
theorem dL_pictures_259 : decode cL_pictures 259 = .ok (.goto 10, 3) := by decide +kernel
theorem dL_pictures_262 : decode cL_pictures 262 = .ok (.aload_n 0, 1) := by decide +kernel
theorem dL_pictures_263 : decode cL_pictures 263 = .ok (.iload_n 3, 1) := by decide +kernel
theorem dL_pictures_264 : decode cL_pictures 264 = .ok (.iload 7, 2) := by decide +kernel
theorem dL_pictures_266 : decode cL_pictures 266 = .ok (.invokevirtual 37, 3) := by decide +kernel
theorem dL_pictures_269 : decode cL_pictures 269 = .ok (.istore 8, 2) := by decide +kernel
theorem dL_pictures_271 : decode cL_pictures 271 = .ok (.iload 7, 2) := by decide +kernel
theorem dL_pictures_273 : decode cL_pictures 273 = .ok (.iload_n 3, 1) := by decide +kernel
theorem dL_pictures_274 : decode cL_pictures 274 = .ok (.if_icmp .eq 56, 3) := by decide +kernel
theorem dL_pictures_277 : decode cL_pictures 277 = .ok (.iload 8, 2) := by decide +kernel
theorem dL_pictures_279 : decode cL_pictures 279 = .ok (.aload_n 0, 1) := by decide +kernel
theorem dL_pictures_280 : decode cL_pictures 280 = .ok (.iload 7, 2) := by decide +kernel
theorem dL_pictures_282 : decode cL_pictures 282 = .ok (.iload_n 3, 1) := by decide +kernel
theorem dL_pictures_283 : decode cL_pictures 283 = .ok (.invokevirtual 37, 3) := by decide +kernel
theorem dL_pictures_286 : decode cL_pictures 286 = .ok (.if_icmp .ne 42, 3) := by decide +kernel
theorem dL_pictures_289 : decode cL_pictures 289 = .ok (.iload 8, 2) := by decide +kernel
theorem dL_pictures_291 : decode cL_pictures 291 = .ok (.ifCond .lt 37, 3) := by decide +kernel
theorem dL_pictures_294 : decode cL_pictures 294 = .ok (.iload 8, 2) := by decide +kernel
theorem dL_pictures_296 : decode cL_pictures 296 = .ok (.bipush 12, 2) := by decide +kernel
theorem dL_pictures_298 : decode cL_pictures 298 = .ok (.iload 4, 2) := by decide +kernel
theorem dL_pictures_300 : decode cL_pictures 300 = .ok (.imul, 1) := by decide +kernel
theorem dL_pictures_301 : decode cL_pictures 301 = .ok (.if_icmp .gt 27, 3) := by decide +kernel
theorem dL_pictures_304 : decode cL_pictures 304 = .ok (.aload_n 0, 1) := by decide +kernel
theorem dL_pictures_305 : decode cL_pictures 305 = .ok (.iload_n 3, 1) := by decide +kernel
theorem dL_pictures_306 : decode cL_pictures 306 = .ok (.iconst 3, 1) := by decide +kernel
theorem dL_pictures_307 : decode cL_pictures 307 = .ok (.invokevirtual 24, 3) := by decide +kernel
theorem dL_pictures_310 : decode cL_pictures 310 = .ok (.iconst 2, 1) := by decide +kernel
theorem dL_pictures_311 : decode cL_pictures 311 = .ok (.if_icmp .eq 12, 3) := by decide +kernel
theorem dL_pictures_314 : decode cL_pictures 314 = .ok (.aload_n 0, 1) := by decide +kernel
theorem dL_pictures_315 : decode cL_pictures 315 = .ok (.iload_n 3, 1) := by decide +kernel
theorem dL_pictures_316 : decode cL_pictures 316 = .ok (.iconst 4, 1) := by decide +kernel
theorem dL_pictures_317 : decode cL_pictures 317 = .ok (.invokevirtual 24, 3) := by decide +kernel
theorem dL_pictures_320 : decode cL_pictures 320 = .ok (.ifCond .ne 10, 3) := by decide +kernel
theorem dL_pictures_323 : decode cL_pictures 323 = .ok (.iload 8, 2) := by decide +kernel
theorem dL_pictures_325 : decode cL_pictures 325 = .ok (.ifCond .eq 5, 3) := by decide +kernel
theorem dL_pictures_328 : decode cL_pictures 328 = .ok (.iconst 0, 1) := by decide +kernel
theorem dL_pictures_329 : decode cL_pictures 329 = .ok (.ireturn, 1) := by decide +kernel
theorem dL_pictures_330 : decode cL_pictures 330 = .ok (.iinc 7 1, 3) := by decide +kernel
theorem dL_pictures_333 : decode cL_pictures 333 = .ok (.goto (-87), 3) := by decide +kernel
theorem dL_pictures_336 : decode cL_pictures 336 = .ok (.iinc 3 1, 3) := by decide +kernel
theorem dL_pictures_339 : decode cL_pictures 339 = .ok (.goto (-248), 3) := by decide +kernel
theorem dL_pictures_342 : decode cL_pictures 342 = .ok (.aload_n 0, 1) := by decide +kernel
theorem dL_pictures_343 : decode cL_pictures 343 = .ok (.iconst 3, 1) := by decide +kernel
theorem dL_pictures_344 : decode cL_pictures 344 = .ok (.invokevirtual 40, 3) := by decide +kernel
theorem dL_pictures_347 : decode cL_pictures 347 = .ok (.istore_n 3, 1) := by decide +kernel
theorem dL_pictures_348 : decode cL_pictures 348 = .ok (.aload_n 0, 1) := by decide +kernel
theorem dL_pictures_349 : decode cL_pictures 349 = .ok (.iconst 0, 1) := by decide +kernel
theorem dL_pictures_350 : decode cL_pictures 350 = .ok (.invokevirtual 40, 3) := by decide +kernel
theorem dL_pictures_353 : decode cL_pictures 353 = .ok (.iload_n 2, 1) := by decide +kernel
theorem dL_pictures_354 : decode cL_pictures 354 = .ok (.if_icmp .ne 45, 3) := by decide +kernel
theorem dL_pictures_357 : decode cL_pictures 357 = .ok (.iload_n 3, 1) := by decide +kernel
theorem dL_pictures_358 : decode cL_pictures 358 = .ok (.iload_n 2, 1) := by decide +kernel
theorem dL_pictures_359 : decode cL_pictures 359 = .ok (.if_icmp .gt 40, 3) := by decide +kernel
theorem dL_pictures_362 : decode cL_pictures 362 = .ok (.aload_n 0, 1) := by decide +kernel
theorem dL_pictures_363 : decode cL_pictures 363 = .ok (.bipush 40, 2) := by decide +kernel
theorem dL_pictures_365 : decode cL_pictures 365 = .ok (.invokevirtual 40, 3) := by decide +kernel
theorem dL_pictures_368 : decode cL_pictures 368 = .ok (.iload_n 3, 1) := by decide +kernel
theorem dL_pictures_369 : decode cL_pictures 369 = .ok (.if_icmp .gt 30, 3) := by decide +kernel
theorem dL_pictures_372 : decode cL_pictures 372 = .ok (.aload_n 0, 1) := by decide +kernel
theorem dL_pictures_373 : decode cL_pictures 373 = .ok (.iconst 5, 1) := by decide +kernel
theorem dL_pictures_374 : decode cL_pictures 374 = .ok (.invokevirtual 15, 3) := by decide +kernel
theorem dL_pictures_377 : decode cL_pictures 377 = .ok (.sipush 8640, 3) := by decide +kernel
theorem dL_pictures_380 : decode cL_pictures 380 = .ok (.if_icmp .gt 19, 3) := by decide +kernel
theorem dL_pictures_383 : decode cL_pictures 383 = .ok (.aload_n 0, 1) := by decide +kernel
theorem dL_pictures_384 : decode cL_pictures 384 = .ok (.bipush 6, 2) := by decide +kernel
theorem dL_pictures_386 : decode cL_pictures 386 = .ok (.invokevirtual 15, 3) := by decide +kernel
theorem dL_pictures_389 : decode cL_pictures 389 = .ok (.sipush 8640, 3) := by decide +kernel
theorem dL_pictures_392 : decode cL_pictures 392 = .ok (.if_icmp .gt 7, 3) := by decide +kernel
theorem dL_pictures_395 : decode cL_pictures 395 = .ok (.iconst 1, 1) := by decide +kernel
theorem dL_pictures_396 : decode cL_pictures 396 = .ok (.goto 4, 3) := by decide +kernel
theorem dL_pictures_399 : decode cL_pictures 399 = .ok (.iconst 0, 1) := by decide +kernel
theorem dL_pictures_400 : decode cL_pictures 400 = .ok (.ireturn, 1) := by decide +kernel
set_option maxRecDepth 20000 in
theorem ggL_runs_X4_count : GoodIn wsL_runs wsX4_count := goodIn_r _ [5, 6, 7, 8, 9, 10, 11, 12, 13, 14, 15, 16, 17, 4, 18, 19, 20, 21, 22, 23, 24, 25, 26, 27, 28, 29, 30, 31, 32, 33, 34, 35, 36, 37, 38, 39, 40, 41, 42, 43, 44, 45, 46, 47, 48, 49, 50, 51, 52, 53, 54, 55, 56, 57, 58, 59, 60, 61, 62, 63, 64, 65, 66, 67, 68, 69, 70, 71, 72, 73, 74, 75, 76, 77, 78, 79, 80, 81, 82, 205, 206, 207, 208, 209, 210, 211, 212, 213, 214, 215, 216, 217, 218, 219, 220, 221, 222, 223, 224, 225, 226, 227, 228, 229] (by decide +kernel) (by decide +kernel)
set_option maxRecDepth 20000 in
theorem gL_runs_X4_count : GoodIn wsL_runs (wsV RL 15 RX4 yX4_count wsX4_count) := goodIn_app (goodIn_of _ (by decide +kernel)) ggL_runs_X4_count
set_option maxRecDepth 20000 in
theorem ggL_runs_X4_ticksAround : GoodIn wsL_runs wsX4_ticksAround := goodIn_r _ [86, 87, 6, 88, 89, 90, 91, 28, 92, 93, 94, 95, 96, 97, 98, 99, 100, 101, 102, 103, 104, 105, 106, 49, 50, 22, 51, 52, 53, 54, 55, 56, 57, 58, 59, 60, 61, 62, 63, 64, 65, 66, 67, 68, 69, 70, 71, 72, 73, 74, 75, 76, 77, 78, 79, 80, 81, 82, 34, 4, 35, 36, 107, 38, 39, 40, 41, 42, 43, 108, 109, 110, 111, 112, 113, 114, 115, 116, 117, 118, 119, 120, 121, 122, 123, 124, 125, 126, 127, 128, 129, 130, 131, 132, 133, 27, 29, 134, 135, 136, 137, 138, 139, 205, 206, 207, 208, 209, 210, 211, 212, 213, 214, 215, 216, 217, 218, 219, 220, 221, 222, 223, 224, 230, 231, 232, 233, 234, 235, 236, 237, 238, 239, 240, 225, 226, 227, 228, 229] (by decide +kernel) (by decide +kernel)
set_option maxRecDepth 20000 in
theorem gL_runs_X4_ticksAround : GoodIn wsL_runs (wsV RL 43 RX4 yX4_ticksAround wsX4_ticksAround) := goodIn_app (goodIn_of _ (by decide +kernel)) ggL_runs_X4_ticksAround
set_option maxRecDepth 20000 in
theorem ggL_runs_X4_setting : GoodIn wsL_runs wsX4_setting := goodIn_r _ [143, 6, 88, 144, 145, 4, 146, 205, 206, 207, 208, 209, 210, 211, 212, 213, 214, 215, 216, 217, 218, 219, 220, 221, 222, 223, 224] (by decide +kernel) (by decide +kernel)
set_option maxRecDepth 20000 in
theorem gL_runs_X4_setting : GoodIn wsL_runs (wsV RL 34 RX4 yX4_setting wsX4_setting) := goodIn_app (goodIn_of _ (by decide +kernel)) ggL_runs_X4_setting
set_option maxRecDepth 20000 in
theorem ggL_runs_X4_run : GoodIn wsL_runs wsX4_run := goodIn_r _ [150, 6, 10, 87, 88, 11, 144, 145, 4, 146, 151, 152, 153, 154, 13, 155, 156, 157, 158, 159, 22, 160, 52, 53, 161, 162, 24, 163, 164, 25, 165, 166, 167, 168, 169, 31, 30, 170, 171, 172, 57, 173, 74, 65, 75, 59, 60, 174, 93, 94, 95, 96, 97, 98, 99, 100, 101, 102, 103, 104, 105, 106, 49, 50, 51, 54, 55, 56, 58, 61, 62, 63, 64, 66, 67, 68, 69, 70, 71, 72, 73, 76, 77, 28, 78, 79, 80, 81, 82, 34, 35, 36, 107, 38, 39, 40, 41, 42, 43, 108, 109, 110, 111, 112, 113, 114, 115, 116, 117, 118, 119, 120, 121, 122, 123, 124, 125, 126, 127, 128, 129, 130, 131, 132, 133, 27, 29, 134, 135, 136, 137, 138, 91, 92, 139, 175, 176, 177, 178, 179, 180, 181, 182, 183, 184, 185, 186, 187, 188, 189, 190, 191, 32, 192, 26, 193, 194, 195, 196, 197, 198, 199, 200, 205, 206, 207, 208, 209, 210, 211, 212, 213, 214, 215, 216, 217, 218, 219, 220, 221, 222, 223, 224, 225, 226, 227, 228, 229, 230, 231, 232, 233, 234, 235, 236, 237, 238, 239, 240] (by decide +kernel) (by decide +kernel)
set_option maxRecDepth 20000 in
theorem gL_runs_X4_run : GoodIn wsL_runs (wsV RL 47 RX4 yX4_run wsX4_run) := goodIn_app (goodIn_of _ (by decide +kernel)) ggL_runs_X4_run
set_option maxRecDepth 20000 in
theorem ggL_runs_L_size : GoodIn wsL_runs wsL_size := goodIn_r _ [204] (by decide +kernel) (by decide +kernel)
set_option maxRecDepth 20000 in
theorem gL_runs_L_size : GoodIn wsL_runs (va_wsS RL 50 yL_size wsL_size) := goodIn_app (goodIn_of _ (by decide +kernel)) ggL_runs_L_size
theorem dL_runs_0 : decode cL_runs 0 = .ok (.aload_n 0, 1) := by decide +kernel
theorem dL_runs_1 : decode cL_runs 1 = .ok (.iconst 1, 1) := by decide +kernel
theorem dL_runs_2 : decode cL_runs 2 = .ok (.invokevirtual 15, 3) := by decide +kernel
theorem dL_runs_5 : decode cL_runs 5 = .ok (.istore_n 2, 1) := by decide +kernel
theorem dL_runs_6 : decode cL_runs 6 = .ok (.aload_n 0, 1) := by decide +kernel
theorem dL_runs_7 : decode cL_runs 7 = .ok (.iconst 3, 1) := by decide +kernel
theorem dL_runs_8 : decode cL_runs 8 = .ok (.invokevirtual 15, 3) := by decide +kernel
theorem dL_runs_11 : decode cL_runs 11 = .ok (.istore_n 3, 1) := by decide +kernel
theorem dL_runs_12 : decode cL_runs 12 = .ok (.iconst 0, 1) := by decide +kernel
theorem dL_runs_13 : decode cL_runs 13 = .ok (.istore 4, 2) := by decide +kernel
theorem dL_runs_15 : decode cL_runs 15 = .ok (.iconst 0, 1) := by decide +kernel
theorem dL_runs_16 : decode cL_runs 16 = .ok (.istore 5, 2) := by decide +kernel
theorem dL_runs_18 : decode cL_runs 18 = .ok (.aload_n 0, 1) := by decide +kernel
theorem dL_runs_19 : decode cL_runs 19 = .ok (.invokevirtual 43, 3) := by decide +kernel
theorem dL_runs_22 : decode cL_runs 22 = .ok (.istore 6, 2) := by decide +kernel
theorem dL_runs_24 : decode cL_runs 24 = .ok (.iconst 0, 1) := by decide +kernel
theorem dL_runs_25 : decode cL_runs 25 = .ok (.istore 7, 2) := by decide +kernel
theorem dL_runs_27 : decode cL_runs 27 = .ok (.iconst 0, 1) := by decide +kernel
theorem dL_runs_28 : decode cL_runs 28 = .ok (.istore 8, 2) := by decide +kernel
theorem dL_runs_30 : decode cL_runs 30 = .ok (.iload 8, 2) := by decide +kernel
theorem dL_runs_32 : decode cL_runs 32 = .ok (.iload_n 1, 1) := by decide +kernel
theorem dL_runs_33 : decode cL_runs 33 = .ok (.if_icmp .ge 252, 3) := by decide +kernel
theorem dL_runs_36 : decode cL_runs 36 = .ok (.aload_n 0, 1) := by decide +kernel
theorem dL_runs_37 : decode cL_runs 37 = .ok (.iconst 2, 1) := by decide +kernel
theorem dL_runs_38 : decode cL_runs 38 = .ok (.invokevirtual 15, 3) := by decide +kernel
theorem dL_runs_41 : decode cL_runs 41 = .ok (.istore 9, 2) := by decide +kernel
theorem dL_runs_43 : decode cL_runs 43 = .ok (.aload_n 0, 1) := by decide +kernel
theorem dL_runs_44 : decode cL_runs 44 = .ok (.iconst 5, 1) := by decide +kernel
theorem dL_runs_45 : decode cL_runs 45 = .ok (.invokevirtual 15, 3) := by decide +kernel
theorem dL_runs_48 : decode cL_runs 48 = .ok (.istore 10, 2) := by decide +kernel
theorem dL_runs_50 : decode cL_runs 50 = .ok (.aload_n 0, 1) := by decide +kernel
theorem dL_runs_51 : decode cL_runs 51 = .ok (.iconst 4, 1) := by decide +kernel
theorem dL_runs_52 : decode cL_runs 52 = .ok (.invokevirtual 15, 3) := by decide +kernel
theorem dL_runs_55 : decode cL_runs 55 = .ok (.istore 11, 2) := by decide +kernel
theorem dL_runs_57 : decode cL_runs 57 = .ok (.iload 11, 2) := by decide +kernel
theorem dL_runs_59 : decode cL_runs 59 = .ok (.aload_n 0, 1) := by decide +kernel
theorem dL_runs_60 : decode cL_runs 60 = .ok (.iconst 2, 1) := by decide +kernel
theorem dL_runs_61 : decode cL_runs 61 = .ok (.invokevirtual 34, 3) := by decide +kernel
theorem dL_runs_64 : decode cL_runs 64 = .ok (.if_icmp .le 13, 3) := by decide +kernel
theorem dL_runs_67 : decode cL_runs 67 = .ok (.aload_n 0, 1) := by decide +kernel
theorem dL_runs_68 : decode cL_runs 68 = .ok (.iconst 1, 1) := by decide +kernel
theorem dL_runs_69 : decode cL_runs 69 = .ok (.invokevirtual 34, 3) := by decide +kernel
theorem dL_runs_72 : decode cL_runs 72 = .ok (.iconst 2, 1) := by decide +kernel
theorem dL_runs_73 : decode cL_runs 73 = .ok (.idiv, 1) := by decide +kernel
theorem dL_runs_74 : decode cL_runs 74 = .ok (.goto 8, 3) := by decide +kernel
theorem dL_runs_77 : decode cL_runs 77 = .ok (.aload_n 0, 1) := by decide +kernel
theorem dL_runs_78 : decode cL_runs 78 = .ok (.iconst 1, 1) := by decide +kernel
theorem dL_runs_79 : decode cL_runs 79 = .ok (.invokevirtual 34, 3) := by decide +kernel
theorem dL_runs_82 : decode cL_runs 82 = .ok (.istore 12, 2) := by decide +kernel
theorem dL_runs_84 : decode cL_runs 84 = .ok (.aload_n 0, 1) := by decide +kernel
theorem dL_runs_85 : decode cL_runs 85 = .ok (.iconst 1, 1) := by decide +kernel
theorem dL_runs_86 : decode cL_runs 86 = .ok (.invokevirtual 47, 3) := by decide +kernel
theorem dL_runs_89 : decode cL_runs 89 = .ok (.istore 4, 2) := by decide +kernel
theorem dL_runs_91 : decode cL_runs 91 = .ok (.aload_n 0, 1) := by decide +kernel
theorem dL_runs_92 : decode cL_runs 92 = .ok (.iconst 2, 1) := by decide +kernel
theorem dL_runs_93 : decode cL_runs 93 = .ok (.invokevirtual 15, 3) := by decide +kernel
theorem dL_runs_96 : decode cL_runs 96 = .ok (.istore 13, 2) := by decide +kernel
theorem dL_runs_98 : decode cL_runs 98 = .ok (.aload_n 0, 1) := by decide +kernel
theorem dL_runs_99 : decode cL_runs 99 = .ok (.iconst 0, 1) := by decide +kernel
theorem dL_runs_100 : decode cL_runs 100 = .ok (.invokevirtual 34, 3) := by decide +kernel
theorem dL_runs_103 : decode cL_runs 103 = .ok (.iload 9, 2) := by decide +kernel
theorem dL_runs_105 : decode cL_runs 105 = .ok (.iload 12, 2) := by decide +kernel
theorem dL_runs_107 : decode cL_runs 107 = .ok (.iadd, 1) := by decide +kernel
theorem dL_runs_108 : decode cL_runs 108 = .ok (.if_icmp .le 11, 3) := by decide +kernel
theorem dL_runs_111 : decode cL_runs 111 = .ok (.iload 9, 2) := by decide +kernel
theorem dL_runs_113 : decode cL_runs 113 = .ok (.iload 12, 2) := by decide +kernel
theorem dL_runs_115 : decode cL_runs 115 = .ok (.iadd, 1) := by decide +kernel
theorem dL_runs_116 : decode cL_runs 116 = .ok (.goto 29, 3) := by decide +kernel
theorem dL_runs_119 : decode cL_runs 119 = .ok (.aload_n 0, 1) := by decide +kernel
theorem dL_runs_120 : decode cL_runs 120 = .ok (.iconst 0, 1) := by decide +kernel
theorem dL_runs_121 : decode cL_runs 121 = .ok (.invokevirtual 34, 3) := by decide +kernel
theorem dL_runs_124 : decode cL_runs 124 = .ok (.iload 9, 2) := by decide +kernel
theorem dL_runs_126 : decode cL_runs 126 = .ok (.iload 12, 2) := by decide +kernel
theorem dL_runs_128 : decode cL_runs 128 = .ok (.isub, 1) := by decide +kernel
theorem dL_runs_129 : decode cL_runs 129 = .ok (.if_icmp .ge 11, 3) := by decide +kernel
theorem dL_runs_132 : decode cL_runs 132 = .ok (.iload 9, 2) := by decide +kernel
theorem dL_runs_134 : decode cL_runs 134 = .ok (.iload 12, 2) := by decide +kernel
theorem dL_runs_136 : decode cL_runs 136 = .ok (.isub, 1) := by decide +kernel
theorem dL_runs_137 : decode cL_runs 137 = .ok (.goto 8, 3) := by decide +kernel
theorem dL_runs_140 : decode cL_runs 140 = .ok (.aload_n 0, 1) := by decide +kernel
theorem dL_runs_141 : decode cL_runs 141 = .ok (.iconst 0, 1) := by decide +kernel
theorem dL_runs_142 : decode cL_runs 142 = .ok (.invokevirtual 34, 3) := by decide +kernel
theorem dL_runs_145 : decode cL_runs 145 = .ok (.istore 14, 2) := by decide +kernel
theorem dL_runs_147 : decode cL_runs 147 = .ok (.iload 5, 2) := by decide +kernel
theorem dL_runs_149 : decode cL_runs 149 = .ok (.iload 13, 2) := by decide +kernel
theorem dL_runs_151 : decode cL_runs 151 = .ok (.iadd, 1) := by decide +kernel
theorem dL_runs_152 : decode cL_runs 152 = .ok (.istore 5, 2) := by decide +kernel
theorem dL_runs_154 : decode cL_runs 154 = .ok (.iload 7, 2) := by decide +kernel
theorem dL_runs_156 : decode cL_runs 156 = .ok (.iload 13, 2) := by decide +kernel
theorem dL_runs_158 : decode cL_runs 158 = .ok (.invokestatic 50, 3) := by decide +kernel
theorem dL_runs_161 : decode cL_runs 161 = .ok (.iadd, 1) := by decide +kernel
theorem dL_runs_162 : decode cL_runs 162 = .ok (.istore 7, 2) := by decide +kernel
theorem dL_runs_164 : decode cL_runs 164 = .ok (.iload 13, 2) := by decide +kernel
theorem dL_runs_166 : decode cL_runs 166 = .ok (.iload 14, 2) := by decide +kernel
theorem dL_runs_168 : decode cL_runs 168 = .ok (.if_icmp .ne 109, 3) := by decide +kernel
theorem dL_runs_171 : decode cL_runs 171 = .ok (.iload 13, 2) := by decide +kernel
theorem dL_runs_173 : decode cL_runs 173 = .ok (.bipush 60, 2) := by decide +kernel
theorem dL_runs_175 : decode cL_runs 175 = .ok (.if_icmp .gt 102, 3) := by decide +kernel
theorem dL_runs_178 : decode cL_runs 178 = .ok (.iload 13, 2) := by decide +kernel
theorem dL_runs_180 : decode cL_runs 180 = .ok (.bipush (-60), 2) := by decide +kernel
theorem dL_runs_182 : decode cL_runs 182 = .ok (.if_icmp .lt 95, 3) := by decide +kernel
theorem dL_runs_185 : decode cL_runs 185 = .ok (.iload 4, 2) := by decide +kernel
theorem dL_runs_187 : decode cL_runs 187 = .ok (.ifCond .lt 90, 3) := by decide +kernel
theorem dL_runs_190 : decode cL_runs 190 = .ok (.iload 4, 2) := by decide +kernel
theorem dL_runs_192 : decode cL_runs 192 = .ok (.aload_n 0, 1) := by decide +kernel
theorem dL_runs_193 : decode cL_runs 193 = .ok (.iconst 4, 1) := by decide +kernel
theorem dL_runs_194 : decode cL_runs 194 = .ok (.invokevirtual 15, 3) := by decide +kernel
theorem dL_runs_197 : decode cL_runs 197 = .ok (.if_icmp .ne 80, 3) := by decide +kernel
theorem dL_runs_200 : decode cL_runs 200 = .ok (.iload 4, 2) := by decide +kernel
theorem dL_runs_202 : decode cL_runs 202 = .ok (.bipush 24, 2) := by decide +kernel
theorem dL_runs_204 : decode cL_runs 204 = .ok (.iload 13, 2) := by decide +kernel
theorem dL_runs_206 : decode cL_runs 206 = .ok (.invokestatic 50, 3) := by decide +kernel
theorem dL_runs_209 : decode cL_runs 209 = .ok (.imul, 1) := by decide +kernel
theorem dL_runs_210 : decode cL_runs 210 = .ok (.if_icmp .gt 67, 3) := by decide +kernel
theorem dL_runs_213 : decode cL_runs 213 = .ok (.aload_n 0, 1) := by decide +kernel
theorem dL_runs_214 : decode cL_runs 214 = .ok (.iconst 5, 1) := by decide +kernel
theorem dL_runs_215 : decode cL_runs 215 = .ok (.invokevirtual 15, 3) := by decide +kernel
theorem dL_runs_218 : decode cL_runs 218 = .ok (.iload 10, 2) := by decide +kernel
theorem dL_runs_220 : decode cL_runs 220 = .ok (.iload 4, 2) := by decide +kernel
theorem dL_runs_222 : decode cL_runs 222 = .ok (.iadd, 1) := by decide +kernel
theorem dL_runs_223 : decode cL_runs 223 = .ok (.if_icmp .gt 54, 3) := by decide +kernel
theorem dL_runs_226 : decode cL_runs 226 = .ok (.aload_n 0, 1) := by decide +kernel
theorem dL_runs_227 : decode cL_runs 227 = .ok (.iconst 3, 1) := by decide +kernel
theorem dL_runs_228 : decode cL_runs 228 = .ok (.invokevirtual 15, 3) := by decide +kernel
theorem dL_runs_231 : decode cL_runs 231 = .ok (.iload_n 3, 1) := by decide +kernel
theorem dL_runs_232 : decode cL_runs 232 = .ok (.iload 8, 2) := by decide +kernel
theorem dL_runs_234 : decode cL_runs 234 = .ok (.iadd, 1) := by decide +kernel
theorem dL_runs_235 : decode cL_runs 235 = .ok (.iconst 1, 1) := by decide +kernel
theorem dL_runs_236 : decode cL_runs 236 = .ok (.iadd, 1) := by decide +kernel
theorem dL_runs_237 : decode cL_runs 237 = .ok (.if_icmp .ne 40, 3) := by decide +kernel
theorem dL_runs_240 : decode cL_runs 240 = .ok (.iload 6, 2) := by decide +kernel
theorem dL_runs_242 : decode cL_runs 242 = .ok (.bipush (-109), 2) := by decide +kernel
theorem dL_runs_244 : decode cL_runs 244 = .ok (.if_icmp .eq 35, 3) := by decide +kernel
theorem dL_runs_247 : decode cL_runs 247 = .ok (.iload 7, 2) := by decide +kernel
theorem dL_runs_249 : decode cL_runs 249 = .ok (.sipush 720, 3) := by decide +kernel
theorem dL_runs_252 : decode cL_runs 252 = .ok (.if_icmp .lt 7, 3) := by decide +kernel
theorem dL_runs_255 : decode cL_runs 255 = .ok (.iconst 1, 1) := by decide +kernel
theorem dL_runs_256 : decode cL_runs 256 = .ok (.goto 4, 3) := by decide +kernel
theorem dL_runs_259 : decode cL_runs 259 = .ok (.iconst 0, 1) := by decide +kernel
theorem dL_runs_260 : decode cL_runs 260 = .ok (.iload 8, 2) := by decide +kernel
theorem dL_runs_262 : decode cL_runs 262 = .ok (.iconst 1, 1) := by decide +kernel
theorem dL_runs_263 : decode cL_runs 263 = .ok (.iadd, 1) := by decide +kernel
theorem dL_runs_264 : decode cL_runs 264 = .ok (.iload 6, 2) := by decide +kernel
theorem dL_runs_266 : decode cL_runs 266 = .ok (.if_icmp .lt 7, 3) := by decide +kernel
theorem dL_runs_269 : decode cL_runs 269 = .ok (.iconst 1, 1) := by decide +kernel
theorem dL_runs_270 : decode cL_runs 270 = .ok (.goto 4, 3) := by decide +kernel
theorem dL_runs_273 : decode cL_runs 273 = .ok (.iconst 0, 1) := by decide +kernel
theorem dL_runs_274 : decode cL_runs 274 = .ok (.if_icmp .eq 5, 3) := by decide +kernel
theorem dL_runs_277 : decode cL_runs 277 = .ok (.iconst 0, 1) := by decide +kernel
theorem dL_runs_278 : decode cL_runs 278 = .ok (.ireturn, 1) := by decide +kernel
theorem dL_runs_279 : decode cL_runs 279 = .ok (.iinc 8 1, 3) := by decide +kernel
theorem dL_runs_282 : decode cL_runs 282 = .ok (.goto (-252), 3) := by decide +kernel
theorem dL_runs_285 : decode cL_runs 285 = .ok (.aload_n 0, 1) := by decide +kernel
theorem dL_runs_286 : decode cL_runs 286 = .ok (.iconst 1, 1) := by decide +kernel
theorem dL_runs_287 : decode cL_runs 287 = .ok (.invokevirtual 15, 3) := by decide +kernel
theorem dL_runs_290 : decode cL_runs 290 = .ok (.iload_n 2, 1) := by decide +kernel
theorem dL_runs_291 : decode cL_runs 291 = .ok (.iload 5, 2) := by decide +kernel
theorem dL_runs_293 : decode cL_runs 293 = .ok (.sipush 720, 3) := by decide +kernel
theorem dL_runs_296 : decode cL_runs 296 = .ok (.irem, 1) := by decide +kernel
theorem dL_runs_297 : decode cL_runs 297 = .ok (.iadd, 1) := by decide +kernel
theorem dL_runs_298 : decode cL_runs 298 = .ok (.sipush 720, 3) := by decide +kernel
theorem dL_runs_301 : decode cL_runs 301 = .ok (.iadd, 1) := by decide +kernel
theorem dL_runs_302 : decode cL_runs 302 = .ok (.sipush 720, 3) := by decide +kernel
theorem dL_runs_305 : decode cL_runs 305 = .ok (.irem, 1) := by decide +kernel
theorem dL_runs_306 : decode cL_runs 306 = .ok (.if_icmp .ne 29, 3) := by decide +kernel
theorem dL_runs_309 : decode cL_runs 309 = .ok (.iload 6, 2) := by decide +kernel
theorem dL_runs_311 : decode cL_runs 311 = .ok (.bipush (-109), 2) := by decide +kernel
theorem dL_runs_313 : decode cL_runs 313 = .ok (.if_icmp .eq 18, 3) := by decide +kernel
theorem dL_runs_316 : decode cL_runs 316 = .ok (.iload 6, 2) := by decide +kernel
theorem dL_runs_318 : decode cL_runs 318 = .ok (.bipush 11, 2) := by decide +kernel
theorem dL_runs_320 : decode cL_runs 320 = .ok (.if_icmp .le 15, 3) := by decide +kernel
theorem dL_runs_323 : decode cL_runs 323 = .ok (.iload 6, 2) := by decide +kernel
theorem dL_runs_325 : decode cL_runs 325 = .ok (.sipush 501, 3) := by decide +kernel
theorem dL_runs_328 : decode cL_runs 328 = .ok (.if_icmp .ge 7, 3) := by decide +kernel
theorem dL_runs_331 : decode cL_runs 331 = .ok (.iconst 1, 1) := by decide +kernel
theorem dL_runs_332 : decode cL_runs 332 = .ok (.goto 4, 3) := by decide +kernel
theorem dL_runs_335 : decode cL_runs 335 = .ok (.iconst 0, 1) := by decide +kernel
theorem dL_runs_336 : decode cL_runs 336 = .ok (.ireturn, 1) := by decide +kernel
set_option maxRecDepth 20000 in
theorem ggL_refuses_X4_count : GoodIn wsL_refuses wsX4_count := goodIn_r _ [5, 6, 7, 8, 9, 10, 11, 12, 13, 14, 15, 16, 17, 4, 18, 19, 20, 21, 22, 23, 24, 25, 26, 27, 28, 29, 30, 31, 32, 33, 34, 35, 36, 37, 38, 39, 40, 41, 42, 43, 44, 45, 46, 47, 48, 49, 50, 51, 52, 53, 54, 55, 56, 57, 58, 59, 60, 61, 62, 63, 64, 65, 66, 67, 68, 69, 70, 71, 72, 73, 74, 75, 76, 77, 78, 79, 80, 81, 82, 354, 355, 356, 357, 358, 359, 360, 361, 362, 363, 364, 365, 366, 367, 368, 369, 370, 371, 372, 373, 374, 375, 376, 377, 378] (by decide +kernel) (by decide +kernel)
set_option maxRecDepth 20000 in
theorem gL_refuses_X4_count : GoodIn wsL_refuses (wsV RL 15 RX4 yX4_count wsX4_count) := goodIn_app (goodIn_of _ (by decide +kernel)) ggL_refuses_X4_count
set_option maxRecDepth 20000 in
theorem ggL_refuses_X4_addPicture : GoodIn wsL_refuses wsX4_addPicture := goodIn_r _ [86, 6, 7, 87, 88, 89, 90, 4, 91, 92, 93, 94, 95, 13, 96, 97, 98, 99, 100, 22, 101, 52, 53, 102, 103, 24, 104, 105, 25, 106, 107, 108, 109, 110, 31, 30, 111, 112, 113, 57, 114, 74, 65, 75, 59, 60, 115, 354, 355, 356, 357, 358, 359, 360, 361, 362, 363, 364, 365, 366, 367, 368, 369, 370, 371, 372, 373, 374, 375, 376, 377, 378] (by decide +kernel) (by decide +kernel)
set_option maxRecDepth 20000 in
theorem gL_refuses_X4_addPicture : GoodIn wsL_refuses (wsV RL 53 RX4 yX4_addPicture wsX4_addPicture) := goodIn_app (goodIn_of _ (by decide +kernel)) ggL_refuses_X4_addPicture
set_option maxRecDepth 20000 in
theorem ggL_refuses_X4_paint : GoodIn wsL_refuses wsX4_paint := goodIn_r _ [119, 6, 88, 120, 121, 122, 123, 22, 124, 52, 53, 90, 4, 91, 89, 92, 93, 94, 95, 13, 96, 97, 98, 99, 100, 101, 102, 103, 24, 104, 105, 25, 106, 107, 108, 109, 110, 31, 30, 111, 112, 113, 57, 114, 74, 65, 75, 59, 60, 115, 125, 126, 127, 128, 129, 130, 131, 132, 354, 355, 356, 357, 358, 359, 360, 361, 362, 374, 375, 376, 377, 378, 363, 364, 365, 366, 367, 368, 369, 370, 371, 372, 373] (by decide +kernel) (by decide +kernel)
set_option maxRecDepth 20000 in
theorem gL_refuses_X4_paint : GoodIn wsL_refuses (wsV RL 56 RX4 yX4_paint wsX4_paint) := goodIn_app (goodIn_of _ (by decide +kernel)) ggL_refuses_X4_paint
set_option maxRecDepth 20000 in
theorem ggL_refuses_X4_setPlace : GoodIn wsL_refuses wsX4_setPlace := goodIn_r _ [136, 6, 137, 138, 121, 122, 123, 22, 124, 52, 53, 90, 4, 91, 89, 92, 93, 94, 95, 13, 96, 97, 98, 99, 100, 101, 102, 103, 24, 104, 105, 25, 106, 107, 108, 109, 110, 31, 30, 111, 112, 113, 57, 114, 74, 65, 75, 59, 60, 115, 354, 355, 356, 357, 358, 359, 360, 361, 362, 374, 375, 376, 377, 378, 363, 364, 365, 366, 367, 368, 369, 370, 371, 372, 373] (by decide +kernel) (by decide +kernel)
set_option maxRecDepth 20000 in
theorem gL_refuses_X4_setPlace : GoodIn wsL_refuses (wsV RL 60 RX4 yX4_setPlace wsX4_setPlace) := goodIn_app (goodIn_of _ (by decide +kernel)) ggL_refuses_X4_setPlace
set_option maxRecDepth 20000 in
theorem ggL_refuses_X4_setKind : GoodIn wsL_refuses wsX4_setKind := goodIn_r _ [142, 6, 143, 121, 122, 123, 22, 124, 52, 53, 90, 4, 91, 89, 92, 93, 94, 95, 13, 96, 97, 98, 99, 100, 101, 102, 103, 24, 104, 105, 25, 106, 107, 108, 109, 110, 31, 30, 111, 112, 113, 57, 114, 74, 65, 75, 59, 60, 115, 354, 355, 356, 357, 358, 359, 360, 361, 362, 374, 375, 376, 377, 378, 363, 364, 365, 366, 367, 368, 369, 370, 371, 372, 373] (by decide +kernel) (by decide +kernel)
set_option maxRecDepth 20000 in
theorem gL_refuses_X4_setKind : GoodIn wsL_refuses (wsV RL 63 RX4 yX4_setKind wsX4_setKind) := goodIn_app (goodIn_of _ (by decide +kernel)) ggL_refuses_X4_setKind
set_option maxRecDepth 20000 in
theorem ggL_refuses_X4_load : GoodIn wsL_refuses wsX4_load := goodIn_r _ [147, 6, 148, 149, 14, 150, 88, 151, 120, 152, 107, 108, 109, 121, 122, 123, 22, 124, 52, 53, 90, 4, 91, 153, 154, 155, 156, 157, 158, 159, 160, 161, 162, 163, 164, 165, 166, 167, 168, 169, 170, 171, 172, 173, 174, 175, 176, 177, 178, 179, 129, 130, 131, 132, 180, 181, 182, 183, 184, 185, 186, 187, 92, 93, 94, 95, 13, 96, 97, 98, 99, 100, 101, 102, 103, 24, 104, 105, 25, 106, 110, 31, 30, 111, 112, 113, 57, 114, 74, 65, 75, 59, 60, 115, 354, 355, 356, 357, 358, 359, 360, 361, 362, 379, 380, 381, 382, 383, 384, 374, 375, 376, 377, 378, 363, 364, 365, 366, 367, 368, 369, 370, 371, 372, 373] (by decide +kernel) (by decide +kernel)
set_option maxRecDepth 20000 in
theorem gL_refuses_X4_load : GoodIn wsL_refuses (wsV RL 66 RX4 yX4_load wsX4_load) := goodIn_app (goodIn_of _ (by decide +kernel)) ggL_refuses_X4_load
set_option maxRecDepth 20000 in
theorem ggL_refuses_X4_setSecondArm : GoodIn wsL_refuses wsX4_setSecondArm := goodIn_r _ [191, 6, 12, 89, 90, 4, 91, 92, 93, 94, 95, 13, 96, 97, 98, 99, 100, 22, 101, 52, 53, 102, 103, 24, 104, 105, 25, 106, 107, 108, 109, 110, 31, 30, 111, 112, 113, 57, 114, 74, 65, 75, 59, 60, 115, 354, 355, 356, 357, 358, 359, 360, 361, 362, 363, 364, 365, 366, 367, 368, 369, 370, 371, 372, 373, 374, 375, 376, 377, 378] (by decide +kernel) (by decide +kernel)
set_option maxRecDepth 20000 in
theorem gL_refuses_X4_setSecondArm : GoodIn wsL_refuses (wsV RL 69 RX4 yX4_setSecondArm wsX4_setSecondArm) := goodIn_app (goodIn_of _ (by decide +kernel)) ggL_refuses_X4_setSecondArm
set_option maxRecDepth 20000 in
theorem ggL_refuses_X4_setBroken : GoodIn wsL_refuses wsX4_setBroken := goodIn_r _ [195, 6, 196, 132, 89, 90, 4, 91, 92, 93, 94, 95, 13, 96, 97, 98, 99, 100, 22, 101, 52, 53, 102, 103, 24, 104, 105, 25, 106, 107, 108, 109, 110, 31, 30, 111, 112, 113, 57, 114, 74, 65, 75, 59, 60, 115, 197, 198, 199, 200, 354, 355, 356, 357, 358, 359, 360, 361, 362, 363, 364, 365, 366, 367, 368, 369, 370, 371, 372, 373, 374, 375, 376, 377, 378] (by decide +kernel) (by decide +kernel)
set_option maxRecDepth 20000 in
theorem gL_refuses_X4_setBroken : GoodIn wsL_refuses (wsV RL 72 RX4 yX4_setBroken wsX4_setBroken) := goodIn_app (goodIn_of _ (by decide +kernel)) ggL_refuses_X4_setBroken
set_option maxRecDepth 20000 in
theorem ggL_refuses_X4_set : GoodIn wsL_refuses wsX4_set := goodIn_r _ [204, 205, 206, 6, 207, 89, 90, 4, 91, 92, 93, 94, 95, 13, 96, 97, 98, 99, 100, 22, 101, 52, 53, 102, 103, 24, 104, 105, 25, 106, 107, 108, 109, 110, 31, 30, 111, 112, 113, 57, 114, 74, 65, 75, 59, 60, 115, 354, 355, 356, 357, 358, 359, 360, 361, 362, 363, 364, 365, 366, 367, 368, 369, 370, 371, 372, 373, 374, 375, 376, 377, 378] (by decide +kernel) (by decide +kernel)
set_option maxRecDepth 20000 in
theorem gL_refuses_X4_set : GoodIn wsL_refuses (wsV RL 75 RX4 yX4_set wsX4_set) := goodIn_app (goodIn_of _ (by decide +kernel)) ggL_refuses_X4_set
set_option maxRecDepth 20000 in
theorem ggL_refuses_X4_run : GoodIn wsL_refuses wsX4_run := goodIn_r _ [211, 6, 10, 212, 207, 11, 89, 90, 4, 91, 92, 93, 94, 95, 13, 96, 97, 98, 99, 100, 22, 101, 52, 53, 102, 103, 24, 104, 105, 25, 106, 107, 108, 109, 110, 31, 30, 111, 112, 113, 57, 114, 74, 65, 75, 59, 60, 115, 213, 214, 215, 216, 217, 218, 219, 220, 221, 222, 223, 224, 225, 226, 49, 50, 51, 54, 55, 56, 58, 61, 62, 63, 64, 66, 67, 68, 69, 70, 71, 72, 73, 76, 77, 28, 78, 79, 80, 81, 82, 34, 35, 36, 227, 38, 39, 40, 41, 42, 43, 228, 229, 230, 231, 232, 233, 234, 235, 236, 237, 238, 239, 240, 241, 242, 243, 244, 245, 246, 247, 248, 249, 250, 251, 252, 253, 27, 29, 254, 255, 256, 257, 258, 259, 260, 261, 262, 263, 264, 265, 266, 267, 268, 269, 270, 271, 272, 273, 274, 275, 276, 277, 278, 32, 279, 26, 280, 198, 199, 200, 281, 282, 283, 284, 354, 355, 356, 357, 358, 359, 360, 361, 362, 363, 364, 365, 366, 367, 368, 369, 370, 371, 372, 373, 374, 375, 376, 377, 378, 385, 386, 387, 388, 389, 390, 391, 392, 393, 394, 395] (by decide +kernel) (by decide +kernel)
set_option maxRecDepth 20000 in
theorem gL_refuses_X4_run : GoodIn wsL_refuses (wsV RL 47 RX4 yX4_run wsX4_run) := goodIn_app (goodIn_of _ (by decide +kernel)) ggL_refuses_X4_run
set_option maxRecDepth 20000 in
theorem ggL_refuses_X4_append : GoodIn wsL_refuses wsX4_append := goodIn_r _ [288, 14, 149, 89, 90, 4, 91, 354, 355, 356, 357, 358, 359, 360, 361, 362] (by decide +kernel) (by decide +kernel)
set_option maxRecDepth 20000 in
theorem gL_refuses_X4_append : GoodIn wsL_refuses (wsV RL 78 RX4 yX4_append wsX4_append) := goodIn_app (goodIn_of _ (by decide +kernel)) ggL_refuses_X4_append
set_option maxRecDepth 20000 in
theorem ggL_refuses_X4_setting : GoodIn wsL_refuses wsX4_setting := goodIn_r _ [292, 6, 207, 89, 90, 4, 91, 354, 355, 356, 357, 358, 359, 360, 361, 362, 363, 364, 365, 366, 367, 368, 369, 370, 371, 372, 373] (by decide +kernel) (by decide +kernel)
set_option maxRecDepth 20000 in
theorem gL_refuses_X4_setting : GoodIn wsL_refuses (wsV RL 34 RX4 yX4_setting wsX4_setting) := goodIn_app (goodIn_of _ (by decide +kernel)) ggL_refuses_X4_setting
set_option maxRecDepth 20000 in
theorem ggL_refuses_X4_picture : GoodIn wsL_refuses wsX4_picture := goodIn_r _ [296, 6, 88, 137, 138, 143, 121, 122, 123, 22, 124, 52, 53, 90, 4, 91, 297, 298, 299, 57, 300, 74, 60, 34, 35, 36, 301, 38, 39, 40, 41, 42, 43, 302, 71, 72, 73, 75, 76, 77, 28, 78, 354, 355, 356, 357, 358, 359, 360, 361, 362, 374, 375, 376, 377, 378, 363, 364, 365, 366, 367, 368, 369, 370, 371, 372, 373] (by decide +kernel) (by decide +kernel)
set_option maxRecDepth 20000 in
theorem gL_refuses_X4_picture : GoodIn wsL_refuses (wsV RL 24 RX4 yX4_picture wsX4_picture) := goodIn_app (goodIn_of _ (by decide +kernel)) ggL_refuses_X4_picture
set_option maxRecDepth 20000 in
theorem ggL_refuses_X4_color : GoodIn wsL_refuses wsX4_color := goodIn_r _ [306, 6, 88, 120, 121, 122, 123, 22, 124, 52, 53, 90, 4, 91, 89, 125, 126, 127, 354, 355, 356, 357, 358, 359, 360, 361, 362, 374, 375, 376, 377, 378, 363, 364, 365, 366, 367, 368, 369, 370, 371, 372, 373] (by decide +kernel) (by decide +kernel)
set_option maxRecDepth 20000 in
theorem gL_refuses_X4_color : GoodIn wsL_refuses (wsV RL 27 RX4 yX4_color wsX4_color) := goodIn_app (goodIn_of _ (by decide +kernel)) ggL_refuses_X4_color
set_option maxRecDepth 20000 in
theorem ggL_refuses_X4_broken : GoodIn wsL_refuses wsX4_broken := goodIn_r _ [310, 6, 89, 90, 4, 91, 197, 198, 199, 22, 200, 110, 354, 355, 356, 357, 358, 359, 360, 361, 362, 363, 364, 365, 366, 367, 368, 369, 370, 371, 372, 373] (by decide +kernel) (by decide +kernel)
set_option maxRecDepth 20000 in
theorem gL_refuses_X4_broken : GoodIn wsL_refuses (wsV RL 81 RX4 yX4_broken wsX4_broken) := goodIn_app (goodIn_of _ (by decide +kernel)) ggL_refuses_X4_broken
set_option maxRecDepth 20000 in
theorem ggL_refuses_X4_place : GoodIn wsL_refuses wsX4_place := goodIn_r _ [314, 6, 89, 90, 4, 91, 48, 49, 50, 22, 51, 52, 53, 54, 55, 56, 57, 58, 59, 60, 61, 62, 63, 64, 65, 66, 67, 68, 69, 70, 71, 72, 73, 74, 75, 76, 77, 28, 78, 79, 80, 81, 82, 125, 126, 127, 19, 20, 21, 23, 24, 25, 26, 27, 29, 30, 31, 32, 315, 316, 317, 318, 319, 10, 354, 355, 356, 357, 358, 359, 360, 361, 362, 363, 364, 365, 366, 367, 368, 369, 370, 371, 372, 373, 374, 375, 376, 377, 378] (by decide +kernel) (by decide +kernel)
set_option maxRecDepth 20000 in
theorem gL_refuses_X4_place : GoodIn wsL_refuses (wsV RL 31 RX4 yX4_place wsX4_place) := goodIn_app (goodIn_of _ (by decide +kernel)) ggL_refuses_X4_place
set_option maxRecDepth 20000 in
theorem ggL_refuses_X4_columnAt : GoodIn wsL_refuses wsX4_columnAt := goodIn_r _ [323, 6, 121, 122, 123, 22, 124, 52, 53, 90, 4, 91, 89, 324, 62, 63, 57, 64, 65, 66, 67, 68, 69, 70, 71, 72, 73, 74, 75, 76, 77, 28, 78, 325, 80, 81, 82, 59, 354, 355, 356, 357, 358, 359, 360, 361, 362, 363, 364, 365, 366, 367, 368, 369, 370, 371, 372, 373, 374, 375, 376, 377, 378] (by decide +kernel) (by decide +kernel)
set_option maxRecDepth 20000 in
theorem gL_refuses_X4_columnAt : GoodIn wsL_refuses (wsV RL 21 RX4 yX4_columnAt wsX4_columnAt) := goodIn_app (goodIn_of _ (by decide +kernel)) ggL_refuses_X4_columnAt
set_option maxRecDepth 20000 in
theorem ggL_refuses_X4_gaps : GoodIn wsL_refuses wsX4_gaps := goodIn_r _ [329, 212, 6, 207, 89, 90, 4, 91, 213, 214, 215, 216, 217, 218, 219, 220, 221, 222, 223, 224, 225, 226, 49, 50, 22, 51, 52, 53, 54, 55, 56, 57, 58, 59, 60, 61, 62, 63, 64, 65, 66, 67, 68, 69, 70, 71, 72, 73, 74, 75, 76, 77, 28, 78, 79, 80, 81, 82, 34, 35, 36, 227, 38, 39, 40, 41, 42, 43, 228, 229, 230, 231, 232, 233, 234, 235, 236, 237, 238, 239, 240, 241, 242, 243, 244, 245, 246, 247, 248, 249, 250, 251, 252, 253, 27, 29, 254, 255, 256, 257, 258, 259, 260, 261, 330, 272, 273, 274, 331, 282, 283, 284, 332, 333, 334, 335, 336, 337, 354, 355, 356, 357, 358, 359, 360, 361, 362, 363, 364, 365, 366, 367, 368, 369, 370, 371, 372, 373, 385, 386, 387, 388, 389, 390, 391, 392, 393, 394, 395, 374, 375, 376, 377, 378] (by decide +kernel) (by decide +kernel)
set_option maxRecDepth 20000 in
theorem gL_refuses_X4_gaps : GoodIn wsL_refuses (wsV RL 40 RX4 yX4_gaps wsX4_gaps) := goodIn_app (goodIn_of _ (by decide +kernel)) ggL_refuses_X4_gaps
set_option maxRecDepth 20000 in
theorem ggL_refuses_X4_bestSpeed : GoodIn wsL_refuses wsX4_bestSpeed := goodIn_r _ [341, 212, 6, 342, 36, 343, 132, 205, 206, 89, 90, 4, 91, 213, 214, 215, 216, 217, 218, 219, 220, 221, 222, 223, 224, 225, 226, 49, 50, 22, 51, 52, 53, 54, 55, 56, 57, 58, 59, 60, 61, 62, 63, 64, 65, 66, 67, 68, 69, 70, 71, 72, 73, 74, 75, 76, 77, 28, 78, 79, 80, 81, 82, 34, 35, 227, 38, 39, 40, 41, 42, 43, 228, 229, 230, 19, 20, 21, 23, 24, 25, 26, 27, 29, 30, 31, 32, 33, 231, 232, 233, 234, 235, 236, 237, 238, 239, 240, 241, 242, 243, 244, 245, 246, 247, 248, 249, 250, 251, 252, 253, 254, 255, 256, 257, 258, 259, 260, 261, 344, 345, 346, 347, 207, 348, 196, 330, 272, 273, 274, 331, 282, 283, 284, 37, 354, 355, 356, 357, 358, 359, 360, 361, 362, 385, 386, 387, 388, 389, 390, 391, 392, 393, 394, 395, 363, 364, 365, 366, 367, 368, 369, 370, 371, 372, 373, 374, 375, 376, 377, 378] (by decide +kernel) (by decide +kernel)
set_option maxRecDepth 20000 in
theorem gL_refuses_X4_bestSpeed : GoodIn wsL_refuses (wsV RL 84 RX4 yX4_bestSpeed wsX4_bestSpeed) := goodIn_app (goodIn_of _ (by decide +kernel)) ggL_refuses_X4_bestSpeed
set_option maxRecDepth 20000 in
theorem ggL_refuses_X4_meetings : GoodIn wsL_refuses wsX4_meetings := goodIn_r _ [352, 6, 121, 122, 123, 22, 124, 52, 53, 90, 4, 91, 353, 55, 56, 57, 58, 59, 60, 61, 62, 63, 64, 65, 66, 67, 68, 69, 70, 71, 72, 73, 74, 75, 76, 77, 28, 78, 79, 80, 81, 82, 33, 34, 35, 36, 37, 38, 39, 40, 41, 42, 43, 354, 355, 356, 357, 358, 359, 360, 361, 362, 363, 364, 365, 366, 367, 368, 369, 370, 371, 372, 373, 374, 375, 376, 377, 378] (by decide +kernel) (by decide +kernel)
set_option maxRecDepth 20000 in
theorem gL_refuses_X4_meetings : GoodIn wsL_refuses (wsV RL 37 RX4 yX4_meetings wsX4_meetings) := goodIn_app (goodIn_of _ (by decide +kernel)) ggL_refuses_X4_meetings
theorem dL_refuses_0 : decode cL_refuses 0 = .ok (.aload_n 0, 1) := by decide +kernel
theorem dL_refuses_1 : decode cL_refuses 1 = .ok (.bipush 8, 2) := by decide +kernel
theorem dL_refuses_3 : decode cL_refuses 3 = .ok (.invokevirtual 15, 3) := by decide +kernel
theorem dL_refuses_6 : decode cL_refuses 6 = .ok (.istore_n 1, 1) := by decide +kernel
theorem dL_refuses_7 : decode cL_refuses 7 = .ok (.aload_n 0, 1) := by decide +kernel
theorem dL_refuses_8 : decode cL_refuses 8 = .ok (.iconst 0, 1) := by decide +kernel
theorem dL_refuses_9 : decode cL_refuses 9 = .ok (.invokevirtual 15, 3) := by decide +kernel
theorem dL_refuses_12 : decode cL_refuses 12 = .ok (.istore_n 2, 1) := by decide +kernel
theorem dL_refuses_13 : decode cL_refuses 13 = .ok (.aload_n 0, 1) := by decide +kernel
theorem dL_refuses_14 : decode cL_refuses 14 = .ok (.iconst 0, 1) := by decide +kernel
theorem dL_refuses_15 : decode cL_refuses 15 = .ok (.invokevirtual 53, 3) := by decide +kernel
theorem dL_refuses_18 : decode cL_refuses 18 = .ok (.bipush (-101), 2) := by decide +kernel
theorem dL_refuses_20 : decode cL_refuses 20 = .ok (.if_icmp .ne 156, 3) := by decide +kernel
theorem dL_refuses_23 : decode cL_refuses 23 = .ok (.aload_n 0, 1) := by decide +kernel
theorem dL_refuses_24 : decode cL_refuses 24 = .ok (.bipush 41, 2) := by decide +kernel
theorem dL_refuses_26 : decode cL_refuses 26 = .ok (.invokevirtual 53, 3) := by decide +kernel
theorem dL_refuses_29 : decode cL_refuses 29 = .ok (.bipush (-101), 2) := by decide +kernel
theorem dL_refuses_31 : decode cL_refuses 31 = .ok (.if_icmp .ne 145, 3) := by decide +kernel
theorem dL_refuses_34 : decode cL_refuses 34 = .ok (.aload_n 0, 1) := by decide +kernel
theorem dL_refuses_35 : decode cL_refuses 35 = .ok (.iload_n 2, 1) := by decide +kernel
theorem dL_refuses_36 : decode cL_refuses 36 = .ok (.iconst 0, 1) := by decide +kernel
theorem dL_refuses_37 : decode cL_refuses 37 = .ok (.iconst 0, 1) := by decide +kernel
theorem dL_refuses_38 : decode cL_refuses 38 = .ok (.iconst 0, 1) := by decide +kernel
theorem dL_refuses_39 : decode cL_refuses 39 = .ok (.invokevirtual 56, 3) := by decide +kernel
theorem dL_refuses_42 : decode cL_refuses 42 = .ok (.bipush (-101), 2) := by decide +kernel
theorem dL_refuses_44 : decode cL_refuses 44 = .ok (.if_icmp .ne 132, 3) := by decide +kernel
theorem dL_refuses_47 : decode cL_refuses 47 = .ok (.aload_n 0, 1) := by decide +kernel
theorem dL_refuses_48 : decode cL_refuses 48 = .ok (.iload_n 2, 1) := by decide +kernel
theorem dL_refuses_49 : decode cL_refuses 49 = .ok (.iconst 0, 1) := by decide +kernel
theorem dL_refuses_50 : decode cL_refuses 50 = .ok (.iconst 1, 1) := by decide +kernel
theorem dL_refuses_51 : decode cL_refuses 51 = .ok (.invokevirtual 60, 3) := by decide +kernel
theorem dL_refuses_54 : decode cL_refuses 54 = .ok (.bipush (-101), 2) := by decide +kernel
theorem dL_refuses_56 : decode cL_refuses 56 = .ok (.if_icmp .ne 120, 3) := by decide +kernel
theorem dL_refuses_59 : decode cL_refuses 59 = .ok (.aload_n 0, 1) := by decide +kernel
theorem dL_refuses_60 : decode cL_refuses 60 = .ok (.iconst (-1), 1) := by decide +kernel
theorem dL_refuses_61 : decode cL_refuses 61 = .ok (.iconst 0, 1) := by decide +kernel
theorem dL_refuses_62 : decode cL_refuses 62 = .ok (.invokevirtual 63, 3) := by decide +kernel
theorem dL_refuses_65 : decode cL_refuses 65 = .ok (.bipush (-101), 2) := by decide +kernel
theorem dL_refuses_67 : decode cL_refuses 67 = .ok (.if_icmp .ne 109, 3) := by decide +kernel
theorem dL_refuses_70 : decode cL_refuses 70 = .ok (.aload_n 0, 1) := by decide +kernel
theorem dL_refuses_71 : decode cL_refuses 71 = .ok (.iload_n 2, 1) := by decide +kernel
theorem dL_refuses_72 : decode cL_refuses 72 = .ok (.invokevirtual 66, 3) := by decide +kernel
theorem dL_refuses_75 : decode cL_refuses 75 = .ok (.bipush (-101), 2) := by decide +kernel
theorem dL_refuses_77 : decode cL_refuses 77 = .ok (.if_icmp .ne 99, 3) := by decide +kernel
theorem dL_refuses_80 : decode cL_refuses 80 = .ok (.aload_n 0, 1) := by decide +kernel
theorem dL_refuses_81 : decode cL_refuses 81 = .ok (.iconst 2, 1) := by decide +kernel
theorem dL_refuses_82 : decode cL_refuses 82 = .ok (.invokevirtual 69, 3) := by decide +kernel
theorem dL_refuses_85 : decode cL_refuses 85 = .ok (.bipush (-101), 2) := by decide +kernel
theorem dL_refuses_87 : decode cL_refuses 87 = .ok (.if_icmp .ne 89, 3) := by decide +kernel
theorem dL_refuses_90 : decode cL_refuses 90 = .ok (.aload_n 0, 1) := by decide +kernel
theorem dL_refuses_91 : decode cL_refuses 91 = .ok (.iconst 0, 1) := by decide +kernel
theorem dL_refuses_92 : decode cL_refuses 92 = .ok (.iconst (-1), 1) := by decide +kernel
theorem dL_refuses_93 : decode cL_refuses 93 = .ok (.iconst 0, 1) := by decide +kernel
theorem dL_refuses_94 : decode cL_refuses 94 = .ok (.invokevirtual 72, 3) := by decide +kernel
theorem dL_refuses_97 : decode cL_refuses 97 = .ok (.bipush (-101), 2) := by decide +kernel
theorem dL_refuses_99 : decode cL_refuses 99 = .ok (.if_icmp .ne 77, 3) := by decide +kernel
theorem dL_refuses_102 : decode cL_refuses 102 = .ok (.aload_n 0, 1) := by decide +kernel
theorem dL_refuses_103 : decode cL_refuses 103 = .ok (.iconst 0, 1) := by decide +kernel
theorem dL_refuses_104 : decode cL_refuses 104 = .ok (.bipush (-61), 2) := by decide +kernel
theorem dL_refuses_106 : decode cL_refuses 106 = .ok (.invokevirtual 75, 3) := by decide +kernel
theorem dL_refuses_109 : decode cL_refuses 109 = .ok (.bipush (-101), 2) := by decide +kernel
theorem dL_refuses_111 : decode cL_refuses 111 = .ok (.if_icmp .ne 65, 3) := by decide +kernel
theorem dL_refuses_114 : decode cL_refuses 114 = .ok (.aload_n 0, 1) := by decide +kernel
theorem dL_refuses_115 : decode cL_refuses 115 = .ok (.iconst 1, 1) := by decide +kernel
theorem dL_refuses_116 : decode cL_refuses 116 = .ok (.iconst 0, 1) := by decide +kernel
theorem dL_refuses_117 : decode cL_refuses 117 = .ok (.invokevirtual 75, 3) := by decide +kernel
theorem dL_refuses_120 : decode cL_refuses 120 = .ok (.bipush (-101), 2) := by decide +kernel
theorem dL_refuses_122 : decode cL_refuses 122 = .ok (.if_icmp .ne 54, 3) := by decide +kernel
theorem dL_refuses_125 : decode cL_refuses 125 = .ok (.aload_n 0, 1) := by decide +kernel
theorem dL_refuses_126 : decode cL_refuses 126 = .ok (.iconst 3, 1) := by decide +kernel
theorem dL_refuses_127 : decode cL_refuses 127 = .ok (.iconst 0, 1) := by decide +kernel
theorem dL_refuses_128 : decode cL_refuses 128 = .ok (.invokevirtual 75, 3) := by decide +kernel
theorem dL_refuses_131 : decode cL_refuses 131 = .ok (.bipush (-101), 2) := by decide +kernel
theorem dL_refuses_133 : decode cL_refuses 133 = .ok (.if_icmp .ne 43, 3) := by decide +kernel
theorem dL_refuses_136 : decode cL_refuses 136 = .ok (.aload_n 0, 1) := by decide +kernel
theorem dL_refuses_137 : decode cL_refuses 137 = .ok (.iconst 2, 1) := by decide +kernel
theorem dL_refuses_138 : decode cL_refuses 138 = .ok (.sipush 10000, 3) := by decide +kernel
theorem dL_refuses_141 : decode cL_refuses 141 = .ok (.invokevirtual 75, 3) := by decide +kernel
theorem dL_refuses_144 : decode cL_refuses 144 = .ok (.bipush (-101), 2) := by decide +kernel
theorem dL_refuses_146 : decode cL_refuses 146 = .ok (.if_icmp .ne 30, 3) := by decide +kernel
theorem dL_refuses_149 : decode cL_refuses 149 = .ok (.aload_n 0, 1) := by decide +kernel
theorem dL_refuses_150 : decode cL_refuses 150 = .ok (.bipush 101, 2) := by decide +kernel
theorem dL_refuses_152 : decode cL_refuses 152 = .ok (.invokevirtual 47, 3) := by decide +kernel
theorem dL_refuses_155 : decode cL_refuses 155 = .ok (.bipush (-101), 2) := by decide +kernel
theorem dL_refuses_157 : decode cL_refuses 157 = .ok (.if_icmp .ne 19, 3) := by decide +kernel
theorem dL_refuses_160 : decode cL_refuses 160 = .ok (.aload_n 0, 1) := by decide +kernel
theorem dL_refuses_161 : decode cL_refuses 161 = .ok (.sipush 256, 3) := by decide +kernel
theorem dL_refuses_164 : decode cL_refuses 164 = .ok (.invokevirtual 78, 3) := by decide +kernel
theorem dL_refuses_167 : decode cL_refuses 167 = .ok (.bipush (-101), 2) := by decide +kernel
theorem dL_refuses_169 : decode cL_refuses 169 = .ok (.if_icmp .ne 7, 3) := by decide +kernel
theorem dL_refuses_172 : decode cL_refuses 172 = .ok (.iconst 1, 1) := by decide +kernel
theorem dL_refuses_173 : decode cL_refuses 173 = .ok (.goto 4, 3) := by decide +kernel
theorem dL_refuses_176 : decode cL_refuses 176 = .ok (.iconst 0, 1) := by decide +kernel
theorem dL_refuses_177 : decode cL_refuses 177 = .ok (.istore_n 3, 1) := by decide +kernel
theorem dL_refuses_178 : decode cL_refuses 178 = .ok (.iload_n 3, 1) := by decide +kernel
theorem dL_refuses_179 : decode cL_refuses 179 = .ok (.ifCond .eq 118, 3) := by decide +kernel
theorem dL_refuses_182 : decode cL_refuses 182 = .ok (.aload_n 0, 1) := by decide +kernel
theorem dL_refuses_183 : decode cL_refuses 183 = .ok (.iconst (-1), 1) := by decide +kernel
theorem dL_refuses_184 : decode cL_refuses 184 = .ok (.invokevirtual 15, 3) := by decide +kernel
theorem dL_refuses_187 : decode cL_refuses 187 = .ok (.bipush (-101), 2) := by decide +kernel
theorem dL_refuses_189 : decode cL_refuses 189 = .ok (.if_icmp .ne 108, 3) := by decide +kernel
theorem dL_refuses_192 : decode cL_refuses 192 = .ok (.aload_n 0, 1) := by decide +kernel
theorem dL_refuses_193 : decode cL_refuses 193 = .ok (.iconst (-1), 1) := by decide +kernel
theorem dL_refuses_194 : decode cL_refuses 194 = .ok (.invokevirtual 34, 3) := by decide +kernel
theorem dL_refuses_197 : decode cL_refuses 197 = .ok (.bipush (-101), 2) := by decide +kernel
theorem dL_refuses_199 : decode cL_refuses 199 = .ok (.if_icmp .ne 98, 3) := by decide +kernel
theorem dL_refuses_202 : decode cL_refuses 202 = .ok (.aload_n 0, 1) := by decide +kernel
theorem dL_refuses_203 : decode cL_refuses 203 = .ok (.iload_n 2, 1) := by decide +kernel
theorem dL_refuses_204 : decode cL_refuses 204 = .ok (.iconst 0, 1) := by decide +kernel
theorem dL_refuses_205 : decode cL_refuses 205 = .ok (.invokevirtual 24, 3) := by decide +kernel
theorem dL_refuses_208 : decode cL_refuses 208 = .ok (.bipush (-101), 2) := by decide +kernel
theorem dL_refuses_210 : decode cL_refuses 210 = .ok (.if_icmp .ne 87, 3) := by decide +kernel
theorem dL_refuses_213 : decode cL_refuses 213 = .ok (.aload_n 0, 1) := by decide +kernel
theorem dL_refuses_214 : decode cL_refuses 214 = .ok (.iload_n 2, 1) := by decide +kernel
theorem dL_refuses_215 : decode cL_refuses 215 = .ok (.iconst 0, 1) := by decide +kernel
theorem dL_refuses_216 : decode cL_refuses 216 = .ok (.iconst 0, 1) := by decide +kernel
theorem dL_refuses_217 : decode cL_refuses 217 = .ok (.invokevirtual 27, 3) := by decide +kernel
theorem dL_refuses_220 : decode cL_refuses 220 = .ok (.bipush (-101), 2) := by decide +kernel
theorem dL_refuses_222 : decode cL_refuses 222 = .ok (.if_icmp .ne 75, 3) := by decide +kernel
theorem dL_refuses_225 : decode cL_refuses 225 = .ok (.aload_n 0, 1) := by decide +kernel
theorem dL_refuses_226 : decode cL_refuses 226 = .ok (.iconst (-1), 1) := by decide +kernel
theorem dL_refuses_227 : decode cL_refuses 227 = .ok (.iconst 0, 1) := by decide +kernel
theorem dL_refuses_228 : decode cL_refuses 228 = .ok (.invokevirtual 81, 3) := by decide +kernel
theorem dL_refuses_231 : decode cL_refuses 231 = .ok (.bipush (-101), 2) := by decide +kernel
theorem dL_refuses_233 : decode cL_refuses 233 = .ok (.if_icmp .ne 64, 3) := by decide +kernel
theorem dL_refuses_236 : decode cL_refuses 236 = .ok (.aload_n 0, 1) := by decide +kernel
theorem dL_refuses_237 : decode cL_refuses 237 = .ok (.iconst (-1), 1) := by decide +kernel
theorem dL_refuses_238 : decode cL_refuses 238 = .ok (.iconst 0, 1) := by decide +kernel
theorem dL_refuses_239 : decode cL_refuses 239 = .ok (.iconst 0, 1) := by decide +kernel
theorem dL_refuses_240 : decode cL_refuses 240 = .ok (.invokevirtual 31, 3) := by decide +kernel
theorem dL_refuses_243 : decode cL_refuses 243 = .ok (.bipush (-101), 2) := by decide +kernel
theorem dL_refuses_245 : decode cL_refuses 245 = .ok (.if_icmp .ne 52, 3) := by decide +kernel
theorem dL_refuses_248 : decode cL_refuses 248 = .ok (.aload_n 0, 1) := by decide +kernel
theorem dL_refuses_249 : decode cL_refuses 249 = .ok (.iload_n 2, 1) := by decide +kernel
theorem dL_refuses_250 : decode cL_refuses 250 = .ok (.iconst 0, 1) := by decide +kernel
theorem dL_refuses_251 : decode cL_refuses 251 = .ok (.invokevirtual 21, 3) := by decide +kernel
theorem dL_refuses_254 : decode cL_refuses 254 = .ok (.bipush (-101), 2) := by decide +kernel
theorem dL_refuses_256 : decode cL_refuses 256 = .ok (.if_icmp .ne 41, 3) := by decide +kernel
theorem dL_refuses_259 : decode cL_refuses 259 = .ok (.aload_n 0, 1) := by decide +kernel
theorem dL_refuses_260 : decode cL_refuses 260 = .ok (.sipush 201, 3) := by decide +kernel
theorem dL_refuses_263 : decode cL_refuses 263 = .ok (.invokevirtual 40, 3) := by decide +kernel
theorem dL_refuses_266 : decode cL_refuses 266 = .ok (.bipush (-101), 2) := by decide +kernel
theorem dL_refuses_268 : decode cL_refuses 268 = .ok (.if_icmp .ne 29, 3) := by decide +kernel
theorem dL_refuses_271 : decode cL_refuses 271 = .ok (.aload_n 0, 1) := by decide +kernel
theorem dL_refuses_272 : decode cL_refuses 272 = .ok (.bipush 41, 2) := by decide +kernel
theorem dL_refuses_274 : decode cL_refuses 274 = .ok (.invokevirtual 84, 3) := by decide +kernel
theorem dL_refuses_277 : decode cL_refuses 277 = .ok (.bipush (-101), 2) := by decide +kernel
theorem dL_refuses_279 : decode cL_refuses 279 = .ok (.if_icmp .ne 18, 3) := by decide +kernel
theorem dL_refuses_282 : decode cL_refuses 282 = .ok (.aload_n 0, 1) := by decide +kernel
theorem dL_refuses_283 : decode cL_refuses 283 = .ok (.iload_n 2, 1) := by decide +kernel
theorem dL_refuses_284 : decode cL_refuses 284 = .ok (.iconst 0, 1) := by decide +kernel
theorem dL_refuses_285 : decode cL_refuses 285 = .ok (.invokevirtual 37, 3) := by decide +kernel
theorem dL_refuses_288 : decode cL_refuses 288 = .ok (.bipush (-101), 2) := by decide +kernel
theorem dL_refuses_290 : decode cL_refuses 290 = .ok (.if_icmp .ne 7, 3) := by decide +kernel
theorem dL_refuses_293 : decode cL_refuses 293 = .ok (.iconst 1, 1) := by decide +kernel
theorem dL_refuses_294 : decode cL_refuses 294 = .ok (.goto 4, 3) := by decide +kernel

theorem dL_refuses_297 : decode cL_refuses 297 = .ok (.iconst 0, 1) := by decide +kernel
theorem dL_refuses_298 : decode cL_refuses 298 = .ok (.istore_n 3, 1) := by decide +kernel
theorem dL_refuses_299 : decode cL_refuses 299 = .ok (.iload_n 3, 1) := by decide +kernel
theorem dL_refuses_300 : decode cL_refuses 300 = .ok (.ifCond .eq 26, 3) := by decide +kernel
theorem dL_refuses_303 : decode cL_refuses 303 = .ok (.aload_n 0, 1) := by decide +kernel
theorem dL_refuses_304 : decode cL_refuses 304 = .ok (.bipush 8, 2) := by decide +kernel
theorem dL_refuses_306 : decode cL_refuses 306 = .ok (.invokevirtual 15, 3) := by decide +kernel
theorem dL_refuses_309 : decode cL_refuses 309 = .ok (.iload_n 1, 1) := by decide +kernel
theorem dL_refuses_310 : decode cL_refuses 310 = .ok (.if_icmp .ne 16, 3) := by decide +kernel
theorem dL_refuses_313 : decode cL_refuses 313 = .ok (.aload_n 0, 1) := by decide +kernel
theorem dL_refuses_314 : decode cL_refuses 314 = .ok (.iconst 0, 1) := by decide +kernel
theorem dL_refuses_315 : decode cL_refuses 315 = .ok (.invokevirtual 15, 3) := by decide +kernel
theorem dL_refuses_318 : decode cL_refuses 318 = .ok (.iload_n 2, 1) := by decide +kernel
theorem dL_refuses_319 : decode cL_refuses 319 = .ok (.if_icmp .ne 7, 3) := by decide +kernel
theorem dL_refuses_322 : decode cL_refuses 322 = .ok (.iconst 1, 1) := by decide +kernel
theorem dL_refuses_323 : decode cL_refuses 323 = .ok (.goto 4, 3) := by decide +kernel
theorem dL_refuses_326 : decode cL_refuses 326 = .ok (.iconst 0, 1) := by decide +kernel
theorem dL_refuses_327 : decode cL_refuses 327 = .ok (.ireturn, 1) := by decide +kernel
set_option maxRecDepth 20000 in
theorem ggL_law_X4_init : GoodIn wsL_law wsX4_init := goodIn_r _ [5, 6, 7, 8, 9, 10, 11, 12, 13, 14, 15, 16, 17, 18, 19, 20, 21, 22, 23, 24, 25, 26, 27, 28, 29, 30, 31, 32, 33, 34, 35, 36, 37, 38, 39, 40, 41, 42, 43, 44, 45, 46, 47, 48, 49, 50, 51, 52, 53, 54, 55, 56, 57, 58, 59, 60, 61, 62, 63, 64, 65, 66, 429, 430, 431, 432, 433, 434, 435, 436, 437, 438, 439, 420, 421, 422, 423, 424, 425, 426, 427, 428, 440, 441, 442, 443, 444, 445, 446, 447, 448, 449, 450, 451, 452, 453, 454, 455, 456, 457, 458, 459, 460, 461] (by decide +kernel) (by decide +kernel)
set_option maxRecDepth 20000 in
theorem gL_law_X4_init : GoodIn wsL_law (wsX4_init) := ggL_law_X4_init
set_option maxRecDepth 20000 in
theorem ggL_law_L_refuses_0 : GoodIn wsL_law [Cond.code yL_refuses cL_refuses 4 (some .boolean)] := goodIn_r _ [70] (by decide +kernel) (by decide +kernel)
set_option maxRecDepth 20000 in
theorem ggL_law_L_refuses_1 : GoodIn wsL_law wsL_refuses_r1 := goodIn_r _ [71, 72, 73, 2, 74, 12, 75, 76, 77, 78, 79, 80, 15, 18, 81, 82, 83, 84, 85, 86, 87, 11, 88, 38] (by decide +kernel) (by decide +kernel)
set_option maxRecDepth 20000 in
theorem ggL_law_L_refuses_2 : GoodIn wsL_law wsL_refuses_r2 := goodIn_r _ [42, 89, 90, 91, 92, 46, 45, 93, 94, 95, 96, 97, 98, 99, 100, 101, 102, 103, 104, 105, 106, 107, 108, 109] (by decide +kernel) (by decide +kernel)
set_option maxRecDepth 20000 in
theorem ggL_law_L_refuses_3 : GoodIn wsL_law wsL_refuses_r3 := goodIn_r _ [110, 111, 112, 33, 35, 113, 114, 115, 48, 116, 55, 56, 117, 118, 119, 120, 53, 121, 122, 123, 124, 125, 126, 127] (by decide +kernel) (by decide +kernel)
set_option maxRecDepth 20000 in
theorem ggL_law_L_refuses_4 : GoodIn wsL_law wsL_refuses_r4 := goodIn_r _ [128, 52, 54, 129, 130, 131, 132, 133, 134, 135, 136, 137, 138, 139, 140, 141, 142, 143, 144, 145, 146, 147, 148, 14] (by decide +kernel) (by decide +kernel)
set_option maxRecDepth 20000 in
theorem ggL_law_L_refuses_5 : GoodIn wsL_law wsL_refuses_r5 := goodIn_r _ [13, 149, 150, 151, 152, 36, 37, 39, 40, 153, 154, 155, 156, 44, 157, 158, 159, 160, 161, 162, 163, 164, 165, 166] (by decide +kernel) (by decide +kernel)
set_option maxRecDepth 20000 in
theorem ggL_law_L_refuses_6 : GoodIn wsL_law wsL_refuses_r6 := goodIn_r _ [167, 168, 169, 170, 171, 172, 173, 174, 175, 176, 177, 178, 179, 180, 181, 182, 183, 184, 185, 186, 187, 188, 189, 190] (by decide +kernel) (by decide +kernel)
set_option maxRecDepth 20000 in
theorem ggL_law_L_refuses_7 : GoodIn wsL_law wsL_refuses_r7 := goodIn_r _ [191, 192, 193, 22, 17, 194, 195, 196, 197, 198, 199, 21, 200, 201, 202, 203, 60, 204, 205, 206, 207, 208, 209, 210] (by decide +kernel) (by decide +kernel)
set_option maxRecDepth 20000 in
theorem ggL_law_L_refuses_8 : GoodIn wsL_law wsL_refuses_r8 := goodIn_r _ [211, 212, 213, 214, 215, 216, 217, 218, 219, 220, 221, 222, 223, 224, 225, 226, 227, 228, 229, 230, 231, 232, 233, 234] (by decide +kernel) (by decide +kernel)
set_option maxRecDepth 20000 in
theorem ggL_law_L_refuses_9 : GoodIn wsL_law wsL_refuses_r9 := goodIn_r _ [235, 236, 237, 238, 239, 240, 241, 242, 243, 244, 245, 246, 247, 248, 249, 250, 251, 252, 253, 26, 254, 255, 256, 25] (by decide +kernel) (by decide +kernel)
set_option maxRecDepth 20000 in
theorem ggL_law_L_refuses_10 : GoodIn wsL_law wsL_refuses_r10 := goodIn_r _ [257, 258, 259, 260, 261, 262, 64, 65, 263, 264, 265, 266, 267, 268, 269, 270, 271, 272, 273, 274, 275, 276, 277, 278] (by decide +kernel) (by decide +kernel)
set_option maxRecDepth 20000 in
theorem ggL_law_L_refuses_11 : GoodIn wsL_law wsL_refuses_r11 := goodIn_r _ [279, 280, 66, 281, 282, 283, 284, 285, 286, 287, 288, 289, 290, 291, 292, 293, 294, 295, 296, 297, 298, 299, 300, 301] (by decide +kernel) (by decide +kernel)
set_option maxRecDepth 20000 in
theorem ggL_law_L_refuses_12 : GoodIn wsL_law wsL_refuses_r12 := goodIn_r _ [302, 303, 304, 305, 306, 307, 308, 309, 310, 311, 312, 313, 314, 315, 316, 317, 318, 319, 320, 321, 322, 323, 324, 325] (by decide +kernel) (by decide +kernel)
set_option maxRecDepth 20000 in
theorem ggL_law_L_refuses_13 : GoodIn wsL_law wsL_refuses_r13 := goodIn_r _ [326, 327, 328, 329, 330, 331, 332, 333, 334, 335, 336, 337, 338, 339, 340, 341, 342, 343, 344, 345, 346, 347, 348, 349] (by decide +kernel) (by decide +kernel)
set_option maxRecDepth 20000 in
theorem ggL_law_L_refuses_14 : GoodIn wsL_law wsL_refuses_r14 := goodIn_r _ [350, 351, 352, 353, 354, 355, 356, 357, 358, 359, 360, 361, 362, 363, 364, 365, 366, 367, 368, 369, 370, 371, 372, 373] (by decide +kernel) (by decide +kernel)
set_option maxRecDepth 20000 in
theorem ggL_law_L_refuses_15 : GoodIn wsL_law wsL_refuses_r15 := goodIn_r _ [374, 375, 376, 377, 378, 28, 379, 380, 381, 382, 383, 384, 385, 386, 387, 388, 389] (by decide +kernel) (by decide +kernel)
set_option maxRecDepth 20000 in
theorem ggL_law_L_refuses_16 : GoodIn wsL_law wsX40 := goodIn_r _ [420, 421, 422, 423, 424, 425, 426, 427, 428] (by decide +kernel) (by decide +kernel)
set_option maxRecDepth 20000 in
theorem ggL_law_L_refuses_17 : GoodIn wsL_law wsX20 := goodIn_r _ [429, 430, 431, 432, 433, 434, 435, 436, 437, 438, 439] (by decide +kernel) (by decide +kernel)
set_option maxRecDepth 20000 in
theorem ggL_law_L_refuses_18 : GoodIn wsL_law wsX00 := goodIn_r _ [457, 458, 459, 460, 461] (by decide +kernel) (by decide +kernel)
set_option maxRecDepth 20000 in
theorem ggL_law_L_refuses_19 : GoodIn wsL_law wsX10 := goodIn_r _ [440, 441, 442, 443, 444, 445] (by decide +kernel) (by decide +kernel)
set_option maxRecDepth 20000 in
theorem ggL_law_L_refuses_20 : GoodIn wsL_law wsX30 := goodIn_r _ [446, 447, 448, 449, 450, 451, 452, 453, 454, 455, 456] (by decide +kernel) (by decide +kernel)
theorem ggL_law_L_refuses : GoodIn wsL_law wsL_refuses := goodIn_app (a := [Cond.code yL_refuses cL_refuses 4 (some .boolean)]) ggL_law_L_refuses_0 (goodIn_app (goodIn_app (goodIn_app (goodIn_app (goodIn_app (goodIn_app ggL_law_L_refuses_1 (goodIn_app ggL_law_L_refuses_2 (goodIn_app ggL_law_L_refuses_3 (goodIn_app ggL_law_L_refuses_4 (goodIn_app ggL_law_L_refuses_5 (goodIn_app ggL_law_L_refuses_6 (goodIn_app ggL_law_L_refuses_7 (goodIn_app ggL_law_L_refuses_8 (goodIn_app ggL_law_L_refuses_9 (goodIn_app ggL_law_L_refuses_10 (goodIn_app ggL_law_L_refuses_11 (goodIn_app ggL_law_L_refuses_12 (goodIn_app ggL_law_L_refuses_13 (goodIn_app ggL_law_L_refuses_14 ggL_law_L_refuses_15)))))))))))))) ggL_law_L_refuses_16) ggL_law_L_refuses_17) ggL_law_L_refuses_18) ggL_law_L_refuses_19) ggL_law_L_refuses_20)
set_option maxRecDepth 20000 in
theorem gL_law_L_refuses : GoodIn wsL_law (va_wsS RL 88 yL_refuses wsL_refuses) := goodIn_app (goodIn_of _ (by decide +kernel)) ggL_law_L_refuses
set_option maxRecDepth 20000 in
theorem ggL_law_X4_undo : GoodIn wsL_law wsX4_undo := goodIn_r _ [393, 15, 12, 13, 14, 149, 150, 151, 11, 152, 33, 35, 36, 37, 38, 39, 40, 42, 153, 154, 155, 156, 44, 45, 46, 157, 158, 159, 48, 160, 52, 53, 54, 55, 56, 161, 420, 421, 422, 423, 424, 425, 426, 427, 428, 429, 430, 431, 432, 433, 434, 435, 436, 437, 438, 439, 457, 458, 459, 460, 461] (by decide +kernel) (by decide +kernel)
set_option maxRecDepth 20000 in
theorem gL_law_X4_undo : GoodIn wsL_law (wsV RL 92 RX4 yX4_undo wsX4_undo) := goodIn_app (goodIn_of _ (by decide +kernel)) ggL_law_X4_undo
set_option maxRecDepth 20000 in
theorem ggL_law_L_pictures_0 : GoodIn wsL_law [Cond.code yL_pictures cL_pictures 9 (some .boolean)] := goodIn_r _ [396] (by decide +kernel) (by decide +kernel)
set_option maxRecDepth 20000 in
theorem ggL_law_L_pictures_1 : GoodIn wsL_law wsL_pictures_r1 := goodIn_r _ [71, 72, 73, 2, 74, 12, 75, 76, 77, 78, 79, 80, 15, 18, 81, 82, 83, 84, 85, 86, 87, 11, 88, 38] (by decide +kernel) (by decide +kernel)
set_option maxRecDepth 20000 in
theorem ggL_law_L_pictures_2 : GoodIn wsL_law wsL_pictures_r2 := goodIn_r _ [42, 89, 90, 91, 92, 46, 45, 93, 94, 95, 96, 97, 98, 99, 100, 101, 102, 103, 104, 105, 106, 107, 108, 109] (by decide +kernel) (by decide +kernel)
set_option maxRecDepth 20000 in
theorem ggL_law_L_pictures_3 : GoodIn wsL_law wsL_pictures_r3 := goodIn_r _ [110, 111, 112, 33, 35, 113, 114, 115, 48, 116, 55, 56, 117, 118, 119, 120, 53, 121, 122, 123, 124, 125, 126, 127] (by decide +kernel) (by decide +kernel)
set_option maxRecDepth 20000 in
theorem ggL_law_L_pictures_4 : GoodIn wsL_law wsL_pictures_r4 := goodIn_r _ [128, 52, 54, 129, 130, 131, 132, 133, 134, 135, 330, 331, 332, 333, 141, 183, 184, 189, 167, 168, 169, 170, 143, 144] (by decide +kernel) (by decide +kernel)
set_option maxRecDepth 20000 in
theorem ggL_law_L_pictures_5 : GoodIn wsL_law wsL_pictures_r5 := goodIn_r _ [334, 335, 336, 337, 338, 339, 357, 358, 359, 360, 142, 361, 362, 385, 386, 387, 388, 389, 363, 364, 365, 366, 26, 249] (by decide +kernel) (by decide +kernel)
set_option maxRecDepth 20000 in
theorem ggL_law_L_pictures_6 : GoodIn wsL_law wsL_pictures_r6 := goodIn_r _ [254, 255, 256, 25, 257, 258, 259, 260, 261, 262, 64, 65, 263, 264, 265, 266, 267, 268, 269, 270, 271, 272, 273, 274] (by decide +kernel) (by decide +kernel)
set_option maxRecDepth 20000 in
theorem ggL_law_L_pictures_7 : GoodIn wsL_law wsL_pictures_r7 := goodIn_r _ [275, 276, 277, 278, 279, 280, 66, 281, 282, 283, 284, 285, 286, 287, 288, 289, 290, 291, 292, 293, 294, 295, 296, 297] (by decide +kernel) (by decide +kernel)
set_option maxRecDepth 20000 in
theorem ggL_law_L_pictures_8 : GoodIn wsL_law wsL_pictures_r8 := goodIn_r _ [298, 367, 309, 310, 311, 368, 319, 320, 321, 369, 370, 371, 372, 373, 374] (by decide +kernel) (by decide +kernel)
set_option maxRecDepth 20000 in
theorem ggL_law_L_pictures_9 : GoodIn wsL_law wsX40 := goodIn_r _ [420, 421, 422, 423, 424, 425, 426, 427, 428] (by decide +kernel) (by decide +kernel)
set_option maxRecDepth 20000 in
theorem ggL_law_L_pictures_10 : GoodIn wsL_law wsX20 := goodIn_r _ [429, 430, 431, 432, 433, 434, 435, 436, 437, 438, 439] (by decide +kernel) (by decide +kernel)
set_option maxRecDepth 20000 in
theorem ggL_law_L_pictures_11 : GoodIn wsL_law wsX00 := goodIn_r _ [457, 458, 459, 460, 461] (by decide +kernel) (by decide +kernel)
set_option maxRecDepth 20000 in
theorem ggL_law_L_pictures_12 : GoodIn wsL_law wsX30 := goodIn_r _ [446, 447, 448, 449, 450, 451, 452, 453, 454, 455, 456] (by decide +kernel) (by decide +kernel)
theorem ggL_law_L_pictures : GoodIn wsL_law wsL_pictures := goodIn_app (a := [Cond.code yL_pictures cL_pictures 9 (some .boolean)]) ggL_law_L_pictures_0 (goodIn_app (goodIn_app (goodIn_app (goodIn_app (goodIn_app ggL_law_L_pictures_1 (goodIn_app ggL_law_L_pictures_2 (goodIn_app ggL_law_L_pictures_3 (goodIn_app ggL_law_L_pictures_4 (goodIn_app ggL_law_L_pictures_5 (goodIn_app ggL_law_L_pictures_6 (goodIn_app ggL_law_L_pictures_7 ggL_law_L_pictures_8))))))) ggL_law_L_pictures_9) ggL_law_L_pictures_10) ggL_law_L_pictures_11) ggL_law_L_pictures_12)
set_option maxRecDepth 20000 in
theorem gL_law_L_pictures : GoodIn wsL_law (va_wsS RL 95 yL_pictures wsL_pictures) := goodIn_app (goodIn_of _ (by decide +kernel)) ggL_law_L_pictures
set_option maxRecDepth 20000 in
theorem ggL_law_X4_gaps : GoodIn wsL_law wsX4_gaps := goodIn_r _ [366, 26, 12, 249, 142, 143, 2, 144, 254, 255, 256, 25, 257, 258, 259, 260, 261, 262, 64, 65, 263, 264, 110, 111, 11, 112, 33, 35, 113, 114, 115, 48, 116, 55, 56, 117, 118, 119, 120, 53, 121, 122, 123, 124, 125, 126, 127, 128, 52, 54, 129, 130, 91, 131, 132, 133, 134, 135, 95, 96, 97, 265, 99, 100, 101, 102, 103, 104, 266, 267, 268, 269, 270, 271, 272, 273, 274, 275, 276, 277, 278, 279, 280, 66, 281, 282, 283, 284, 285, 286, 287, 288, 289, 290, 90, 92, 291, 292, 293, 294, 295, 296, 297, 298, 367, 309, 310, 311, 368, 319, 320, 321, 369, 370, 371, 372, 373, 374, 420, 421, 422, 423, 424, 425, 426, 427, 428, 429, 430, 431, 432, 433, 434, 435, 436, 437, 438, 439, 446, 447, 448, 449, 450, 451, 452, 453, 454, 455, 456, 457, 458, 459, 460, 461] (by decide +kernel) (by decide +kernel)
set_option maxRecDepth 20000 in
theorem gL_law_X4_gaps : GoodIn wsL_law (wsV RL 40 RX4 yX4_gaps wsX4_gaps) := goodIn_app (goodIn_of _ (by decide +kernel)) ggL_law_X4_gaps
set_option maxRecDepth 20000 in
theorem ggL_law_X4_count : GoodIn wsL_law wsX4_count := goodIn_r _ [74, 12, 75, 76, 77, 78, 79, 80, 15, 18, 81, 82, 83, 2, 84, 85, 86, 87, 11, 88, 38, 42, 89, 90, 91, 92, 46, 45, 93, 94, 95, 96, 97, 98, 99, 100, 101, 102, 103, 104, 105, 106, 107, 108, 109, 110, 111, 112, 33, 35, 113, 114, 115, 48, 116, 55, 56, 117, 118, 119, 120, 53, 121, 122, 123, 124, 125, 126, 127, 128, 52, 54, 129, 130, 131, 132, 133, 134, 135, 420, 421, 422, 423, 424, 425, 426, 427, 428, 429, 430, 431, 432, 433, 434, 435, 436, 437, 438, 439, 457, 458, 459, 460, 461] (by decide +kernel) (by decide +kernel)
set_option maxRecDepth 20000 in
theorem gL_law_X4_count : GoodIn wsL_law (wsV RL 15 RX4 yX4_count wsX4_count) := goodIn_app (goodIn_of _ (by decide +kernel)) ggL_law_X4_count
set_option maxRecDepth 20000 in
theorem ggL_law_L_lot : GoodIn wsL_law wsL_lot := goodIn_r _ [399, 400] (by decide +kernel) (by decide +kernel)
set_option maxRecDepth 20000 in
theorem gL_law_L_lot : GoodIn wsL_law (va_wsS RL 98 yL_lot wsL_lot) := goodIn_app (goodIn_of _ (by decide +kernel)) ggL_law_L_lot
set_option maxRecDepth 20000 in
theorem ggL_law_L_low : GoodIn wsL_law wsL_low := goodIn_r _ [403, 404] (by decide +kernel) (by decide +kernel)
set_option maxRecDepth 20000 in
theorem gL_law_L_low : GoodIn wsL_law (va_wsS RL 9 yL_low wsL_low) := goodIn_app (goodIn_of _ (by decide +kernel)) ggL_law_L_low
set_option maxRecDepth 20000 in
theorem ggL_law_X4_addPicture : GoodIn wsL_law wsX4_addPicture := goodIn_r _ [139, 12, 75, 140, 141, 142, 143, 2, 144, 145, 146, 147, 148, 15, 14, 13, 149, 150, 151, 11, 152, 33, 35, 36, 37, 38, 39, 40, 42, 153, 154, 155, 156, 44, 45, 46, 157, 158, 159, 48, 160, 52, 53, 54, 55, 56, 161, 420, 421, 422, 423, 424, 425, 426, 427, 428, 429, 430, 431, 432, 433, 434, 435, 436, 437, 438, 439, 457, 458, 459, 460, 461] (by decide +kernel) (by decide +kernel)
set_option maxRecDepth 20000 in
theorem gL_law_X4_addPicture : GoodIn wsL_law (wsV RL 53 RX4 yX4_addPicture wsX4_addPicture) := goodIn_app (goodIn_of _ (by decide +kernel)) ggL_law_X4_addPicture
set_option maxRecDepth 20000 in
theorem ggL_law_X4_picture : GoodIn wsL_law wsX4_picture := goodIn_r _ [333, 12, 141, 183, 184, 189, 167, 168, 169, 11, 170, 33, 35, 143, 2, 144, 334, 335, 336, 48, 337, 52, 56, 95, 96, 97, 338, 99, 100, 101, 102, 103, 104, 339, 126, 127, 128, 54, 129, 130, 91, 131, 420, 421, 422, 423, 424, 425, 426, 427, 428, 457, 458, 459, 460, 461, 429, 430, 431, 432, 433, 434, 435, 436, 437, 438, 439] (by decide +kernel) (by decide +kernel)
set_option maxRecDepth 20000 in
theorem gL_law_X4_picture : GoodIn wsL_law (wsV RL 24 RX4 yX4_picture wsX4_picture) := goodIn_app (goodIn_of _ (by decide +kernel)) ggL_law_X4_picture
set_option maxRecDepth 20000 in
theorem ggL_law_X4_color : GoodIn wsL_law wsX4_color := goodIn_r _ [343, 12, 141, 166, 167, 168, 169, 11, 170, 33, 35, 143, 2, 144, 142, 171, 172, 173, 420, 421, 422, 423, 424, 425, 426, 427, 428, 457, 458, 459, 460, 461, 429, 430, 431, 432, 433, 434, 435, 436, 437, 438, 439] (by decide +kernel) (by decide +kernel)
set_option maxRecDepth 20000 in
theorem gL_law_X4_color : GoodIn wsL_law (wsV RL 27 RX4 yX4_color wsX4_color) := goodIn_app (goodIn_of _ (by decide +kernel)) ggL_law_X4_color
set_option maxRecDepth 20000 in
theorem ggL_law_X4_paint : GoodIn wsL_law wsX4_paint := goodIn_r _ [165, 12, 141, 166, 167, 168, 169, 11, 170, 33, 35, 143, 2, 144, 142, 145, 146, 147, 148, 15, 14, 13, 149, 150, 151, 152, 36, 37, 38, 39, 40, 42, 153, 154, 155, 156, 44, 45, 46, 157, 158, 159, 48, 160, 52, 53, 54, 55, 56, 161, 171, 172, 173, 174, 175, 176, 177, 178, 420, 421, 422, 423, 424, 425, 426, 427, 428, 457, 458, 459, 460, 461, 429, 430, 431, 432, 433, 434, 435, 436, 437, 438, 439] (by decide +kernel) (by decide +kernel)
set_option maxRecDepth 20000 in
theorem gL_law_X4_paint : GoodIn wsL_law (wsV RL 56 RX4 yX4_paint wsX4_paint) := goodIn_app (goodIn_of _ (by decide +kernel)) ggL_law_X4_paint
set_option maxRecDepth 20000 in
theorem ggL_law_X4_setPlace : GoodIn wsL_law wsX4_setPlace := goodIn_r _ [182, 12, 183, 184, 167, 168, 169, 11, 170, 33, 35, 143, 2, 144, 142, 145, 146, 147, 148, 15, 14, 13, 149, 150, 151, 152, 36, 37, 38, 39, 40, 42, 153, 154, 155, 156, 44, 45, 46, 157, 158, 159, 48, 160, 52, 53, 54, 55, 56, 161, 420, 421, 422, 423, 424, 425, 426, 427, 428, 457, 458, 459, 460, 461, 429, 430, 431, 432, 433, 434, 435, 436, 437, 438, 439] (by decide +kernel) (by decide +kernel)
set_option maxRecDepth 20000 in
theorem gL_law_X4_setPlace : GoodIn wsL_law (wsV RL 60 RX4 yX4_setPlace wsX4_setPlace) := goodIn_app (goodIn_of _ (by decide +kernel)) ggL_law_X4_setPlace
set_option maxRecDepth 20000 in
theorem ggL_law_X4_columnAt : GoodIn wsL_law wsX4_columnAt := goodIn_r _ [360, 12, 167, 168, 169, 11, 170, 33, 35, 143, 2, 144, 142, 361, 118, 119, 48, 120, 53, 121, 122, 123, 124, 125, 126, 127, 128, 52, 54, 129, 130, 91, 131, 362, 133, 134, 135, 55, 420, 421, 422, 423, 424, 425, 426, 427, 428, 429, 430, 431, 432, 433, 434, 435, 436, 437, 438, 439, 457, 458, 459, 460, 461] (by decide +kernel) (by decide +kernel)
set_option maxRecDepth 20000 in
theorem gL_law_X4_columnAt : GoodIn wsL_law (wsV RL 21 RX4 yX4_columnAt wsX4_columnAt) := goodIn_app (goodIn_of _ (by decide +kernel)) ggL_law_X4_columnAt
set_option maxRecDepth 20000 in
theorem ggL_law_X4_setKind : GoodIn wsL_law wsX4_setKind := goodIn_r _ [188, 12, 189, 167, 168, 169, 11, 170, 33, 35, 143, 2, 144, 142, 145, 146, 147, 148, 15, 14, 13, 149, 150, 151, 152, 36, 37, 38, 39, 40, 42, 153, 154, 155, 156, 44, 45, 46, 157, 158, 159, 48, 160, 52, 53, 54, 55, 56, 161, 420, 421, 422, 423, 424, 425, 426, 427, 428, 457, 458, 459, 460, 461, 429, 430, 431, 432, 433, 434, 435, 436, 437, 438, 439] (by decide +kernel) (by decide +kernel)
set_option maxRecDepth 20000 in
theorem gL_law_X4_setKind : GoodIn wsL_law (wsV RL 63 RX4 yX4_setKind wsX4_setKind) := goodIn_app (goodIn_of _ (by decide +kernel)) ggL_law_X4_setKind
set_option maxRecDepth 20000 in
theorem ggL_law_X4_setting : GoodIn wsL_law wsX4_setting := goodIn_r _ [329, 12, 249, 142, 143, 2, 144, 420, 421, 422, 423, 424, 425, 426, 427, 428, 429, 430, 431, 432, 433, 434, 435, 436, 437, 438, 439] (by decide +kernel) (by decide +kernel)
set_option maxRecDepth 20000 in
theorem gL_law_X4_setting : GoodIn wsL_law (wsV RL 34 RX4 yX4_setting wsX4_setting) := goodIn_app (goodIn_of _ (by decide +kernel)) ggL_law_X4_setting
set_option maxRecDepth 20000 in
theorem ggL_law_X4_set : GoodIn wsL_law wsX4_set := goodIn_r _ [246, 247, 248, 12, 249, 142, 143, 2, 144, 145, 146, 147, 148, 15, 14, 13, 149, 150, 151, 11, 152, 33, 35, 36, 37, 38, 39, 40, 42, 153, 154, 155, 156, 44, 45, 46, 157, 158, 159, 48, 160, 52, 53, 54, 55, 56, 161, 420, 421, 422, 423, 424, 425, 426, 427, 428, 429, 430, 431, 432, 433, 434, 435, 436, 437, 438, 439, 457, 458, 459, 460, 461] (by decide +kernel) (by decide +kernel)
set_option maxRecDepth 20000 in
theorem gL_law_X4_set : GoodIn wsL_law (wsV RL 75 RX4 yX4_set wsX4_set) := goodIn_app (goodIn_of _ (by decide +kernel)) ggL_law_X4_set
set_option maxRecDepth 20000 in
theorem ggL_law_X4_broken : GoodIn wsL_law wsX4_broken := goodIn_r _ [347, 12, 142, 143, 2, 144, 239, 240, 241, 11, 242, 44, 420, 421, 422, 423, 424, 425, 426, 427, 428, 429, 430, 431, 432, 433, 434, 435, 436, 437, 438, 439] (by decide +kernel) (by decide +kernel)
set_option maxRecDepth 20000 in
theorem gL_law_X4_broken : GoodIn wsL_law (wsV RL 81 RX4 yX4_broken wsX4_broken) := goodIn_app (goodIn_of _ (by decide +kernel)) ggL_law_X4_broken
set_option maxRecDepth 20000 in
theorem ggL_law_X4_setSecondArm : GoodIn wsL_law wsX4_setSecondArm := goodIn_r _ [233, 12, 80, 142, 143, 2, 144, 145, 146, 147, 148, 15, 14, 13, 149, 150, 151, 11, 152, 33, 35, 36, 37, 38, 39, 40, 42, 153, 154, 155, 156, 44, 45, 46, 157, 158, 159, 48, 160, 52, 53, 54, 55, 56, 161, 420, 421, 422, 423, 424, 425, 426, 427, 428, 429, 430, 431, 432, 433, 434, 435, 436, 437, 438, 439, 457, 458, 459, 460, 461] (by decide +kernel) (by decide +kernel)
set_option maxRecDepth 20000 in
theorem gL_law_X4_setSecondArm : GoodIn wsL_law (wsV RL 69 RX4 yX4_setSecondArm wsX4_setSecondArm) := goodIn_app (goodIn_of _ (by decide +kernel)) ggL_law_X4_setSecondArm
set_option maxRecDepth 20000 in
theorem ggL_law_X4_setBroken : GoodIn wsL_law wsX4_setBroken := goodIn_r _ [237, 12, 238, 178, 142, 143, 2, 144, 145, 146, 147, 148, 15, 14, 13, 149, 150, 151, 11, 152, 33, 35, 36, 37, 38, 39, 40, 42, 153, 154, 155, 156, 44, 45, 46, 157, 158, 159, 48, 160, 52, 53, 54, 55, 56, 161, 239, 240, 241, 242, 420, 421, 422, 423, 424, 425, 426, 427, 428, 429, 430, 431, 432, 433, 434, 435, 436, 437, 438, 439, 457, 458, 459, 460, 461] (by decide +kernel) (by decide +kernel)
set_option maxRecDepth 20000 in
theorem gL_law_X4_setBroken : GoodIn wsL_law (wsV RL 72 RX4 yX4_setBroken wsX4_setBroken) := goodIn_app (goodIn_of _ (by decide +kernel)) ggL_law_X4_setBroken
set_option maxRecDepth 20000 in
theorem ggL_law_L_runs_0 : GoodIn wsL_law [Cond.code yL_runs cL_runs 15 (some .boolean)] := goodIn_r _ [407] (by decide +kernel) (by decide +kernel)
set_option maxRecDepth 20000 in
theorem ggL_law_L_runs_1 : GoodIn wsL_law wsL_runs_r1 := goodIn_r _ [71, 72, 73, 2, 74, 12, 75, 76, 77, 78, 79, 80, 15, 18, 81, 82, 83, 84, 85, 86, 87, 11, 88, 38] (by decide +kernel) (by decide +kernel)
set_option maxRecDepth 20000 in
theorem ggL_law_L_runs_2 : GoodIn wsL_law wsL_runs_r2 := goodIn_r _ [42, 89, 90, 91, 92, 46, 45, 93, 94, 95, 96, 97, 98, 99, 100, 101, 102, 103, 104, 105, 106, 107, 108, 109] (by decide +kernel) (by decide +kernel)
set_option maxRecDepth 20000 in
theorem ggL_law_L_runs_3 : GoodIn wsL_law wsL_runs_r3 := goodIn_r _ [110, 111, 112, 33, 35, 113, 114, 115, 48, 116, 55, 56, 117, 118, 119, 120, 53, 121, 122, 123, 124, 125, 126, 127] (by decide +kernel) (by decide +kernel)
set_option maxRecDepth 20000 in
theorem ggL_law_L_runs_4 : GoodIn wsL_law wsL_runs_r4 := goodIn_r _ [128, 52, 54, 129, 130, 131, 132, 133, 134, 135, 408, 409, 410, 411, 26, 249, 412, 413, 296, 297, 254, 255, 256, 25] (by decide +kernel) (by decide +kernel)
set_option maxRecDepth 20000 in
theorem ggL_law_L_runs_5 : GoodIn wsL_law wsL_runs_r5 := goodIn_r _ [257, 258, 259, 260, 261, 262, 64, 65, 263, 264, 265, 266, 267, 268, 269, 270, 271, 272, 273, 274, 275, 276, 277, 278] (by decide +kernel) (by decide +kernel)
set_option maxRecDepth 20000 in
theorem ggL_law_L_runs_6 : GoodIn wsL_law wsL_runs_r6 := goodIn_r _ [279, 280, 66, 281, 282, 283, 284, 285, 286, 287, 288, 289, 290, 291, 292, 293, 294, 295, 298, 326, 327, 328, 329, 142] (by decide +kernel) (by decide +kernel)
set_option maxRecDepth 20000 in
theorem ggL_law_L_runs_7 : GoodIn wsL_law wsL_runs_r7 := goodIn_r _ [143, 144, 250, 251, 252, 253, 145, 146, 147, 148, 14, 13, 149, 150, 151, 152, 36, 37, 39, 40, 153, 154, 155, 156] (by decide +kernel) (by decide +kernel)
set_option maxRecDepth 20000 in
theorem ggL_law_L_runs_8 : GoodIn wsL_law wsL_runs_r8 := goodIn_r _ [44, 157, 158, 159, 160, 161, 299, 300, 301, 302, 303, 304, 305, 306, 307, 308, 309, 310, 311, 312, 313, 314, 315, 316] (by decide +kernel) (by decide +kernel)
set_option maxRecDepth 20000 in
theorem ggL_law_L_runs_9 : GoodIn wsL_law wsL_runs_r9 := goodIn_r _ [317, 240, 241, 242, 318, 319, 320, 321, 414, 415, 69, 416] (by decide +kernel) (by decide +kernel)
set_option maxRecDepth 20000 in
theorem ggL_law_L_runs_10 : GoodIn wsL_law wsX40 := goodIn_r _ [420, 421, 422, 423, 424, 425, 426, 427, 428] (by decide +kernel) (by decide +kernel)
set_option maxRecDepth 20000 in
theorem ggL_law_L_runs_11 : GoodIn wsL_law wsX20 := goodIn_r _ [429, 430, 431, 432, 433, 434, 435, 436, 437, 438, 439] (by decide +kernel) (by decide +kernel)
set_option maxRecDepth 20000 in
theorem ggL_law_L_runs_12 : GoodIn wsL_law wsX00 := goodIn_r _ [457, 458, 459, 460, 461] (by decide +kernel) (by decide +kernel)
set_option maxRecDepth 20000 in
theorem ggL_law_L_runs_13 : GoodIn wsL_law wsX30 := goodIn_r _ [446, 447, 448, 449, 450, 451, 452, 453, 454, 455, 456] (by decide +kernel) (by decide +kernel)
theorem ggL_law_L_runs : GoodIn wsL_law wsL_runs := goodIn_app (a := [Cond.code yL_runs cL_runs 15 (some .boolean)]) ggL_law_L_runs_0 (goodIn_app (goodIn_app (goodIn_app (goodIn_app (goodIn_app ggL_law_L_runs_1 (goodIn_app ggL_law_L_runs_2 (goodIn_app ggL_law_L_runs_3 (goodIn_app ggL_law_L_runs_4 (goodIn_app ggL_law_L_runs_5 (goodIn_app ggL_law_L_runs_6 (goodIn_app ggL_law_L_runs_7 (goodIn_app ggL_law_L_runs_8 ggL_law_L_runs_9)))))))) ggL_law_L_runs_10) ggL_law_L_runs_11) ggL_law_L_runs_12) ggL_law_L_runs_13)
set_option maxRecDepth 20000 in
theorem gL_law_L_runs : GoodIn wsL_law (va_wsS RL 102 yL_runs wsL_runs) := goodIn_app (goodIn_of _ (by decide +kernel)) ggL_law_L_runs
set_option maxRecDepth 20000 in
theorem ggL_law_L_places_0 : GoodIn wsL_law [Cond.code yL_places cL_places 8 (some .boolean)] := goodIn_r _ [419] (by decide +kernel) (by decide +kernel)
set_option maxRecDepth 20000 in
theorem ggL_law_L_places_1 : GoodIn wsL_law wsL_places_r1 := goodIn_r _ [401, 402, 69, 403, 404, 71, 72, 73, 2, 74, 12, 75, 76, 77, 78, 79, 80, 15, 18, 81, 82, 83, 84, 85] (by decide +kernel) (by decide +kernel)
set_option maxRecDepth 20000 in
theorem ggL_law_L_places_2 : GoodIn wsL_law wsL_places_r2 := goodIn_r _ [86, 87, 11, 88, 38, 42, 89, 90, 91, 92, 46, 45, 93, 94, 95, 96, 97, 98, 99, 100, 101, 102, 103, 104] (by decide +kernel) (by decide +kernel)
set_option maxRecDepth 20000 in
theorem ggL_law_L_places_3 : GoodIn wsL_law wsL_places_r3 := goodIn_r _ [105, 106, 107, 108, 109, 110, 111, 112, 33, 35, 113, 114, 115, 48, 116, 55, 56, 117, 118, 119, 120, 53, 121, 122] (by decide +kernel) (by decide +kernel)
set_option maxRecDepth 20000 in
theorem ggL_law_L_places_4 : GoodIn wsL_law wsL_places_r4 := goodIn_r _ [123, 124, 125, 126, 127, 128, 52, 54, 129, 130, 131, 132, 133, 134, 135, 357, 358, 359, 360, 167, 168, 169, 170, 143] (by decide +kernel) (by decide +kernel)
set_option maxRecDepth 20000 in
theorem ggL_law_L_places_5 : GoodIn wsL_law wsL_places_r5 := goodIn_r _ [144, 142, 361, 362, 330, 331, 332, 333, 141, 183, 184, 189, 334, 335, 336, 337, 338, 339, 340, 341, 342, 343, 166, 171] (by decide +kernel) (by decide +kernel)
set_option maxRecDepth 20000 in
theorem ggL_law_L_places_6 : GoodIn wsL_law wsL_places_r6 := goodIn_r _ [172, 173, 348, 349, 350, 351, 352, 353, 354, 355, 356, 326, 327, 328, 329, 249] (by decide +kernel) (by decide +kernel)
set_option maxRecDepth 20000 in
theorem ggL_law_L_places_7 : GoodIn wsL_law wsX40 := goodIn_r _ [420, 421, 422, 423, 424, 425, 426, 427, 428] (by decide +kernel) (by decide +kernel)
set_option maxRecDepth 20000 in
theorem ggL_law_L_places_8 : GoodIn wsL_law wsX20 := goodIn_r _ [429, 430, 431, 432, 433, 434, 435, 436, 437, 438, 439] (by decide +kernel) (by decide +kernel)
set_option maxRecDepth 20000 in
theorem ggL_law_L_places_9 : GoodIn wsL_law wsX00 := goodIn_r _ [457, 458, 459, 460, 461] (by decide +kernel) (by decide +kernel)
theorem ggL_law_L_places : GoodIn wsL_law wsL_places := goodIn_app (a := [Cond.code yL_places cL_places 8 (some .boolean)]) ggL_law_L_places_0 (goodIn_app (goodIn_app (goodIn_app (goodIn_app ggL_law_L_places_1 (goodIn_app ggL_law_L_places_2 (goodIn_app ggL_law_L_places_3 (goodIn_app ggL_law_L_places_4 (goodIn_app ggL_law_L_places_5 ggL_law_L_places_6))))) ggL_law_L_places_7) ggL_law_L_places_8) ggL_law_L_places_9)
set_option maxRecDepth 20000 in
theorem gL_law_L_places : GoodIn wsL_law (va_wsS RL 106 yL_places wsL_places) := goodIn_app (goodIn_of _ (by decide +kernel)) ggL_law_L_places
set_option maxRecDepth 20000 in
theorem ggL_law_X4_bestSpeed : GoodIn wsL_law wsX4_bestSpeed := goodIn_r _ [378, 26, 12, 28, 97, 379, 178, 247, 248, 142, 143, 2, 144, 254, 255, 256, 25, 257, 258, 259, 260, 261, 262, 64, 65, 263, 264, 110, 111, 11, 112, 33, 35, 113, 114, 115, 48, 116, 55, 56, 117, 118, 119, 120, 53, 121, 122, 123, 124, 125, 126, 127, 128, 52, 54, 129, 130, 91, 131, 132, 133, 134, 135, 95, 96, 265, 99, 100, 101, 102, 103, 104, 266, 267, 268, 85, 86, 87, 88, 38, 42, 89, 90, 92, 46, 45, 93, 94, 269, 270, 271, 272, 273, 274, 275, 276, 277, 278, 279, 280, 66, 281, 282, 283, 284, 285, 286, 287, 288, 289, 290, 291, 292, 293, 294, 295, 296, 297, 298, 380, 381, 382, 383, 249, 384, 238, 367, 309, 310, 311, 368, 319, 320, 321, 98, 420, 421, 422, 423, 424, 425, 426, 427, 428, 446, 447, 448, 449, 450, 451, 452, 453, 454, 455, 456, 429, 430, 431, 432, 433, 434, 435, 436, 437, 438, 439, 457, 458, 459, 460, 461] (by decide +kernel) (by decide +kernel)
set_option maxRecDepth 20000 in
theorem gL_law_X4_bestSpeed : GoodIn wsL_law (wsV RL 84 RX4 yX4_bestSpeed wsX4_bestSpeed) := goodIn_app (goodIn_of _ (by decide +kernel)) ggL_law_X4_bestSpeed
set_option maxRecDepth 20000 in
theorem ggL_law_X4_run : GoodIn wsL_law wsX4_run := goodIn_r _ [253, 12, 78, 26, 249, 79, 142, 143, 2, 144, 145, 146, 147, 148, 15, 14, 13, 149, 150, 151, 11, 152, 33, 35, 36, 37, 38, 39, 40, 42, 153, 154, 155, 156, 44, 45, 46, 157, 158, 159, 48, 160, 52, 53, 54, 55, 56, 161, 254, 255, 256, 25, 257, 258, 259, 260, 261, 262, 64, 65, 263, 264, 110, 111, 112, 113, 114, 115, 116, 117, 118, 119, 120, 121, 122, 123, 124, 125, 126, 127, 128, 129, 130, 91, 131, 132, 133, 134, 135, 95, 96, 97, 265, 99, 100, 101, 102, 103, 104, 266, 267, 268, 269, 270, 271, 272, 273, 274, 275, 276, 277, 278, 279, 280, 66, 281, 282, 283, 284, 285, 286, 287, 288, 289, 290, 90, 92, 291, 292, 293, 294, 295, 296, 297, 298, 299, 300, 301, 302, 303, 304, 305, 306, 307, 308, 309, 310, 311, 312, 313, 314, 315, 93, 316, 89, 317, 240, 241, 242, 318, 319, 320, 321, 420, 421, 422, 423, 424, 425, 426, 427, 428, 429, 430, 431, 432, 433, 434, 435, 436, 437, 438, 439, 457, 458, 459, 460, 461, 446, 447, 448, 449, 450, 451, 452, 453, 454, 455, 456] (by decide +kernel) (by decide +kernel)
set_option maxRecDepth 20000 in
theorem gL_law_X4_run : GoodIn wsL_law (wsV RL 47 RX4 yX4_run wsX4_run) := goodIn_app (goodIn_of _ (by decide +kernel)) ggL_law_X4_run
theorem dL_law_0 : decode cL_law 0 = .ok (.new 16, 3) := by decide +kernel
theorem dL_law_3 : decode cL_law 3 = .ok (.dup, 1) := by decide +kernel
theorem dL_law_4 : decode cL_law 4 = .ok (.invokespecial 87, 3) := by decide +kernel
theorem dL_law_7 : decode cL_law 7 = .ok (.astore_n 1, 1) := by decide +kernel
theorem dL_law_8 : decode cL_law 8 = .ok (.aload_n 1, 1) := by decide +kernel
theorem dL_law_9 : decode cL_law 9 = .ok (.invokestatic 88, 3) := by decide +kernel
theorem dL_law_12 : decode cL_law 12 = .ok (.ifCond .eq 35, 3) := by decide +kernel
theorem dL_law_15 : decode cL_law 15 = .ok (.aload_n 1, 1) := by decide +kernel
theorem dL_law_16 : decode cL_law 16 = .ok (.invokevirtual 92, 3) := by decide +kernel
theorem dL_law_19 : decode cL_law 19 = .ok (.bipush (-102), 2) := by decide +kernel
theorem dL_law_21 : decode cL_law 21 = .ok (.if_icmp .ne 26, 3) := by decide +kernel
theorem dL_law_24 : decode cL_law 24 = .ok (.aload_n 1, 1) := by decide +kernel
theorem dL_law_25 : decode cL_law 25 = .ok (.invokestatic 95, 3) := by decide +kernel
theorem dL_law_28 : decode cL_law 28 = .ok (.ifCond .eq 19, 3) := by decide +kernel
theorem dL_law_31 : decode cL_law 31 = .ok (.aload_n 1, 1) := by decide +kernel
theorem dL_law_32 : decode cL_law 32 = .ok (.iconst 0, 1) := by decide +kernel
theorem dL_law_33 : decode cL_law 33 = .ok (.invokevirtual 40, 3) := by decide +kernel
theorem dL_law_36 : decode cL_law 36 = .ok (.ifCond .ne 11, 3) := by decide +kernel
theorem dL_law_39 : decode cL_law 39 = .ok (.aload_n 1, 1) := by decide +kernel
theorem dL_law_40 : decode cL_law 40 = .ok (.iconst 5, 1) := by decide +kernel
theorem dL_law_41 : decode cL_law 41 = .ok (.invokevirtual 15, 3) := by decide +kernel
theorem dL_law_44 : decode cL_law 44 = .ok (.ifCond .eq 5, 3) := by decide +kernel
theorem dL_law_47 : decode cL_law 47 = .ok (.iconst 0, 1) := by decide +kernel
theorem dL_law_48 : decode cL_law 48 = .ok (.ireturn, 1) := by decide +kernel
theorem dL_law_49 : decode cL_law 49 = .ok (.iconst 0, 1) := by decide +kernel
theorem dL_law_50 : decode cL_law 50 = .ok (.istore_n 2, 1) := by decide +kernel
theorem dL_law_51 : decode cL_law 51 = .ok (.iload_n 2, 1) := by decide +kernel
theorem dL_law_52 : decode cL_law 52 = .ok (.bipush 34, 2) := by decide +kernel
theorem dL_law_54 : decode cL_law 54 = .ok (.if_icmp .ge 1050, 3) := by decide +kernel
theorem dL_law_57 : decode cL_law 57 = .ok (.aload_n 0, 1) := by decide +kernel
theorem dL_law_58 : decode cL_law 58 = .ok (.iconst 2, 1) := by decide +kernel
theorem dL_law_59 : decode cL_law 59 = .ok (.iload_n 2, 1) := by decide +kernel
theorem dL_law_60 : decode cL_law 60 = .ok (.imul, 1) := by decide +kernel
theorem dL_law_61 : decode cL_law 61 = .ok (.invokestatic 98, 3) := by decide +kernel
theorem dL_law_64 : decode cL_law 64 = .ok (.istore_n 3, 1) := by decide +kernel
theorem dL_law_65 : decode cL_law 65 = .ok (.aload_n 0, 1) := by decide +kernel
theorem dL_law_66 : decode cL_law 66 = .ok (.iconst 2, 1) := by decide +kernel
theorem dL_law_67 : decode cL_law 67 = .ok (.iload_n 2, 1) := by decide +kernel
theorem dL_law_68 : decode cL_law 68 = .ok (.imul, 1) := by decide +kernel
theorem dL_law_69 : decode cL_law 69 = .ok (.iconst 1, 1) := by decide +kernel
theorem dL_law_70 : decode cL_law 70 = .ok (.iadd, 1) := by decide +kernel
theorem dL_law_71 : decode cL_law 71 = .ok (.invokestatic 98, 3) := by decide +kernel
theorem dL_law_74 : decode cL_law 74 = .ok (.istore 4, 2) := by decide +kernel
theorem dL_law_76 : decode cL_law 76 = .ok (.aload_n 1, 1) := by decide +kernel
theorem dL_law_77 : decode cL_law 77 = .ok (.iconst 0, 1) := by decide +kernel
theorem dL_law_78 : decode cL_law 78 = .ok (.invokevirtual 15, 3) := by decide +kernel
theorem dL_law_81 : decode cL_law 81 = .ok (.istore 5, 2) := by decide +kernel
theorem dL_law_83 : decode cL_law 83 = .ok (.iload_n 2, 1) := by decide +kernel
theorem dL_law_84 : decode cL_law 84 = .ok (.iconst 2, 1) := by decide +kernel
theorem dL_law_85 : decode cL_law 85 = .ok (.if_icmp .ge 7, 3) := by decide +kernel
theorem dL_law_88 : decode cL_law 88 = .ok (.iconst 0, 1) := by decide +kernel
theorem dL_law_89 : decode cL_law 89 = .ok (.goto 19, 3) := by decide +kernel
theorem dL_law_92 : decode cL_law 92 = .ok (.iload_n 2, 1) := by decide +kernel
theorem dL_law_93 : decode cL_law 93 = .ok (.bipush 10, 2) := by decide +kernel
theorem dL_law_95 : decode cL_law 95 = .ok (.if_icmp .ge 7, 3) := by decide +kernel
theorem dL_law_98 : decode cL_law 98 = .ok (.iconst 1, 1) := by decide +kernel
theorem dL_law_99 : decode cL_law 99 = .ok (.goto 9, 3) := by decide +kernel
theorem dL_law_102 : decode cL_law 102 = .ok (.iload_n 3, 1) := by decide +kernel
theorem dL_law_103 : decode cL_law 103 = .ok (.bipush 12, 2) := by decide +kernel
theorem dL_law_105 : decode cL_law 105 = .ok (.invokestatic 9, 3) := by decide +kernel
theorem dL_law_108 : decode cL_law 108 = .ok (.istore 6, 2) := by decide +kernel
theorem dL_law_110 : decode cL_law 110 = .ok (.iload 5, 2) := by decide +kernel
theorem dL_law_112 : decode cL_law 112 = .ok (.ifCond .ne 7, 3) := by decide +kernel
theorem dL_law_115 : decode cL_law 115 = .ok (.iconst 0, 1) := by decide +kernel
theorem dL_law_116 : decode cL_law 116 = .ok (.goto 11, 3) := by decide +kernel
theorem dL_law_119 : decode cL_law 119 = .ok (.iload_n 3, 1) := by decide +kernel
theorem dL_law_120 : decode cL_law 120 = .ok (.iconst 5, 1) := by decide +kernel
theorem dL_law_121 : decode cL_law 121 = .ok (.ishr, 1) := by decide +kernel
theorem dL_law_122 : decode cL_law 122 = .ok (.iload 5, 2) := by decide +kernel
theorem dL_law_124 : decode cL_law 124 = .ok (.invokestatic 9, 3) := by decide +kernel
theorem dL_law_127 : decode cL_law 127 = .ok (.istore 7, 2) := by decide +kernel
theorem dL_law_129 : decode cL_law 129 = .ok (.iload 6, 2) := by decide +kernel
theorem dL_law_131 : decode cL_law 131 = .ok (.ifCond .ne 99, 3) := by decide +kernel
theorem dL_law_134 : decode cL_law 134 = .ok (.iconst 1, 1) := by decide +kernel
theorem dL_law_135 : decode cL_law 135 = .ok (.iload 4, 2) := by decide +kernel
theorem dL_law_137 : decode cL_law 137 = .ok (.bipush 12, 2) := by decide +kernel
theorem dL_law_139 : decode cL_law 139 = .ok (.invokestatic 9, 3) := by decide +kernel
theorem dL_law_142 : decode cL_law 142 = .ok (.iadd, 1) := by decide +kernel
theorem dL_law_143 : decode cL_law 143 = .ok (.istore 8, 2) := by decide +kernel
theorem dL_law_145 : decode cL_law 145 = .ok (.aload_n 1, 1) := by decide +kernel
theorem dL_law_146 : decode cL_law 146 = .ok (.iload 8, 2) := by decide +kernel
theorem dL_law_148 : decode cL_law 148 = .ok (.invokevirtual 53, 3) := by decide +kernel
theorem dL_law_151 : decode cL_law 151 = .ok (.istore 9, 2) := by decide +kernel
theorem dL_law_153 : decode cL_law 153 = .ok (.iload 9, 2) := by decide +kernel
theorem dL_law_155 : decode cL_law 155 = .ok (.iload 5, 2) := by decide +kernel
theorem dL_law_157 : decode cL_law 157 = .ok (.iconst 4, 1) := by decide +kernel
theorem dL_law_158 : decode cL_law 158 = .ok (.if_icmp .ne 8, 3) := by decide +kernel
theorem dL_law_161 : decode cL_law 161 = .ok (.bipush (-103), 2) := by decide +kernel
theorem dL_law_163 : decode cL_law 163 = .ok (.goto 5, 3) := by decide +kernel
theorem dL_law_166 : decode cL_law 166 = .ok (.iload 5, 2) := by decide +kernel
theorem dL_law_168 : decode cL_law 168 = .ok (.if_icmp .ne 57, 3) := by decide +kernel
theorem dL_law_171 : decode cL_law 171 = .ok (.iload 9, 2) := by decide +kernel
theorem dL_law_173 : decode cL_law 173 = .ok (.ifCond .lt 54, 3) := by decide +kernel
theorem dL_law_176 : decode cL_law 176 = .ok (.aload_n 1, 1) := by decide +kernel
theorem dL_law_177 : decode cL_law 177 = .ok (.iload 9, 2) := by decide +kernel
theorem dL_law_179 : decode cL_law 179 = .ok (.iconst 0, 1) := by decide +kernel
theorem dL_law_180 : decode cL_law 180 = .ok (.invokevirtual 24, 3) := by decide +kernel
theorem dL_law_183 : decode cL_law 183 = .ok (.iload 8, 2) := by decide +kernel
theorem dL_law_185 : decode cL_law 185 = .ok (.if_icmp .ne 40, 3) := by decide +kernel
theorem dL_law_188 : decode cL_law 188 = .ok (.aload_n 1, 1) := by decide +kernel
theorem dL_law_189 : decode cL_law 189 = .ok (.iload 9, 2) := by decide +kernel
theorem dL_law_191 : decode cL_law 191 = .ok (.iconst 2, 1) := by decide +kernel
theorem dL_law_192 : decode cL_law 192 = .ok (.invokevirtual 24, 3) := by decide +kernel
theorem dL_law_195 : decode cL_law 195 = .ok (.bipush 6, 2) := by decide +kernel
theorem dL_law_197 : decode cL_law 197 = .ok (.if_icmp .ne 28, 3) := by decide +kernel
theorem dL_law_200 : decode cL_law 200 = .ok (.aload_n 1, 1) := by decide +kernel
theorem dL_law_201 : decode cL_law 201 = .ok (.iload 9, 2) := by decide +kernel
theorem dL_law_203 : decode cL_law 203 = .ok (.iconst 4, 1) := by decide +kernel
theorem dL_law_204 : decode cL_law 204 = .ok (.invokevirtual 24, 3) := by decide +kernel
theorem dL_law_207 : decode cL_law 207 = .ok (.ifCond .ne 18, 3) := by decide +kernel
theorem dL_law_210 : decode cL_law 210 = .ok (.aload_n 1, 1) := by decide +kernel
theorem dL_law_211 : decode cL_law 211 = .ok (.iload 9, 2) := by decide +kernel
theorem dL_law_213 : decode cL_law 213 = .ok (.iconst 5, 1) := by decide +kernel
theorem dL_law_214 : decode cL_law 214 = .ok (.invokevirtual 24, 3) := by decide +kernel
theorem dL_law_217 : decode cL_law 217 = .ok (.bipush 6, 2) := by decide +kernel
theorem dL_law_219 : decode cL_law 219 = .ok (.iload 8, 2) := by decide +kernel
theorem dL_law_221 : decode cL_law 221 = .ok (.imul, 1) := by decide +kernel
theorem dL_law_222 : decode cL_law 222 = .ok (.if_icmp .eq 5, 3) := by decide +kernel
theorem dL_law_225 : decode cL_law 225 = .ok (.iconst 0, 1) := by decide +kernel
theorem dL_law_226 : decode cL_law 226 = .ok (.ireturn, 1) := by decide +kernel
theorem dL_law_227 : decode cL_law 227 = .ok (.goto 726, 3) := by decide +kernel
theorem dL_law_230 : decode cL_law 230 = .ok (.iload 6, 2) := by decide +kernel
theorem dL_law_232 : decode cL_law 232 = .ok (.iconst 4, 1) := by decide +kernel
theorem dL_law_233 : decode cL_law 233 = .ok (.if_icmp .ge 167, 3) := by decide +kernel
theorem dL_law_236 : decode cL_law 236 = .ok (.iload 4, 2) := by decide +kernel
theorem dL_law_238 : decode cL_law 238 = .ok (.aload_n 1, 1) := by decide +kernel
theorem dL_law_239 : decode cL_law 239 = .ok (.iload 7, 2) := by decide +kernel
theorem dL_law_241 : decode cL_law 241 = .ok (.iconst 0, 1) := by decide +kernel
theorem dL_law_242 : decode cL_law 242 = .ok (.invokevirtual 24, 3) := by decide +kernel
theorem dL_law_245 : decode cL_law 245 = .ok (.invokestatic 9, 3) := by decide +kernel
theorem dL_law_248 : decode cL_law 248 = .ok (.istore 8, 2) := by decide +kernel
theorem dL_law_250 : decode cL_law 250 = .ok (.iload 4, 2) := by decide +kernel
theorem dL_law_252 : decode cL_law 252 = .ok (.bipush 6, 2) := by decide +kernel
theorem dL_law_254 : decode cL_law 254 = .ok (.ishr, 1) := by decide +kernel
theorem dL_law_255 : decode cL_law 255 = .ok (.bipush 12, 2) := by decide +kernel
theorem dL_law_257 : decode cL_law 257 = .ok (.invokestatic 9, 3) := by decide +kernel
theorem dL_law_260 : decode cL_law 260 = .ok (.istore 9, 2) := by decide +kernel
theorem dL_law_262 : decode cL_law 262 = .ok (.iload 4, 2) := by decide +kernel
theorem dL_law_264 : decode cL_law 264 = .ok (.bipush 10, 2) := by decide +kernel
theorem dL_law_266 : decode cL_law 266 = .ok (.ishr, 1) := by decide +kernel
theorem dL_law_267 : decode cL_law 267 = .ok (.bipush 8, 2) := by decide +kernel
theorem dL_law_269 : decode cL_law 269 = .ok (.invokestatic 9, 3) := by decide +kernel
theorem dL_law_272 : decode cL_law 272 = .ok (.istore 10, 2) := by decide +kernel
theorem dL_law_274 : decode cL_law 274 = .ok (.aload_n 1, 1) := by decide +kernel
theorem dL_law_275 : decode cL_law 275 = .ok (.iload 7, 2) := by decide +kernel
theorem dL_law_277 : decode cL_law 277 = .ok (.iload 8, 2) := by decide +kernel
theorem dL_law_279 : decode cL_law 279 = .ok (.iload 9, 2) := by decide +kernel
theorem dL_law_281 : decode cL_law 281 = .ok (.invokevirtual 27, 3) := by decide +kernel
theorem dL_law_284 : decode cL_law 284 = .ok (.istore 11, 2) := by decide +kernel
theorem dL_law_286 : decode cL_law 286 = .ok (.aload_n 1, 1) := by decide +kernel
theorem dL_law_287 : decode cL_law 287 = .ok (.iload 7, 2) := by decide +kernel
theorem dL_law_289 : decode cL_law 289 = .ok (.iconst 4, 1) := by decide +kernel
theorem dL_law_290 : decode cL_law 290 = .ok (.invokevirtual 24, 3) := by decide +kernel
theorem dL_law_293 : decode cL_law 293 = .ok (.istore 12, 2) := by decide +kernel
theorem dL_law_295 : decode cL_law 295 = .ok (.aload_n 1, 1) := by decide +kernel
theorem dL_law_296 : decode cL_law 296 = .ok (.iload 7, 2) := by decide +kernel
theorem dL_law_298 : decode cL_law 298 = .ok (.iload 8, 2) := by decide +kernel
theorem dL_law_300 : decode cL_law 300 = .ok (.iload 9, 2) := by decide +kernel
theorem dL_law_302 : decode cL_law 302 = .ok (.iload 10, 2) := by decide +kernel
theorem dL_law_304 : decode cL_law 304 = .ok (.invokevirtual 56, 3) := by decide +kernel
theorem dL_law_307 : decode cL_law 307 = .ok (.iload 11, 2) := by decide +kernel
theorem dL_law_309 : decode cL_law 309 = .ok (.if_icmp .ne 86, 3) := by decide +kernel
theorem dL_law_312 : decode cL_law 312 = .ok (.aload_n 1, 1) := by decide +kernel
theorem dL_law_313 : decode cL_law 313 = .ok (.iload 7, 2) := by decide +kernel
theorem dL_law_315 : decode cL_law 315 = .ok (.iload 8, 2) := by decide +kernel
theorem dL_law_317 : decode cL_law 317 = .ok (.iload 9, 2) := by decide +kernel
theorem dL_law_319 : decode cL_law 319 = .ok (.invokevirtual 27, 3) := by decide +kernel
theorem dL_law_322 : decode cL_law 322 = .ok (.iload 10, 2) := by decide +kernel
theorem dL_law_324 : decode cL_law 324 = .ok (.if_icmp .ne 71, 3) := by decide +kernel
theorem dL_law_327 : decode cL_law 327 = .ok (.aload_n 1, 1) := by decide +kernel
theorem dL_law_328 : decode cL_law 328 = .ok (.iload 7, 2) := by decide +kernel
theorem dL_law_330 : decode cL_law 330 = .ok (.iconst 4, 1) := by decide +kernel
theorem dL_law_331 : decode cL_law 331 = .ok (.invokevirtual 24, 3) := by decide +kernel
theorem dL_law_334 : decode cL_law 334 = .ok (.iload 12, 2) := by decide +kernel
theorem dL_law_336 : decode cL_law 336 = .ok (.iload 11, 2) := by decide +kernel
theorem dL_law_338 : decode cL_law 338 = .ok (.ifCond .le 7, 3) := by decide +kernel
theorem dL_law_341 : decode cL_law 341 = .ok (.iconst 1, 1) := by decide +kernel
theorem dL_law_342 : decode cL_law 342 = .ok (.goto 4, 3) := by decide +kernel
theorem dL_law_345 : decode cL_law 345 = .ok (.iconst 0, 1) := by decide +kernel
theorem dL_law_346 : decode cL_law 346 = .ok (.isub, 1) := by decide +kernel
theorem dL_law_347 : decode cL_law 347 = .ok (.iload 10, 2) := by decide +kernel
theorem dL_law_349 : decode cL_law 349 = .ok (.ifCond .le 7, 3) := by decide +kernel
theorem dL_law_352 : decode cL_law 352 = .ok (.iconst 1, 1) := by decide +kernel
theorem dL_law_353 : decode cL_law 353 = .ok (.goto 4, 3) := by decide +kernel
theorem dL_law_356 : decode cL_law 356 = .ok (.iconst 0, 1) := by decide +kernel
theorem dL_law_357 : decode cL_law 357 = .ok (.iadd, 1) := by decide +kernel
theorem dL_law_358 : decode cL_law 358 = .ok (.if_icmp .ne 37, 3) := by decide +kernel
theorem dL_law_361 : decode cL_law 361 = .ok (.iload 4, 2) := by decide +kernel
theorem dL_law_363 : decode cL_law 363 = .ok (.bipush 13, 2) := by decide +kernel
theorem dL_law_365 : decode cL_law 365 = .ok (.ishr, 1) := by decide +kernel
theorem dL_law_366 : decode cL_law 366 = .ok (.iconst 4, 1) := by decide +kernel
theorem dL_law_367 : decode cL_law 367 = .ok (.invokestatic 9, 3) := by decide +kernel
theorem dL_law_370 : decode cL_law 370 = .ok (.ifCond .ne 27, 3) := by decide +kernel
theorem dL_law_373 : decode cL_law 373 = .ok (.aload_n 1, 1) := by decide +kernel
theorem dL_law_374 : decode cL_law 374 = .ok (.invokevirtual 92, 3) := by decide +kernel
theorem dL_law_377 : decode cL_law 377 = .ok (.ifCond .lt 18, 3) := by decide +kernel
theorem dL_law_380 : decode cL_law 380 = .ok (.aload_n 1, 1) := by decide +kernel
theorem dL_law_381 : decode cL_law 381 = .ok (.iload 7, 2) := by decide +kernel
theorem dL_law_383 : decode cL_law 383 = .ok (.iload 8, 2) := by decide +kernel
theorem dL_law_385 : decode cL_law 385 = .ok (.iload 9, 2) := by decide +kernel
theorem dL_law_387 : decode cL_law 387 = .ok (.invokevirtual 27, 3) := by decide +kernel
theorem dL_law_390 : decode cL_law 390 = .ok (.iload 11, 2) := by decide +kernel
theorem dL_law_392 : decode cL_law 392 = .ok (.if_icmp .eq 5, 3) := by decide +kernel
theorem dL_law_395 : decode cL_law 395 = .ok (.iconst 0, 1) := by decide +kernel
theorem dL_law_396 : decode cL_law 396 = .ok (.ireturn, 1) := by decide +kernel
theorem dL_law_397 : decode cL_law 397 = .ok (.goto 556, 3) := by decide +kernel
theorem dL_law_400 : decode cL_law 400 = .ok (.iload 6, 2) := by decide +kernel
theorem dL_law_402 : decode cL_law 402 = .ok (.iconst 4, 1) := by decide +kernel
theorem dL_law_403 : decode cL_law 403 = .ok (.if_icmp .ne 114, 3) := by decide +kernel
theorem dL_law_406 : decode cL_law 406 = .ok (.aload_n 1, 1) := by decide +kernel
theorem dL_law_407 : decode cL_law 407 = .ok (.iload 7, 2) := by decide +kernel
theorem dL_law_409 : decode cL_law 409 = .ok (.iconst 1, 1) := by decide +kernel
theorem dL_law_410 : decode cL_law 410 = .ok (.invokevirtual 24, 3) := by decide +kernel
theorem dL_law_413 : decode cL_law 413 = .ok (.istore 8, 2) := by decide +kernel
theorem dL_law_415 : decode cL_law 415 = .ok (.aload_n 1, 1) := by decide +kernel
theorem dL_law_416 : decode cL_law 416 = .ok (.iload 7, 2) := by decide +kernel
theorem dL_law_418 : decode cL_law 418 = .ok (.iconst 0, 1) := by decide +kernel
theorem dL_law_419 : decode cL_law 419 = .ok (.invokevirtual 24, 3) := by decide +kernel
theorem dL_law_422 : decode cL_law 422 = .ok (.iconst 1, 1) := by decide +kernel
theorem dL_law_423 : decode cL_law 423 = .ok (.iload 4, 2) := by decide +kernel
theorem dL_law_425 : decode cL_law 425 = .ok (.bipush 10, 2) := by decide +kernel
theorem dL_law_427 : decode cL_law 427 = .ok (.ishr, 1) := by decide +kernel
theorem dL_law_428 : decode cL_law 428 = .ok (.bipush 18, 2) := by decide +kernel
theorem dL_law_430 : decode cL_law 430 = .ok (.invokestatic 9, 3) := by decide +kernel
theorem dL_law_433 : decode cL_law 433 = .ok (.iadd, 1) := by decide +kernel
theorem dL_law_434 : decode cL_law 434 = .ok (.imul, 1) := by decide +kernel
theorem dL_law_435 : decode cL_law 435 = .ok (.istore 9, 2) := by decide +kernel
theorem dL_law_437 : decode cL_law 437 = .ok (.aload_n 1, 1) := by decide +kernel
theorem dL_law_438 : decode cL_law 438 = .ok (.iload 7, 2) := by decide +kernel
theorem dL_law_440 : decode cL_law 440 = .ok (.iload 4, 2) := by decide +kernel
theorem dL_law_442 : decode cL_law 442 = .ok (.sipush 720, 3) := by decide +kernel
theorem dL_law_445 : decode cL_law 445 = .ok (.invokestatic 9, 3) := by decide +kernel
theorem dL_law_448 : decode cL_law 448 = .ok (.iconst 1, 1) := by decide +kernel
theorem dL_law_449 : decode cL_law 449 = .ok (.iload 4, 2) := by decide +kernel
theorem dL_law_451 : decode cL_law 451 = .ok (.bipush 10, 2) := by decide +kernel
theorem dL_law_453 : decode cL_law 453 = .ok (.ishr, 1) := by decide +kernel
theorem dL_law_454 : decode cL_law 454 = .ok (.bipush 18, 2) := by decide +kernel
theorem dL_law_456 : decode cL_law 456 = .ok (.invokestatic 9, 3) := by decide +kernel
theorem dL_law_459 : decode cL_law 459 = .ok (.iadd, 1) := by decide +kernel
theorem dL_law_460 : decode cL_law 460 = .ok (.invokevirtual 60, 3) := by decide +kernel
theorem dL_law_463 : decode cL_law 463 = .ok (.iload 8, 2) := by decide +kernel
theorem dL_law_465 : decode cL_law 465 = .ok (.if_icmp .ne 47, 3) := by decide +kernel
theorem dL_law_468 : decode cL_law 468 = .ok (.aload_n 1, 1) := by decide +kernel
theorem dL_law_469 : decode cL_law 469 = .ok (.iload 7, 2) := by decide +kernel
theorem dL_law_471 : decode cL_law 471 = .ok (.iconst 1, 1) := by decide +kernel
theorem dL_law_472 : decode cL_law 472 = .ok (.invokevirtual 24, 3) := by decide +kernel
theorem dL_law_475 : decode cL_law 475 = .ok (.iload 4, 2) := by decide +kernel
theorem dL_law_477 : decode cL_law 477 = .ok (.sipush 720, 3) := by decide +kernel
theorem dL_law_480 : decode cL_law 480 = .ok (.invokestatic 9, 3) := by decide +kernel
theorem dL_law_483 : decode cL_law 483 = .ok (.if_icmp .ne 29, 3) := by decide +kernel
theorem dL_law_486 : decode cL_law 486 = .ok (.aload_n 1, 1) := by decide +kernel
theorem dL_law_487 : decode cL_law 487 = .ok (.iload 7, 2) := by decide +kernel
theorem dL_law_489 : decode cL_law 489 = .ok (.iconst 5, 1) := by decide +kernel
theorem dL_law_490 : decode cL_law 490 = .ok (.invokevirtual 24, 3) := by decide +kernel
theorem dL_law_493 : decode cL_law 493 = .ok (.iload 9, 2) := by decide +kernel
theorem dL_law_495 : decode cL_law 495 = .ok (.sipush 720, 3) := by decide +kernel
theorem dL_law_498 : decode cL_law 498 = .ok (.if_icmp .le 9, 3) := by decide +kernel
theorem dL_law_501 : decode cL_law 501 = .ok (.sipush 720, 3) := by decide +kernel
theorem dL_law_504 : decode cL_law 504 = .ok (.goto 5, 3) := by decide +kernel
theorem dL_law_507 : decode cL_law 507 = .ok (.iload 9, 2) := by decide +kernel
theorem dL_law_509 : decode cL_law 509 = .ok (.if_icmp .eq 5, 3) := by decide +kernel
theorem dL_law_512 : decode cL_law 512 = .ok (.iconst 0, 1) := by decide +kernel
theorem dL_law_513 : decode cL_law 513 = .ok (.ireturn, 1) := by decide +kernel
theorem dL_law_514 : decode cL_law 514 = .ok (.goto 439, 3) := by decide +kernel
theorem dL_law_517 : decode cL_law 517 = .ok (.iload 6, 2) := by decide +kernel
theorem dL_law_519 : decode cL_law 519 = .ok (.iconst 5, 1) := by decide +kernel
theorem dL_law_520 : decode cL_law 520 = .ok (.if_icmp .ne 146, 3) := by decide +kernel
theorem dL_law_523 : decode cL_law 523 = .ok (.aload_n 1, 1) := by decide +kernel
theorem dL_law_524 : decode cL_law 524 = .ok (.iload 7, 2) := by decide +kernel
theorem dL_law_526 : decode cL_law 526 = .ok (.iconst 3, 1) := by decide +kernel
theorem dL_law_527 : decode cL_law 527 = .ok (.invokevirtual 24, 3) := by decide +kernel
theorem dL_law_530 : decode cL_law 530 = .ok (.istore 8, 2) := by decide +kernel
theorem dL_law_532 : decode cL_law 532 = .ok (.aload_n 1, 1) := by decide +kernel
theorem dL_law_533 : decode cL_law 533 = .ok (.iload 7, 2) := by decide +kernel
theorem dL_law_535 : decode cL_law 535 = .ok (.iload 4, 2) := by decide +kernel
theorem dL_law_537 : decode cL_law 537 = .ok (.iconst 3, 1) := by decide +kernel
theorem dL_law_538 : decode cL_law 538 = .ok (.ishr, 1) := by decide +kernel
theorem dL_law_539 : decode cL_law 539 = .ok (.sipush 720, 3) := by decide +kernel
theorem dL_law_542 : decode cL_law 542 = .ok (.invokestatic 9, 3) := by decide +kernel
theorem dL_law_545 : decode cL_law 545 = .ok (.invokevirtual 21, 3) := by decide +kernel
theorem dL_law_548 : decode cL_law 548 = .ok (.istore 9, 2) := by decide +kernel
theorem dL_law_550 : decode cL_law 550 = .ok (.iload 4, 2) := by decide +kernel
theorem dL_law_552 : decode cL_law 552 = .ok (.iconst 3, 1) := by decide +kernel
theorem dL_law_553 : decode cL_law 553 = .ok (.invokestatic 9, 3) := by decide +kernel
theorem dL_law_556 : decode cL_law 556 = .ok (.istore 10, 2) := by decide +kernel
theorem dL_law_558 : decode cL_law 558 = .ok (.aload_n 1, 1) := by decide +kernel
theorem dL_law_559 : decode cL_law 559 = .ok (.iload 7, 2) := by decide +kernel
theorem dL_law_561 : decode cL_law 561 = .ok (.iload 10, 2) := by decide +kernel
theorem dL_law_563 : decode cL_law 563 = .ok (.invokevirtual 63, 3) := by decide +kernel
theorem dL_law_566 : decode cL_law 566 = .ok (.iload 8, 2) := by decide +kernel
theorem dL_law_568 : decode cL_law 568 = .ok (.if_icmp .ne 15, 3) := by decide +kernel
theorem dL_law_571 : decode cL_law 571 = .ok (.aload_n 1, 1) := by decide +kernel
theorem dL_law_572 : decode cL_law 572 = .ok (.iload 7, 2) := by decide +kernel
theorem dL_law_574 : decode cL_law 574 = .ok (.iconst 3, 1) := by decide +kernel
theorem dL_law_575 : decode cL_law 575 = .ok (.invokevirtual 24, 3) := by decide +kernel
theorem dL_law_578 : decode cL_law 578 = .ok (.iload 10, 2) := by decide +kernel
theorem dL_law_580 : decode cL_law 580 = .ok (.if_icmp .eq 5, 3) := by decide +kernel
theorem dL_law_583 : decode cL_law 583 = .ok (.iconst 0, 1) := by decide +kernel
theorem dL_law_584 : decode cL_law 584 = .ok (.ireturn, 1) := by decide +kernel
theorem dL_law_585 : decode cL_law 585 = .ok (.aload_n 1, 1) := by decide +kernel
theorem dL_law_586 : decode cL_law 586 = .ok (.iload 7, 2) := by decide +kernel
theorem dL_law_588 : decode cL_law 588 = .ok (.iload 4, 2) := by decide +kernel
theorem dL_law_590 : decode cL_law 590 = .ok (.iconst 3, 1) := by decide +kernel
theorem dL_law_591 : decode cL_law 591 = .ok (.ishr, 1) := by decide +kernel
theorem dL_law_592 : decode cL_law 592 = .ok (.sipush 720, 3) := by decide +kernel
theorem dL_law_595 : decode cL_law 595 = .ok (.invokestatic 9, 3) := by decide +kernel
theorem dL_law_598 : decode cL_law 598 = .ok (.invokevirtual 21, 3) := by decide +kernel
theorem dL_law_601 : decode cL_law 601 = .ok (.istore 11, 2) := by decide +kernel
theorem dL_law_603 : decode cL_law 603 = .ok (.iload 8, 2) := by decide +kernel
theorem dL_law_605 : decode cL_law 605 = .ok (.iconst 2, 1) := by decide +kernel
theorem dL_law_606 : decode cL_law 606 = .ok (.if_icmp .ge 57, 3) := by decide +kernel
theorem dL_law_609 : decode cL_law 609 = .ok (.iload 10, 2) := by decide +kernel
theorem dL_law_611 : decode cL_law 611 = .ok (.iconst 2, 1) := by decide +kernel
theorem dL_law_612 : decode cL_law 612 = .ok (.if_icmp .ge 51, 3) := by decide +kernel
theorem dL_law_615 : decode cL_law 615 = .ok (.iload 9, 2) := by decide +kernel
theorem dL_law_617 : decode cL_law 617 = .ok (.bipush (-109), 2) := by decide +kernel
theorem dL_law_619 : decode cL_law 619 = .ok (.if_icmp .ne 13, 3) := by decide +kernel
theorem dL_law_622 : decode cL_law 622 = .ok (.iload 11, 2) := by decide +kernel
theorem dL_law_624 : decode cL_law 624 = .ok (.bipush (-109), 2) := by decide +kernel
theorem dL_law_626 : decode cL_law 626 = .ok (.if_icmp .eq 37, 3) := by decide +kernel
theorem dL_law_629 : decode cL_law 629 = .ok (.goto 32, 3) := by decide +kernel
theorem dL_law_632 : decode cL_law 632 = .ok (.iload 11, 2) := by decide +kernel
theorem dL_law_634 : decode cL_law 634 = .ok (.iload 8, 2) := by decide +kernel
theorem dL_law_636 : decode cL_law 636 = .ok (.iload 10, 2) := by decide +kernel
theorem dL_law_638 : decode cL_law 638 = .ok (.if_icmp .ne 8, 3) := by decide +kernel
theorem dL_law_641 : decode cL_law 641 = .ok (.iload 9, 2) := by decide +kernel
theorem dL_law_643 : decode cL_law 643 = .ok (.goto 15, 3) := by decide +kernel
theorem dL_law_646 : decode cL_law 646 = .ok (.aload_n 1, 1) := by decide +kernel
theorem dL_law_647 : decode cL_law 647 = .ok (.iload 7, 2) := by decide +kernel
theorem dL_law_649 : decode cL_law 649 = .ok (.iconst 0, 1) := by decide +kernel
theorem dL_law_650 : decode cL_law 650 = .ok (.invokevirtual 24, 3) := by decide +kernel
theorem dL_law_653 : decode cL_law 653 = .ok (.iconst 1, 1) := by decide +kernel
theorem dL_law_654 : decode cL_law 654 = .ok (.isub, 1) := by decide +kernel
theorem dL_law_655 : decode cL_law 655 = .ok (.iload 9, 2) := by decide +kernel
theorem dL_law_657 : decode cL_law 657 = .ok (.isub, 1) := by decide +kernel
theorem dL_law_658 : decode cL_law 658 = .ok (.if_icmp .eq 5, 3) := by decide +kernel
theorem dL_law_661 : decode cL_law 661 = .ok (.iconst 0, 1) := by decide +kernel
theorem dL_law_662 : decode cL_law 662 = .ok (.ireturn, 1) := by decide +kernel
theorem dL_law_663 : decode cL_law 663 = .ok (.goto 290, 3) := by decide +kernel
theorem dL_law_666 : decode cL_law 666 = .ok (.iload 6, 2) := by decide +kernel
theorem dL_law_668 : decode cL_law 668 = .ok (.bipush 6, 2) := by decide +kernel
theorem dL_law_670 : decode cL_law 670 = .ok (.if_icmp .ne 122, 3) := by decide +kernel
theorem dL_law_673 : decode cL_law 673 = .ok (.iload 4, 2) := by decide +kernel
theorem dL_law_675 : decode cL_law 675 = .ok (.iconst 4, 1) := by decide +kernel
theorem dL_law_676 : decode cL_law 676 = .ok (.invokestatic 9, 3) := by decide +kernel
theorem dL_law_679 : decode cL_law 679 = .ok (.istore 8, 2) := by decide +kernel
theorem dL_law_681 : decode cL_law 681 = .ok (.iload 8, 2) := by decide +kernel
theorem dL_law_683 : decode cL_law 683 = .ok (.ifCond .ne 18, 3) := by decide +kernel
theorem dL_law_686 : decode cL_law 686 = .ok (.iload 4, 2) := by decide +kernel
theorem dL_law_688 : decode cL_law 688 = .ok (.iconst 2, 1) := by decide +kernel
theorem dL_law_689 : decode cL_law 689 = .ok (.ishr, 1) := by decide +kernel
theorem dL_law_690 : decode cL_law 690 = .ok (.bipush 121, 2) := by decide +kernel
theorem dL_law_692 : decode cL_law 692 = .ok (.invokestatic 9, 3) := by decide +kernel
theorem dL_law_695 : decode cL_law 695 = .ok (.bipush 60, 2) := by decide +kernel
theorem dL_law_697 : decode cL_law 697 = .ok (.isub, 1) := by decide +kernel
theorem dL_law_698 : decode cL_law 698 = .ok (.goto 55, 3) := by decide +kernel
theorem dL_law_701 : decode cL_law 701 = .ok (.iload 8, 2) := by decide +kernel
theorem dL_law_703 : decode cL_law 703 = .ok (.iconst 1, 1) := by decide +kernel
theorem dL_law_704 : decode cL_law 704 = .ok (.if_icmp .ne 17, 3) := by decide +kernel
theorem dL_law_707 : decode cL_law 707 = .ok (.iconst 1, 1) := by decide +kernel
theorem dL_law_708 : decode cL_law 708 = .ok (.iload 4, 2) := by decide +kernel
theorem dL_law_710 : decode cL_law 710 = .ok (.iconst 2, 1) := by decide +kernel
theorem dL_law_711 : decode cL_law 711 = .ok (.ishr, 1) := by decide +kernel
theorem dL_law_712 : decode cL_law 712 = .ok (.bipush 20, 2) := by decide +kernel
theorem dL_law_714 : decode cL_law 714 = .ok (.invokestatic 9, 3) := by decide +kernel
theorem dL_law_717 : decode cL_law 717 = .ok (.iadd, 1) := by decide +kernel
theorem dL_law_718 : decode cL_law 718 = .ok (.goto 35, 3) := by decide +kernel
theorem dL_law_721 : decode cL_law 721 = .ok (.iload 8, 2) := by decide +kernel
theorem dL_law_723 : decode cL_law 723 = .ok (.iconst 2, 1) := by decide +kernel
theorem dL_law_724 : decode cL_law 724 = .ok (.if_icmp .ne 18, 3) := by decide +kernel
theorem dL_law_727 : decode cL_law 727 = .ok (.iconst 1, 1) := by decide +kernel
theorem dL_law_728 : decode cL_law 728 = .ok (.iload 4, 2) := by decide +kernel
theorem dL_law_730 : decode cL_law 730 = .ok (.iconst 2, 1) := by decide +kernel
theorem dL_law_731 : decode cL_law 731 = .ok (.ishr, 1) := by decide +kernel
theorem dL_law_732 : decode cL_law 732 = .ok (.sipush 300, 3) := by decide +kernel
theorem dL_law_735 : decode cL_law 735 = .ok (.invokestatic 9, 3) := by decide +kernel
theorem dL_law_738 : decode cL_law 738 = .ok (.iadd, 1) := by decide +kernel
theorem dL_law_739 : decode cL_law 739 = .ok (.goto 14, 3) := by decide +kernel
theorem dL_law_742 : decode cL_law 742 = .ok (.iconst 1, 1) := by decide +kernel
theorem dL_law_743 : decode cL_law 743 = .ok (.iload 4, 2) := by decide +kernel
theorem dL_law_745 : decode cL_law 745 = .ok (.iconst 2, 1) := by decide +kernel
theorem dL_law_746 : decode cL_law 746 = .ok (.ishr, 1) := by decide +kernel
theorem dL_law_747 : decode cL_law 747 = .ok (.bipush 99, 2) := by decide +kernel
theorem dL_law_749 : decode cL_law 749 = .ok (.invokestatic 9, 3) := by decide +kernel
theorem dL_law_752 : decode cL_law 752 = .ok (.iadd, 1) := by decide +kernel
theorem dL_law_753 : decode cL_law 753 = .ok (.istore 9, 2) := by decide +kernel
theorem dL_law_755 : decode cL_law 755 = .ok (.aload_n 1, 1) := by decide +kernel
theorem dL_law_756 : decode cL_law 756 = .ok (.iload 8, 2) := by decide +kernel
theorem dL_law_758 : decode cL_law 758 = .ok (.invokevirtual 34, 3) := by decide +kernel
theorem dL_law_761 : decode cL_law 761 = .ok (.istore 10, 2) := by decide +kernel
theorem dL_law_763 : decode cL_law 763 = .ok (.aload_n 1, 1) := by decide +kernel
theorem dL_law_764 : decode cL_law 764 = .ok (.iload 8, 2) := by decide +kernel
theorem dL_law_766 : decode cL_law 766 = .ok (.iload 9, 2) := by decide +kernel
theorem dL_law_768 : decode cL_law 768 = .ok (.invokevirtual 75, 3) := by decide +kernel
theorem dL_law_771 : decode cL_law 771 = .ok (.iload 10, 2) := by decide +kernel
theorem dL_law_773 : decode cL_law 773 = .ok (.if_icmp .ne 14, 3) := by decide +kernel
theorem dL_law_776 : decode cL_law 776 = .ok (.aload_n 1, 1) := by decide +kernel
theorem dL_law_777 : decode cL_law 777 = .ok (.iload 8, 2) := by decide +kernel
theorem dL_law_779 : decode cL_law 779 = .ok (.invokevirtual 34, 3) := by decide +kernel
theorem dL_law_782 : decode cL_law 782 = .ok (.iload 9, 2) := by decide +kernel
theorem dL_law_784 : decode cL_law 784 = .ok (.if_icmp .eq 5, 3) := by decide +kernel
theorem dL_law_787 : decode cL_law 787 = .ok (.iconst 0, 1) := by decide +kernel
theorem dL_law_788 : decode cL_law 788 = .ok (.ireturn, 1) := by decide +kernel
theorem dL_law_789 : decode cL_law 789 = .ok (.goto 164, 3) := by decide +kernel
theorem dL_law_792 : decode cL_law 792 = .ok (.iload 6, 2) := by decide +kernel
theorem dL_law_794 : decode cL_law 794 = .ok (.bipush 7, 2) := by decide +kernel
theorem dL_law_796 : decode cL_law 796 = .ok (.if_icmp .ne 121, 3) := by decide +kernel
theorem dL_law_799 : decode cL_law 799 = .ok (.aload_n 1, 1) := by decide +kernel
theorem dL_law_800 : decode cL_law 800 = .ok (.bipush 7, 2) := by decide +kernel
theorem dL_law_802 : decode cL_law 802 = .ok (.invokevirtual 15, 3) := by decide +kernel
theorem dL_law_805 : decode cL_law 805 = .ok (.istore 8, 2) := by decide +kernel
theorem dL_law_807 : decode cL_law 807 = .ok (.iload 4, 2) := by decide +kernel
theorem dL_law_809 : decode cL_law 809 = .ok (.iconst 2, 1) := by decide +kernel
theorem dL_law_810 : decode cL_law 810 = .ok (.invokestatic 9, 3) := by decide +kernel
theorem dL_law_813 : decode cL_law 813 = .ok (.istore 9, 2) := by decide +kernel
theorem dL_law_815 : decode cL_law 815 = .ok (.iload 4, 2) := by decide +kernel
theorem dL_law_817 : decode cL_law 817 = .ok (.iconst 1, 1) := by decide +kernel
theorem dL_law_818 : decode cL_law 818 = .ok (.ishr, 1) := by decide +kernel
theorem dL_law_819 : decode cL_law 819 = .ok (.bipush 12, 2) := by decide +kernel
theorem dL_law_821 : decode cL_law 821 = .ok (.invokestatic 9, 3) := by decide +kernel
theorem dL_law_824 : decode cL_law 824 = .ok (.istore 10, 2) := by decide +kernel
theorem dL_law_826 : decode cL_law 826 = .ok (.aload_n 1, 1) := by decide +kernel
theorem dL_law_827 : decode cL_law 827 = .ok (.iload 9, 2) := by decide +kernel
theorem dL_law_829 : decode cL_law 829 = .ok (.iload 10, 2) := by decide +kernel
theorem dL_law_831 : decode cL_law 831 = .ok (.invokevirtual 81, 3) := by decide +kernel
theorem dL_law_834 : decode cL_law 834 = .ok (.istore 11, 2) := by decide +kernel
theorem dL_law_836 : decode cL_law 836 = .ok (.aload_n 1, 1) := by decide +kernel
theorem dL_law_837 : decode cL_law 837 = .ok (.iload 4, 2) := by decide +kernel
theorem dL_law_839 : decode cL_law 839 = .ok (.iconst 5, 1) := by decide +kernel
theorem dL_law_840 : decode cL_law 840 = .ok (.ishr, 1) := by decide +kernel
theorem dL_law_841 : decode cL_law 841 = .ok (.iconst 2, 1) := by decide +kernel
theorem dL_law_842 : decode cL_law 842 = .ok (.invokestatic 9, 3) := by decide +kernel
theorem dL_law_845 : decode cL_law 845 = .ok (.invokevirtual 69, 3) := by decide +kernel
theorem dL_law_848 : decode cL_law 848 = .ok (.iload 8, 2) := by decide +kernel
theorem dL_law_850 : decode cL_law 850 = .ok (.if_icmp .ne 62, 3) := by decide +kernel
theorem dL_law_853 : decode cL_law 853 = .ok (.aload_n 1, 1) := by decide +kernel
theorem dL_law_854 : decode cL_law 854 = .ok (.bipush 7, 2) := by decide +kernel
theorem dL_law_856 : decode cL_law 856 = .ok (.invokevirtual 15, 3) := by decide +kernel
theorem dL_law_859 : decode cL_law 859 = .ok (.iload 4, 2) := by decide +kernel
theorem dL_law_861 : decode cL_law 861 = .ok (.iconst 5, 1) := by decide +kernel
theorem dL_law_862 : decode cL_law 862 = .ok (.ishr, 1) := by decide +kernel
theorem dL_law_863 : decode cL_law 863 = .ok (.iconst 2, 1) := by decide +kernel
theorem dL_law_864 : decode cL_law 864 = .ok (.invokestatic 9, 3) := by decide +kernel
theorem dL_law_867 : decode cL_law 867 = .ok (.if_icmp .ne 45, 3) := by decide +kernel
theorem dL_law_870 : decode cL_law 870 = .ok (.aload_n 1, 1) := by decide +kernel
theorem dL_law_871 : decode cL_law 871 = .ok (.iload 9, 2) := by decide +kernel
theorem dL_law_873 : decode cL_law 873 = .ok (.iload 10, 2) := by decide +kernel
theorem dL_law_875 : decode cL_law 875 = .ok (.iload 4, 2) := by decide +kernel
theorem dL_law_877 : decode cL_law 877 = .ok (.bipush 6, 2) := by decide +kernel
theorem dL_law_879 : decode cL_law 879 = .ok (.ishr, 1) := by decide +kernel
theorem dL_law_880 : decode cL_law 880 = .ok (.iconst 2, 1) := by decide +kernel
theorem dL_law_881 : decode cL_law 881 = .ok (.invokestatic 9, 3) := by decide +kernel
theorem dL_law_884 : decode cL_law 884 = .ok (.invokevirtual 72, 3) := by decide +kernel
theorem dL_law_887 : decode cL_law 887 = .ok (.iload 11, 2) := by decide +kernel
theorem dL_law_889 : decode cL_law 889 = .ok (.if_icmp .ne 23, 3) := by decide +kernel
theorem dL_law_892 : decode cL_law 892 = .ok (.aload_n 1, 1) := by decide +kernel
theorem dL_law_893 : decode cL_law 893 = .ok (.iload 9, 2) := by decide +kernel
theorem dL_law_895 : decode cL_law 895 = .ok (.iload 10, 2) := by decide +kernel
theorem dL_law_897 : decode cL_law 897 = .ok (.invokevirtual 81, 3) := by decide +kernel
theorem dL_law_900 : decode cL_law 900 = .ok (.iload 4, 2) := by decide +kernel
theorem dL_law_902 : decode cL_law 902 = .ok (.bipush 6, 2) := by decide +kernel
theorem dL_law_904 : decode cL_law 904 = .ok (.ishr, 1) := by decide +kernel
theorem dL_law_905 : decode cL_law 905 = .ok (.iconst 2, 1) := by decide +kernel
theorem dL_law_906 : decode cL_law 906 = .ok (.invokestatic 9, 3) := by decide +kernel
theorem dL_law_909 : decode cL_law 909 = .ok (.if_icmp .eq 5, 3) := by decide +kernel
theorem dL_law_912 : decode cL_law 912 = .ok (.iconst 0, 1) := by decide +kernel
theorem dL_law_913 : decode cL_law 913 = .ok (.ireturn, 1) := by decide +kernel
theorem dL_law_914 : decode cL_law 914 = .ok (.goto 39, 3) := by decide +kernel
theorem dL_law_917 : decode cL_law 917 = .ok (.aload_n 1, 1) := by decide +kernel
theorem dL_law_918 : decode cL_law 918 = .ok (.iconst 1, 1) := by decide +kernel
theorem dL_law_919 : decode cL_law 919 = .ok (.iload 4, 2) := by decide +kernel
theorem dL_law_921 : decode cL_law 921 = .ok (.iload 4, 2) := by decide +kernel
theorem dL_law_923 : decode cL_law 923 = .ok (.bipush 20, 2) := by decide +kernel
theorem dL_law_925 : decode cL_law 925 = .ok (.ishr, 1) := by decide +kernel
theorem dL_law_926 : decode cL_law 926 = .ok (.bipush 6, 2) := by decide +kernel
theorem dL_law_928 : decode cL_law 928 = .ok (.invokestatic 9, 3) := by decide +kernel
theorem dL_law_931 : decode cL_law 931 = .ok (.ifCond .ne 8, 3) := by decide +kernel
theorem dL_law_934 : decode cL_law 934 = .ok (.bipush 60, 2) := by decide +kernel
theorem dL_law_936 : decode cL_law 936 = .ok (.goto 5, 3) := by decide +kernel
theorem dL_law_939 : decode cL_law 939 = .ok (.bipush 9, 2) := by decide +kernel
theorem dL_law_941 : decode cL_law 941 = .ok (.invokestatic 9, 3) := by decide +kernel
theorem dL_law_944 : decode cL_law 944 = .ok (.iadd, 1) := by decide +kernel
theorem dL_law_945 : decode cL_law 945 = .ok (.invokestatic 102, 3) := by decide +kernel
theorem dL_law_948 : decode cL_law 948 = .ok (.ifCond .ne 5, 3) := by decide +kernel
theorem dL_law_951 : decode cL_law 951 = .ok (.iconst 0, 1) := by decide +kernel
theorem dL_law_952 : decode cL_law 952 = .ok (.ireturn, 1) := by decide +kernel
theorem dL_law_953 : decode cL_law 953 = .ok (.aload_n 1, 1) := by decide +kernel
theorem dL_law_954 : decode cL_law 954 = .ok (.iload 4, 2) := by decide +kernel
theorem dL_law_956 : decode cL_law 956 = .ok (.invokestatic 106, 3) := by decide +kernel
theorem dL_law_959 : decode cL_law 959 = .ok (.ifCond .eq 17, 3) := by decide +kernel
theorem dL_law_962 : decode cL_law 962 = .ok (.iload_n 2, 1) := by decide +kernel
theorem dL_law_963 : decode cL_law 963 = .ok (.iconst 5, 1) := by decide +kernel
theorem dL_law_964 : decode cL_law 964 = .ok (.irem, 1) := by decide +kernel
theorem dL_law_965 : decode cL_law 965 = .ok (.iconst 4, 1) := by decide +kernel
theorem dL_law_966 : decode cL_law 966 = .ok (.if_icmp .ne 12, 3) := by decide +kernel
theorem dL_law_969 : decode cL_law 969 = .ok (.aload_n 1, 1) := by decide +kernel
theorem dL_law_970 : decode cL_law 970 = .ok (.invokestatic 95, 3) := by decide +kernel
theorem dL_law_973 : decode cL_law 973 = .ok (.ifCond .ne 5, 3) := by decide +kernel
theorem dL_law_976 : decode cL_law 976 = .ok (.iconst 0, 1) := by decide +kernel
theorem dL_law_977 : decode cL_law 977 = .ok (.ireturn, 1) := by decide +kernel
theorem dL_law_978 : decode cL_law 978 = .ok (.iload_n 2, 1) := by decide +kernel
theorem dL_law_979 : decode cL_law 979 = .ok (.bipush 17, 2) := by decide +kernel
theorem dL_law_981 : decode cL_law 981 = .ok (.irem, 1) := by decide +kernel
theorem dL_law_982 : decode cL_law 982 = .ok (.bipush 16, 2) := by decide +kernel
theorem dL_law_984 : decode cL_law 984 = .ok (.if_icmp .ne 114, 3) := by decide +kernel
theorem dL_law_987 : decode cL_law 987 = .ok (.aload_n 1, 1) := by decide +kernel
theorem dL_law_988 : decode cL_law 988 = .ok (.iconst 1, 1) := by decide +kernel
theorem dL_law_989 : decode cL_law 989 = .ok (.invokevirtual 15, 3) := by decide +kernel
theorem dL_law_992 : decode cL_law 992 = .ok (.istore 8, 2) := by decide +kernel
theorem dL_law_994 : decode cL_law 994 = .ok (.aload_n 1, 1) := by decide +kernel
theorem dL_law_995 : decode cL_law 995 = .ok (.iconst 5, 1) := by decide +kernel
theorem dL_law_996 : decode cL_law 996 = .ok (.invokevirtual 15, 3) := by decide +kernel
theorem dL_law_999 : decode cL_law 999 = .ok (.istore 9, 2) := by decide +kernel
theorem dL_law_1001 : decode cL_law 1001 = .ok (.aload_n 1, 1) := by decide +kernel
theorem dL_law_1002 : decode cL_law 1002 = .ok (.iconst 1, 1) := by decide +kernel
theorem dL_law_1003 : decode cL_law 1003 = .ok (.iload 4, 2) := by decide +kernel
theorem dL_law_1005 : decode cL_law 1005 = .ok (.bipush 7, 2) := by decide +kernel
theorem dL_law_1007 : decode cL_law 1007 = .ok (.ishr, 1) := by decide +kernel
theorem dL_law_1008 : decode cL_law 1008 = .ok (.bipush 6, 2) := by decide +kernel
theorem dL_law_1010 : decode cL_law 1010 = .ok (.invokestatic 9, 3) := by decide +kernel
theorem dL_law_1013 : decode cL_law 1013 = .ok (.iadd, 1) := by decide +kernel
theorem dL_law_1014 : decode cL_law 1014 = .ok (.invokevirtual 84, 3) := by decide +kernel
theorem dL_law_1017 : decode cL_law 1017 = .ok (.istore 10, 2) := by decide +kernel
theorem dL_law_1019 : decode cL_law 1019 = .ok (.iload 10, 2) := by decide +kernel
theorem dL_law_1021 : decode cL_law 1021 = .ok (.bipush (-60), 2) := by decide +kernel
theorem dL_law_1023 : decode cL_law 1023 = .ok (.if_icmp .lt 73, 3) := by decide +kernel
theorem dL_law_1026 : decode cL_law 1026 = .ok (.iload 10, 2) := by decide +kernel
theorem dL_law_1028 : decode cL_law 1028 = .ok (.bipush 60, 2) := by decide +kernel
theorem dL_law_1030 : decode cL_law 1030 = .ok (.if_icmp .gt 66, 3) := by decide +kernel
theorem dL_law_1033 : decode cL_law 1033 = .ok (.iload 10, 2) := by decide +kernel
theorem dL_law_1035 : decode cL_law 1035 = .ok (.bipush 10, 2) := by decide +kernel
theorem dL_law_1037 : decode cL_law 1037 = .ok (.irem, 1) := by decide +kernel
theorem dL_law_1038 : decode cL_law 1038 = .ok (.ifCond .ne 58, 3) := by decide +kernel
theorem dL_law_1041 : decode cL_law 1041 = .ok (.aload_n 1, 1) := by decide +kernel
theorem dL_law_1042 : decode cL_law 1042 = .ok (.iconst 1, 1) := by decide +kernel
theorem dL_law_1043 : decode cL_law 1043 = .ok (.invokevirtual 15, 3) := by decide +kernel
theorem dL_law_1046 : decode cL_law 1046 = .ok (.iload 8, 2) := by decide +kernel
theorem dL_law_1048 : decode cL_law 1048 = .ok (.if_icmp .ne 48, 3) := by decide +kernel
theorem dL_law_1051 : decode cL_law 1051 = .ok (.aload_n 1, 1) := by decide +kernel
theorem dL_law_1052 : decode cL_law 1052 = .ok (.iconst 5, 1) := by decide +kernel
theorem dL_law_1053 : decode cL_law 1053 = .ok (.invokevirtual 15, 3) := by decide +kernel
theorem dL_law_1056 : decode cL_law 1056 = .ok (.iload 9, 2) := by decide +kernel
theorem dL_law_1058 : decode cL_law 1058 = .ok (.if_icmp .ne 38, 3) := by decide +kernel
theorem dL_law_1061 : decode cL_law 1061 = .ok (.aload_n 1, 1) := by decide +kernel
theorem dL_law_1062 : decode cL_law 1062 = .ok (.iconst 3, 1) := by decide +kernel
theorem dL_law_1063 : decode cL_law 1063 = .ok (.invokevirtual 47, 3) := by decide +kernel
theorem dL_law_1066 : decode cL_law 1066 = .ok (.ifCond .lt 30, 3) := by decide +kernel
theorem dL_law_1069 : decode cL_law 1069 = .ok (.aload_n 1, 1) := by decide +kernel
theorem dL_law_1070 : decode cL_law 1070 = .ok (.invokevirtual 92, 3) := by decide +kernel
theorem dL_law_1073 : decode cL_law 1073 = .ok (.ifCond .lt 23, 3) := by decide +kernel
theorem dL_law_1076 : decode cL_law 1076 = .ok (.aload_n 1, 1) := by decide +kernel
theorem dL_law_1077 : decode cL_law 1077 = .ok (.iconst 1, 1) := by decide +kernel
theorem dL_law_1078 : decode cL_law 1078 = .ok (.invokevirtual 15, 3) := by decide +kernel
theorem dL_law_1081 : decode cL_law 1081 = .ok (.iload 8, 2) := by decide +kernel
theorem dL_law_1083 : decode cL_law 1083 = .ok (.if_icmp .ne 13, 3) := by decide +kernel
theorem dL_law_1086 : decode cL_law 1086 = .ok (.aload_n 1, 1) := by decide +kernel
theorem dL_law_1087 : decode cL_law 1087 = .ok (.iconst 5, 1) := by decide +kernel
theorem dL_law_1088 : decode cL_law 1088 = .ok (.invokevirtual 15, 3) := by decide +kernel
theorem dL_law_1091 : decode cL_law 1091 = .ok (.iload 9, 2) := by decide +kernel
theorem dL_law_1093 : decode cL_law 1093 = .ok (.if_icmp .eq 5, 3) := by decide +kernel
theorem dL_law_1096 : decode cL_law 1096 = .ok (.iconst 0, 1) := by decide +kernel
theorem dL_law_1097 : decode cL_law 1097 = .ok (.ireturn, 1) := by decide +kernel
theorem dL_law_1098 : decode cL_law 1098 = .ok (.iinc 2 1, 3) := by decide +kernel
theorem dL_law_1101 : decode cL_law 1101 = .ok (.goto (-1050), 3) := by decide +kernel
theorem dL_law_1104 : decode cL_law 1104 = .ok (.aload_n 1, 1) := by decide +kernel
theorem dL_law_1105 : decode cL_law 1105 = .ok (.invokestatic 88, 3) := by decide +kernel
theorem dL_law_1108 : decode cL_law 1108 = .ok (.ireturn, 1) := by decide +kernel
abbrev vwCl : List vw_C := [(RX0, TX0, 5), (RX1, TX1, 6), (RX2, TX2, 11), (RX3, TX3, 11), (RX4, TX4, 9)]

theorem ggL_refuses_L_refusesAny_c8 : GoodIn wsL_refuses wsL_refusesAny_r8 := goodIn_r _ [198, 199, 200, 201, 202, 203, 204, 205, 206, 207, 208, 209, 210, 211, 212, 213, 214, 215, 216, 217, 218, 219, 220, 221] (by decide +kernel) (by decide +kernel)
theorem ggL_refuses_L_refusesAny_c9 : GoodIn wsL_refuses wsL_refusesAny_r9 := goodIn_r _ [222, 223, 224, 225, 226, 227, 228, 229, 230, 231, 232, 233, 234, 235, 236, 237, 238, 239, 240, 241, 242, 243, 244, 245] (by decide +kernel) (by decide +kernel)
theorem ggL_refuses_L_refusesAny_c10 : GoodIn wsL_refuses wsL_refusesAny_r10 := goodIn_r _ [246, 247, 248, 97, 98, 99, 100, 249, 250, 251, 252, 253, 254, 255, 256, 257, 258, 259, 260, 261, 262, 263, 264, 265] (by decide +kernel) (by decide +kernel)
theorem ggL_refuses_L_refusesAny_c11 : GoodIn wsL_refuses wsL_refusesAny_r11 := goodIn_r _ [266, 267, 268, 269, 270, 271, 272, 273, 274, 275, 276, 277, 278, 279, 280, 281, 282, 283, 284, 285, 286, 287, 288, 289] (by decide +kernel) (by decide +kernel)
theorem ggL_refuses_L_refusesAny_c12 : GoodIn wsL_refuses wsL_refusesAny_r12 := goodIn_r _ [290, 291, 292, 293, 294, 295, 296, 297, 298, 299, 300, 83, 70, 71, 72, 73, 75, 76, 77, 82, 89, 94, 95, 96] (by decide +kernel) (by decide +kernel)
theorem ggL_refuses_L_refusesAny_c13 : GoodIn wsL_refuses wsL_refusesAny_r13 := goodIn_r _ [101, 102, 103, 301, 302, 303, 304, 305, 306, 307, 308, 309, 310, 311, 312, 313, 314, 315, 316, 317, 318, 319, 320, 321] (by decide +kernel) (by decide +kernel)
theorem ggL_refuses_L_refusesAny_c14 : GoodIn wsL_refuses wsL_refusesAny_r14 := goodIn_r _ [322, 323, 324, 325, 326, 327, 328, 329, 330, 331, 332, 333, 334, 335, 336, 337, 338, 339, 340, 341, 342, 343, 344, 345] (by decide +kernel) (by decide +kernel)
theorem ggL_refuses_L_refusesAny_c15 : GoodIn wsL_refuses wsL_refusesAny_r15 := goodIn_r _ [346, 347, 348, 349, 350, 351, 352, 353, 354, 355, 356, 357, 358] (by decide +kernel) (by decide +kernel)
theorem ggL_refuses_L_refusesAny_wsX50 : GoodIn wsL_refuses wsX50 := goodIn_r _ [359, 360, 361, 362, 363, 364, 365, 366] (by decide +kernel) (by decide +kernel)
theorem ggL_refuses_L_refusesAny_wsX10 : GoodIn wsL_refuses wsX10 := goodIn_r _ [367, 368, 369, 370] (by decide +kernel) (by decide +kernel)
theorem ggL_refuses_L_refusesAny_wsX20 : GoodIn wsL_refuses wsX20 := goodIn_r _ [371, 372] (by decide +kernel) (by decide +kernel)
theorem ggL_refuses_L_refusesAny_wsX30 : GoodIn wsL_refuses wsX30 := goodIn_r _ [373, 374] (by decide +kernel) (by decide +kernel)
theorem ggL_refuses_L_refusesAny_wsX00 : GoodIn wsL_refuses wsX00 := goodIn_r _ [375, 376, 377, 378, 379, 380, 381, 382, 383, 384, 385, 386, 387, 388, 389] (by decide +kernel) (by decide +kernel)
theorem ggL_refuses_L_refusesAny : GoodIn wsL_refuses wsL_refusesAny := by
  unfold wsL_refusesAny
  exact goodIn_ca (goodIn_ca (goodIn_ca (goodIn_ca (goodIn_ca (goodIn_ca ggL_refuses_L_refusesAny_c1 (goodIn_app ggL_refuses_L_refusesAny_c2 (goodIn_app ggL_refuses_L_refusesAny_c3 (goodIn_app ggL_refuses_L_refusesAny_c4 (goodIn_app ggL_refuses_L_refusesAny_c5 (goodIn_app ggL_refuses_L_refusesAny_c6 (goodIn_app ggL_refuses_L_refusesAny_c7 (goodIn_app ggL_refuses_L_refusesAny_c8 (goodIn_app ggL_refuses_L_refusesAny_c9 (goodIn_app ggL_refuses_L_refusesAny_c10 (goodIn_app ggL_refuses_L_refusesAny_c11 (goodIn_app ggL_refuses_L_refusesAny_c12 (goodIn_app ggL_refuses_L_refusesAny_c13 (goodIn_app ggL_refuses_L_refusesAny_c14 (ggL_refuses_L_refusesAny_c15))))))))))))))) ggL_refuses_L_refusesAny_wsX50) ggL_refuses_L_refusesAny_wsX10) ggL_refuses_L_refusesAny_wsX20) ggL_refuses_L_refusesAny_wsX30) ggL_refuses_L_refusesAny_wsX00
set_option maxRecDepth 20000 in
theorem gL_refuses_L_refusesAny : GoodIn wsL_refuses (va_wsS RL 85 yL_refusesAny wsL_refusesAny) := goodIn_app (goodIn_of _ (by decide +kernel)) ggL_refuses_L_refusesAny
theorem dL_refuses_0 : decode cL_refuses 0 = .ok (.aload_n 0, 1) := by decide +kernel
theorem dL_refuses_1 : decode cL_refuses 1 = .ok (.invokestatic 81, 3) := by decide +kernel
theorem dL_refuses_4 : decode cL_refuses 4 = .ok (.lstore_n 2, 1) := by decide +kernel
theorem dL_refuses_5 : decode cL_refuses 5 = .ok (.aload_n 0, 1) := by decide +kernel
theorem dL_refuses_6 : decode cL_refuses 6 = .ok (.bipush 14, 2) := by decide +kernel
theorem dL_refuses_8 : decode cL_refuses 8 = .ok (.invokevirtual 13, 3) := by decide +kernel
theorem dL_refuses_11 : decode cL_refuses 11 = .ok (.istore 4, 2) := by decide +kernel
theorem dL_refuses_13 : decode cL_refuses 13 = .ok (.aload_n 0, 1) := by decide +kernel
theorem dL_refuses_14 : decode cL_refuses 14 = .ok (.iload_n 1, 1) := by decide +kernel
theorem dL_refuses_15 : decode cL_refuses 15 = .ok (.invokestatic 85, 3) := by decide +kernel
theorem dL_refuses_18 : decode cL_refuses 18 = .ok (.ifCond .eq 27, 3) := by decide +kernel
theorem dL_refuses_21 : decode cL_refuses 21 = .ok (.aload_n 0, 1) := by decide +kernel
theorem dL_refuses_22 : decode cL_refuses 22 = .ok (.invokestatic 81, 3) := by decide +kernel
theorem dL_refuses_25 : decode cL_refuses 25 = .ok (.lload_n 2, 1) := by decide +kernel
theorem dL_refuses_26 : decode cL_refuses 26 = .ok (.lcmp, 1) := by decide +kernel
theorem dL_refuses_27 : decode cL_refuses 27 = .ok (.ifCond .ne 18, 3) := by decide +kernel
theorem dL_refuses_30 : decode cL_refuses 30 = .ok (.aload_n 0, 1) := by decide +kernel
theorem dL_refuses_31 : decode cL_refuses 31 = .ok (.bipush 14, 2) := by decide +kernel
theorem dL_refuses_33 : decode cL_refuses 33 = .ok (.invokevirtual 13, 3) := by decide +kernel
theorem dL_refuses_36 : decode cL_refuses 36 = .ok (.iload 4, 2) := by decide +kernel
theorem dL_refuses_38 : decode cL_refuses 38 = .ok (.if_icmp .ne 7, 3) := by decide +kernel
theorem dL_refuses_41 : decode cL_refuses 41 = .ok (.iconst 1, 1) := by decide +kernel
theorem dL_refuses_42 : decode cL_refuses 42 = .ok (.goto 4, 3) := by decide +kernel
theorem dL_refuses_45 : decode cL_refuses 45 = .ok (.iconst 0, 1) := by decide +kernel
theorem dL_refuses_46 : decode cL_refuses 46 = .ok (.ireturn, 1) := by decide +kernel
set_option maxRecDepth 20000 in
theorem ggL_word_X5_wipe : GoodIn wsL_word wsX5_wipe := goodIn_r _ [5, 6, 7, 8, 9, 10, 11, 12, 13, 29, 30, 31, 32, 33, 34, 35, 36, 37, 38] (by decide +kernel) (by decide +kernel)
set_option maxRecDepth 20000 in
theorem gL_word_X5_wipe : GoodIn wsL_word (wsV RL 40 RX5 yX5_wipe wsX5_wipe) := goodIn_app (goodIn_of _ (by decide +kernel)) ggL_word_X5_wipe
set_option maxRecDepth 20000 in
theorem ggL_word_X5_put : GoodIn wsL_word wsX5_put := goodIn_r _ [17, 6, 7, 18, 19, 4, 20, 21, 22, 23, 24, 25, 26, 11, 27, 13, 28, 29, 30, 31, 32, 33, 34, 35, 36, 37, 38] (by decide +kernel) (by decide +kernel)
set_option maxRecDepth 20000 in
theorem gL_word_X5_put : GoodIn wsL_word (wsV RL 52 RX5 yX5_put wsX5_put) := goodIn_app (goodIn_of _ (by decide +kernel)) ggL_word_X5_put
theorem dL_word_0 : decode cL_word 0 = .ok (.aload_n 0, 1) := by decide +kernel
theorem dL_word_1 : decode cL_word 1 = .ok (.invokevirtual 40, 3) := by decide +kernel
theorem dL_word_4 : decode cL_word 4 = .ok (.ifCond .lt 7, 3) := by decide +kernel
theorem dL_word_7 : decode cL_word 7 = .ok (.iconst 1, 1) := by decide +kernel
theorem dL_word_8 : decode cL_word 8 = .ok (.goto 4, 3) := by decide +kernel
theorem dL_word_11 : decode cL_word 11 = .ok (.iconst 0, 1) := by decide +kernel
theorem dL_word_12 : decode cL_word 12 = .ok (.istore_n 2, 1) := by decide +kernel
theorem dL_word_13 : decode cL_word 13 = .ok (.iconst 0, 1) := by decide +kernel
theorem dL_word_14 : decode cL_word 14 = .ok (.istore_n 3, 1) := by decide +kernel
theorem dL_word_15 : decode cL_word 15 = .ok (.iload_n 3, 1) := by decide +kernel
theorem dL_word_16 : decode cL_word 16 = .ok (.iconst 1, 1) := by decide +kernel
theorem dL_word_17 : decode cL_word 17 = .ok (.iload_n 1, 1) := by decide +kernel
theorem dL_word_18 : decode cL_word 18 = .ok (.bipush 7, 2) := by decide +kernel
theorem dL_word_20 : decode cL_word 20 = .ok (.irem, 1) := by decide +kernel
theorem dL_word_21 : decode cL_word 21 = .ok (.iadd, 1) := by decide +kernel
theorem dL_word_22 : decode cL_word 22 = .ok (.if_icmp .ge 63, 3) := by decide +kernel
theorem dL_word_25 : decode cL_word 25 = .ok (.iload_n 2, 1) := by decide +kernel
theorem dL_word_26 : decode cL_word 26 = .ok (.ifCond .eq 59, 3) := by decide +kernel
theorem dL_word_29 : decode cL_word 29 = .ok (.aload_n 0, 1) := by decide +kernel
theorem dL_word_30 : decode cL_word 30 = .ok (.bipush 97, 2) := by decide +kernel
theorem dL_word_32 : decode cL_word 32 = .ok (.iload_n 1, 1) := by decide +kernel
theorem dL_word_33 : decode cL_word 33 = .ok (.iconst 3, 1) := by decide +kernel
theorem dL_word_34 : decode cL_word 34 = .ok (.iconst 2, 1) := by decide +kernel
theorem dL_word_35 : decode cL_word 35 = .ok (.iload_n 3, 1) := by decide +kernel
theorem dL_word_36 : decode cL_word 36 = .ok (.imul, 1) := by decide +kernel
theorem dL_word_37 : decode cL_word 37 = .ok (.iadd, 1) := by decide +kernel
theorem dL_word_38 : decode cL_word 38 = .ok (.ishr, 1) := by decide +kernel
theorem dL_word_39 : decode cL_word 39 = .ok (.iconst 4, 1) := by decide +kernel
theorem dL_word_40 : decode cL_word 40 = .ok (.irem, 1) := by decide +kernel
theorem dL_word_41 : decode cL_word 41 = .ok (.ifCond .ne 14, 3) := by decide +kernel
theorem dL_word_44 : decode cL_word 44 = .ok (.iload_n 1, 1) := by decide +kernel
theorem dL_word_45 : decode cL_word 45 = .ok (.iconst 5, 1) := by decide +kernel
theorem dL_word_46 : decode cL_word 46 = .ok (.iload_n 3, 1) := by decide +kernel
theorem dL_word_47 : decode cL_word 47 = .ok (.iadd, 1) := by decide +kernel
theorem dL_word_48 : decode cL_word 48 = .ok (.ishr, 1) := by decide +kernel
theorem dL_word_49 : decode cL_word 49 = .ok (.bipush 26, 2) := by decide +kernel
theorem dL_word_51 : decode cL_word 51 = .ok (.irem, 1) := by decide +kernel
theorem dL_word_52 : decode cL_word 52 = .ok (.goto 10, 3) := by decide +kernel
theorem dL_word_55 : decode cL_word 55 = .ok (.iload_n 1, 1) := by decide +kernel
theorem dL_word_56 : decode cL_word 56 = .ok (.iconst 3, 1) := by decide +kernel
theorem dL_word_57 : decode cL_word 57 = .ok (.iload_n 3, 1) := by decide +kernel
theorem dL_word_58 : decode cL_word 58 = .ok (.iadd, 1) := by decide +kernel
theorem dL_word_59 : decode cL_word 59 = .ok (.ishr, 1) := by decide +kernel
theorem dL_word_60 : decode cL_word 60 = .ok (.iconst 3, 1) := by decide +kernel
theorem dL_word_61 : decode cL_word 61 = .ok (.irem, 1) := by decide +kernel
theorem dL_word_62 : decode cL_word 62 = .ok (.iadd, 1) := by decide +kernel
theorem dL_word_63 : decode cL_word 63 = .ok (.i2l, 1) := by decide +kernel
theorem dL_word_64 : decode cL_word 64 = .ok (.invokevirtual 52, 3) := by decide +kernel
theorem dL_word_67 : decode cL_word 67 = .ok (.iload_n 3, 1) := by decide +kernel
theorem dL_word_68 : decode cL_word 68 = .ok (.iconst 1, 1) := by decide +kernel
theorem dL_word_69 : decode cL_word 69 = .ok (.iadd, 1) := by decide +kernel
theorem dL_word_70 : decode cL_word 70 = .ok (.if_icmp .ne 7, 3) := by decide +kernel
theorem dL_word_73 : decode cL_word 73 = .ok (.iconst 1, 1) := by decide +kernel
theorem dL_word_74 : decode cL_word 74 = .ok (.goto 4, 3) := by decide +kernel
theorem dL_word_77 : decode cL_word 77 = .ok (.iconst 0, 1) := by decide +kernel
theorem dL_word_78 : decode cL_word 78 = .ok (.istore_n 2, 1) := by decide +kernel
theorem dL_word_79 : decode cL_word 79 = .ok (.iinc 3 1, 3) := by decide +kernel
theorem dL_word_82 : decode cL_word 82 = .ok (.goto (-67), 3) := by decide +kernel
theorem dL_word_85 : decode cL_word 85 = .ok (.iload_n 2, 1) := by decide +kernel
theorem dL_word_86 : decode cL_word 86 = .ok (.ireturn, 1) := by decide +kernel
set_option maxRecDepth 20000 in
theorem ggL_act_X5_count : GoodIn wsL_act wsX5_count := goodIn_r _ [6, 7, 8, 9, 10, 11, 12, 13, 14, 15, 16, 17, 18, 19, 20, 21, 22, 23, 5, 24, 25, 26, 27, 28, 29, 30, 31, 32, 33, 34, 35, 36, 37, 38, 39, 40, 41, 42, 43, 44, 45, 46, 47, 48, 49, 50, 51, 52, 53, 54, 55, 56, 57, 58, 59, 60, 61, 62, 63, 64, 296, 297, 298, 299, 300, 301, 302, 303, 304, 305, 306, 307, 308, 309, 310, 311, 312, 313, 314, 315, 316, 317, 318, 319, 320, 321, 322, 323, 324, 325, 326] (by decide +kernel) (by decide +kernel)
set_option maxRecDepth 20000 in
theorem gL_act_X5_count : GoodIn wsL_act (wsV RL 13 RX5 yX5_count wsX5_count) := goodIn_app (goodIn_of _ (by decide +kernel)) ggL_act_X5_count
set_option maxRecDepth 20000 in
theorem ggL_act_L_word : GoodIn wsL_act wsL_word := goodIn_r _ [68, 69, 70, 71, 5, 72, 10, 11, 73, 74, 75, 76, 77, 78, 79, 80, 81, 82, 83, 84, 85, 86, 87, 88, 89, 90, 91, 92, 93, 296, 297, 298, 299, 300, 301, 302, 303, 308, 309] (by decide +kernel) (by decide +kernel)
set_option maxRecDepth 20000 in
theorem gL_act_L_word : GoodIn wsL_act (va_wsS RL 89 yL_word wsL_word) := goodIn_app (goodIn_of _ (by decide +kernel)) ggL_act_L_word
set_option maxRecDepth 20000 in
theorem ggL_act_X5_find : GoodIn wsL_act wsX5_find := goodIn_r _ [97, 10, 7, 98, 99, 100, 76, 101, 78, 93, 102, 103, 104, 105, 106, 107, 108, 109, 110, 111, 112, 113, 114, 115, 116, 117, 118, 119, 120, 121, 122, 17, 123, 124, 125, 126, 127, 128, 19, 129, 130, 131, 132, 296, 297, 298, 299, 300, 301, 302, 303, 308, 309, 304, 305, 306, 307] (by decide +kernel) (by decide +kernel)
set_option maxRecDepth 20000 in
theorem gL_act_X5_find : GoodIn wsL_act (wsV RL 56 RX5 yX5_find wsX5_find) := goodIn_app (goodIn_of _ (by decide +kernel)) ggL_act_X5_find
set_option maxRecDepth 20000 in
theorem ggL_act_X5_entry : GoodIn wsL_act wsX5_entry := goodIn_r _ [136, 7, 137, 25, 138, 139, 140, 141, 130, 131, 17, 132, 19, 142, 56, 57, 32, 58, 59, 60, 143, 144, 145, 146, 124, 129, 147, 114, 111, 115, 116, 148, 149, 150, 113, 117, 118, 119, 151, 152, 5, 153, 296, 297, 298, 299, 300, 301, 302, 303, 304, 305, 306, 307, 312, 313, 314, 315, 316, 317, 318, 319, 320, 321, 322, 323, 324, 325, 326] (by decide +kernel) (by decide +kernel)
set_option maxRecDepth 20000 in
theorem gL_act_X5_entry : GoodIn wsL_act (wsV RL 19 RX5 yX5_entry wsX5_entry) := goodIn_app (goodIn_of _ (by decide +kernel)) ggL_act_X5_entry
set_option maxRecDepth 20000 in
theorem ggL_act_X5_put : GoodIn wsL_act wsX5_put := goodIn_r _ [82, 10, 11, 83, 84, 5, 85, 86, 87, 88, 89, 90, 91, 76, 92, 78, 93, 296, 297, 298, 299, 300, 301, 302, 303, 308, 309] (by decide +kernel) (by decide +kernel)
set_option maxRecDepth 20000 in
theorem gL_act_X5_put : GoodIn wsL_act (wsV RL 52 RX5 yX5_put wsX5_put) := goodIn_app (goodIn_of _ (by decide +kernel)) ggL_act_X5_put
set_option maxRecDepth 20000 in
theorem ggL_act_X5_read : GoodIn wsL_act wsX5_read := goodIn_r _ [157, 10, 158, 7, 12, 9, 159, 160, 161, 76, 162, 78, 93, 163, 164, 165, 102, 103, 104, 166, 167, 168, 169, 170, 171, 172, 173, 174, 17, 175, 176, 19, 20, 124, 177, 178, 179, 180, 109, 110, 111, 112, 113, 114, 115, 116, 117, 118, 119, 181, 182, 183, 184, 125, 126, 127, 128, 129, 130, 131, 132, 185, 186, 187, 188, 189, 190, 191, 192, 193, 194, 195, 196, 197, 198, 199, 200, 73, 74, 75, 77, 201, 202, 203, 5, 204, 25, 8, 205, 206, 207, 32, 208, 43, 34, 209, 210, 211, 212, 213, 214, 215, 216, 217, 218, 219, 220, 221, 222, 223, 224, 225, 226, 59, 227, 228, 229, 230, 231, 232, 233, 234, 44, 235, 50, 45, 236, 237, 238, 239, 60, 240, 241, 242, 243, 244, 245, 246, 247, 248, 249, 250, 251, 252, 253, 254, 255, 256, 257, 258, 259, 144, 145, 146, 260, 296, 297, 298, 299, 300, 301, 302, 303, 304, 305, 306, 307, 308, 309, 310, 311, 312, 313, 314, 315, 316, 317, 318, 319, 320, 321, 322, 323, 324, 325, 326] (by decide +kernel) (by decide +kernel)
set_option maxRecDepth 20000 in
theorem gL_act_X5_read : GoodIn wsL_act (wsV RL 44 RX5 yX5_read wsX5_read) := goodIn_app (goodIn_of _ (by decide +kernel)) ggL_act_X5_read
set_option maxRecDepth 20000 in
theorem ggL_act_X5_change : GoodIn wsL_act wsX5_change := goodIn_r _ [264, 7, 12, 137, 141, 130, 131, 17, 132, 19, 189, 190, 191, 192, 193, 194, 195, 196, 197, 198, 199, 200, 173, 174, 175, 176, 20, 124, 201, 202, 203, 5, 204, 25, 8, 205, 206, 207, 32, 208, 43, 34, 209, 210, 211, 212, 213, 214, 215, 216, 217, 218, 219, 220, 221, 222, 223, 224, 225, 226, 59, 227, 228, 229, 230, 231, 232, 233, 234, 44, 235, 50, 45, 236, 237, 238, 239, 60, 240, 241, 242, 243, 244, 245, 246, 247, 248, 249, 250, 251, 252, 253, 254, 255, 256, 257, 258, 259, 144, 145, 146, 129, 260, 114, 111, 115, 116, 296, 297, 298, 299, 300, 301, 302, 303, 304, 305, 306, 307, 310, 311, 312, 313, 314, 315, 316, 317, 318, 319, 320, 321, 322, 323, 324, 325, 326] (by decide +kernel) (by decide +kernel)
set_option maxRecDepth 20000 in
theorem gL_act_X5_change : GoodIn wsL_act (wsV RL 31 RX5 yX5_change wsX5_change) := goodIn_app (goodIn_of _ (by decide +kernel)) ggL_act_X5_change
set_option maxRecDepth 20000 in
theorem ggL_act_X5_drop : GoodIn wsL_act wsX5_drop := goodIn_r _ [268, 7, 12, 137, 141, 130, 131, 17, 132, 19, 189, 190, 191, 192, 193, 194, 195, 196, 197, 198, 199, 200, 173, 174, 175, 176, 20, 124, 269, 270, 271, 272, 129, 201, 202, 203, 5, 204, 25, 8, 205, 206, 207, 32, 208, 43, 34, 209, 210, 211, 212, 213, 214, 215, 216, 217, 218, 219, 220, 221, 222, 223, 224, 225, 226, 59, 227, 228, 229, 230, 231, 232, 233, 234, 44, 235, 50, 45, 236, 237, 238, 239, 60, 240, 241, 242, 243, 244, 245, 246, 247, 248, 249, 250, 251, 252, 253, 254, 255, 256, 257, 258, 259, 144, 145, 146, 260, 114, 111, 115, 116, 296, 297, 298, 299, 300, 301, 302, 303, 304, 305, 306, 307, 310, 311, 312, 313, 314, 315, 316, 317, 318, 319, 320, 321, 322, 323, 324, 325, 326] (by decide +kernel) (by decide +kernel)
set_option maxRecDepth 20000 in
theorem gL_act_X5_drop : GoodIn wsL_act (wsV RL 34 RX5 yX5_drop wsX5_drop) := goodIn_app (goodIn_of _ (by decide +kernel)) ggL_act_X5_drop
set_option maxRecDepth 20000 in
theorem ggL_act_X5_join : GoodIn wsL_act wsX5_join := goodIn_r _ [276, 7, 137, 12, 141, 130, 131, 17, 132, 19, 189, 190, 191, 192, 193, 194, 195, 196, 197, 198, 199, 200, 173, 174, 175, 176, 20, 124, 269, 270, 271, 272, 129, 201, 202, 203, 5, 204, 25, 8, 205, 206, 207, 32, 208, 43, 34, 209, 210, 211, 212, 213, 214, 215, 216, 217, 218, 219, 220, 221, 222, 223, 224, 225, 226, 59, 227, 228, 229, 230, 231, 232, 233, 234, 44, 235, 50, 45, 236, 237, 238, 239, 60, 240, 241, 242, 243, 244, 245, 246, 247, 248, 249, 250, 251, 252, 253, 254, 255, 256, 257, 258, 259, 144, 145, 146, 260, 114, 111, 115, 116, 296, 297, 298, 299, 300, 301, 302, 303, 304, 305, 306, 307, 310, 311, 312, 313, 314, 315, 316, 317, 318, 319, 320, 321, 322, 323, 324, 325, 326] (by decide +kernel) (by decide +kernel)
set_option maxRecDepth 20000 in
theorem gL_act_X5_join : GoodIn wsL_act (wsV RL 37 RX5 yX5_join wsX5_join) := goodIn_app (goodIn_of _ (by decide +kernel)) ggL_act_X5_join
set_option maxRecDepth 20000 in
theorem ggL_act_X5_rename : GoodIn wsL_act wsX5_rename := goodIn_r _ [280, 7, 10, 12, 137, 141, 130, 131, 17, 132, 19, 98, 99, 100, 76, 101, 78, 93, 102, 103, 104, 105, 106, 107, 108, 109, 110, 111, 112, 113, 114, 115, 116, 117, 118, 119, 120, 121, 122, 123, 124, 125, 126, 127, 128, 129, 189, 190, 191, 192, 193, 194, 195, 196, 197, 198, 199, 200, 173, 174, 175, 176, 20, 269, 270, 271, 272, 281, 182, 183, 184, 185, 186, 187, 188, 73, 74, 75, 77, 201, 202, 203, 5, 204, 25, 8, 205, 206, 207, 32, 208, 43, 34, 209, 210, 211, 212, 213, 214, 215, 216, 217, 218, 219, 220, 221, 222, 223, 224, 225, 226, 59, 227, 228, 229, 230, 231, 232, 233, 234, 44, 235, 50, 45, 236, 237, 238, 239, 60, 240, 241, 242, 243, 244, 245, 246, 247, 248, 249, 250, 251, 252, 253, 254, 255, 256, 257, 258, 259, 144, 145, 146, 260, 296, 297, 298, 299, 300, 301, 302, 303, 304, 305, 306, 307, 308, 309, 310, 311, 312, 313, 314, 315, 316, 317, 318, 319, 320, 321, 322, 323, 324, 325, 326] (by decide +kernel) (by decide +kernel)
set_option maxRecDepth 20000 in
theorem gL_act_X5_rename : GoodIn wsL_act (wsV RL 47 RX5 yX5_rename wsX5_rename) := goodIn_app (goodIn_of _ (by decide +kernel)) ggL_act_X5_rename
set_option maxRecDepth 20000 in
theorem ggL_act_X5_ifSet : GoodIn wsL_act wsX5_ifSet := goodIn_r _ [285, 7, 8, 286, 26, 287, 288, 5, 289, 290, 291, 205, 206, 207, 32, 208, 43, 34, 209, 210, 211, 212, 213, 214, 215, 216, 217, 218, 219, 220, 221, 222, 223, 224, 225, 226, 59, 227, 228, 229, 230, 231, 232, 233, 234, 44, 235, 50, 45, 236, 237, 238, 239, 60, 240, 241, 242, 243, 244, 245, 246, 247, 248, 249, 250, 251, 252, 253, 254, 255, 256, 257, 258, 259, 144, 145, 17, 146, 124, 129, 130, 131, 132, 19, 260, 114, 111, 115, 116, 296, 297, 298, 299, 300, 301, 302, 303, 304, 305, 306, 307, 312, 313, 314, 315, 316, 317, 318, 319, 320, 321, 322, 323, 324, 325, 326] (by decide +kernel) (by decide +kernel)
set_option maxRecDepth 20000 in
theorem gL_act_X5_ifSet : GoodIn wsL_act (wsV RL 66 RX5 yX5_ifSet wsX5_ifSet) := goodIn_app (goodIn_of _ (by decide +kernel)) ggL_act_X5_ifSet
set_option maxRecDepth 20000 in
theorem ggL_act_X5_set : GoodIn wsL_act wsX5_set := goodIn_r _ [295, 12, 7, 8, 287, 288, 5, 289, 290, 291, 189, 190, 191, 192, 193, 194, 195, 196, 197, 198, 199, 200, 173, 174, 17, 175, 176, 19, 20, 124, 201, 202, 203, 204, 25, 205, 206, 207, 32, 208, 43, 34, 209, 210, 211, 212, 213, 214, 215, 216, 217, 218, 219, 220, 221, 222, 223, 224, 225, 226, 59, 227, 228, 229, 230, 231, 232, 233, 234, 44, 235, 50, 45, 236, 237, 238, 239, 60, 240, 241, 242, 243, 244, 245, 246, 247, 248, 249, 250, 251, 252, 253, 254, 255, 256, 257, 258, 259, 144, 145, 146, 129, 130, 131, 132, 260, 114, 111, 115, 116, 296, 297, 298, 299, 300, 301, 302, 303, 304, 305, 306, 307, 310, 311, 312, 313, 314, 315, 316, 317, 318, 319, 320, 321, 322, 323, 324, 325, 326] (by decide +kernel) (by decide +kernel)
set_option maxRecDepth 20000 in
theorem gL_act_X5_set : GoodIn wsL_act (wsV RL 28 RX5 yX5_set wsX5_set) := goodIn_app (goodIn_of _ (by decide +kernel)) ggL_act_X5_set
theorem dL_act_0 : decode cL_act 0 = .ok (.iload_n 1, 1) := by decide +kernel
theorem dL_act_1 : decode cL_act 1 = .ok (.bipush 12, 2) := by decide +kernel
theorem dL_act_3 : decode cL_act 3 = .ok (.irem, 1) := by decide +kernel
theorem dL_act_4 : decode cL_act 4 = .ok (.istore_n 3, 1) := by decide +kernel
theorem dL_act_5 : decode cL_act 5 = .ok (.aload_n 0, 1) := by decide +kernel
theorem dL_act_6 : decode cL_act 6 = .ok (.iconst 3, 1) := by decide +kernel
theorem dL_act_7 : decode cL_act 7 = .ok (.invokevirtual 13, 3) := by decide +kernel
theorem dL_act_10 : decode cL_act 10 = .ok (.istore 4, 2) := by decide +kernel
theorem dL_act_12 : decode cL_act 12 = .ok (.aload_n 0, 1) := by decide +kernel
theorem dL_act_13 : decode cL_act 13 = .ok (.bipush 6, 2) := by decide +kernel
theorem dL_act_15 : decode cL_act 15 = .ok (.invokevirtual 13, 3) := by decide +kernel
theorem dL_act_18 : decode cL_act 18 = .ok (.istore 5, 2) := by decide +kernel
theorem dL_act_20 : decode cL_act 20 = .ok (.iload 4, 2) := by decide +kernel
theorem dL_act_22 : decode cL_act 22 = .ok (.ifCond .ne 7, 3) := by decide +kernel
theorem dL_act_25 : decode cL_act 25 = .ok (.iconst 0, 1) := by decide +kernel
theorem dL_act_26 : decode cL_act 26 = .ok (.goto 7, 3) := by decide +kernel
theorem dL_act_29 : decode cL_act 29 = .ok (.iload_n 2, 1) := by decide +kernel
theorem dL_act_30 : decode cL_act 30 = .ok (.iload 4, 2) := by decide +kernel
theorem dL_act_32 : decode cL_act 32 = .ok (.irem, 1) := by decide +kernel
theorem dL_act_33 : decode cL_act 33 = .ok (.istore 6, 2) := by decide +kernel
theorem dL_act_35 : decode cL_act 35 = .ok (.iload_n 3, 1) := by decide +kernel
theorem dL_act_36 : decode cL_act 36 = .ok (.bipush 6, 2) := by decide +kernel
theorem dL_act_38 : decode cL_act 38 = .ok (.if_icmp .ge 208, 3) := by decide +kernel
theorem dL_act_41 : decode cL_act 41 = .ok (.iconst 1, 1) := by decide +kernel
theorem dL_act_42 : decode cL_act 42 = .ok (.iload_n 2, 1) := by decide +kernel
theorem dL_act_43 : decode cL_act 43 = .ok (.bipush 40, 2) := by decide +kernel
theorem dL_act_45 : decode cL_act 45 = .ok (.irem, 1) := by decide +kernel
theorem dL_act_46 : decode cL_act 46 = .ok (.iadd, 1) := by decide +kernel
theorem dL_act_47 : decode cL_act 47 = .ok (.istore 7, 2) := by decide +kernel
theorem dL_act_49 : decode cL_act 49 = .ok (.aload_n 0, 1) := by decide +kernel
theorem dL_act_50 : decode cL_act 50 = .ok (.iload_n 1, 1) := by decide +kernel
theorem dL_act_51 : decode cL_act 51 = .ok (.bipush 12, 2) := by decide +kernel
theorem dL_act_53 : decode cL_act 53 = .ok (.idiv, 1) := by decide +kernel
theorem dL_act_54 : decode cL_act 54 = .ok (.invokestatic 89, 3) := by decide +kernel
theorem dL_act_57 : decode cL_act 57 = .ok (.istore 8, 2) := by decide +kernel
theorem dL_act_59 : decode cL_act 59 = .ok (.aload_n 0, 1) := by decide +kernel
theorem dL_act_60 : decode cL_act 60 = .ok (.invokevirtual 56, 3) := by decide +kernel
theorem dL_act_63 : decode cL_act 63 = .ok (.istore 9, 2) := by decide +kernel
theorem dL_act_65 : decode cL_act 65 = .ok (.iload 9, 2) := by decide +kernel
theorem dL_act_67 : decode cL_act 67 = .ok (.ifCond .ge 7, 3) := by decide +kernel
theorem dL_act_70 : decode cL_act 70 = .ok (.iconst 0, 1) := by decide +kernel
theorem dL_act_71 : decode cL_act 71 = .ok (.goto 10, 3) := by decide +kernel
theorem dL_act_74 : decode cL_act 74 = .ok (.aload_n 0, 1) := by decide +kernel
theorem dL_act_75 : decode cL_act 75 = .ok (.iload 9, 2) := by decide +kernel
theorem dL_act_77 : decode cL_act 77 = .ok (.iconst 0, 1) := by decide +kernel
theorem dL_act_78 : decode cL_act 78 = .ok (.invokevirtual 19, 3) := by decide +kernel
theorem dL_act_81 : decode cL_act 81 = .ok (.istore 10, 2) := by decide +kernel
theorem dL_act_83 : decode cL_act 83 = .ok (.iload 8, 2) := by decide +kernel
theorem dL_act_85 : decode cL_act 85 = .ok (.ifCond .eq 56, 3) := by decide +kernel
theorem dL_act_88 : decode cL_act 88 = .ok (.aload_n 0, 1) := by decide +kernel
theorem dL_act_89 : decode cL_act 89 = .ok (.ldc2_w 92, 3) := by decide +kernel
theorem dL_act_92 : decode cL_act 92 = .ok (.invokevirtual 52, 3) := by decide +kernel
theorem dL_act_95 : decode cL_act 95 = .ok (.ifCond .le 46, 3) := by decide +kernel
theorem dL_act_98 : decode cL_act 98 = .ok (.iload 7, 2) := by decide +kernel
theorem dL_act_100 : decode cL_act 100 = .ok (.bipush 10, 2) := by decide +kernel
theorem dL_act_102 : decode cL_act 102 = .ok (.if_icmp .lt 19, 3) := by decide +kernel
theorem dL_act_105 : decode cL_act 105 = .ok (.aload_n 0, 1) := by decide +kernel
theorem dL_act_106 : decode cL_act 106 = .ok (.bipush 48, 2) := by decide +kernel
theorem dL_act_108 : decode cL_act 108 = .ok (.iload 7, 2) := by decide +kernel
theorem dL_act_110 : decode cL_act 110 = .ok (.bipush 10, 2) := by decide +kernel
theorem dL_act_112 : decode cL_act 112 = .ok (.idiv, 1) := by decide +kernel
theorem dL_act_113 : decode cL_act 113 = .ok (.iadd, 1) := by decide +kernel
theorem dL_act_114 : decode cL_act 114 = .ok (.i2l, 1) := by decide +kernel
theorem dL_act_115 : decode cL_act 115 = .ok (.invokevirtual 52, 3) := by decide +kernel
theorem dL_act_118 : decode cL_act 118 = .ok (.ifCond .le 23, 3) := by decide +kernel
theorem dL_act_121 : decode cL_act 121 = .ok (.aload_n 0, 1) := by decide +kernel
theorem dL_act_122 : decode cL_act 122 = .ok (.bipush 48, 2) := by decide +kernel
theorem dL_act_124 : decode cL_act 124 = .ok (.iload 7, 2) := by decide +kernel
theorem dL_act_126 : decode cL_act 126 = .ok (.bipush 10, 2) := by decide +kernel
theorem dL_act_128 : decode cL_act 128 = .ok (.irem, 1) := by decide +kernel
theorem dL_act_129 : decode cL_act 129 = .ok (.iadd, 1) := by decide +kernel
theorem dL_act_130 : decode cL_act 130 = .ok (.i2l, 1) := by decide +kernel
theorem dL_act_131 : decode cL_act 131 = .ok (.invokevirtual 52, 3) := by decide +kernel
theorem dL_act_134 : decode cL_act 134 = .ok (.ifCond .le 7, 3) := by decide +kernel
theorem dL_act_137 : decode cL_act 137 = .ok (.iconst 1, 1) := by decide +kernel
theorem dL_act_138 : decode cL_act 138 = .ok (.goto 4, 3) := by decide +kernel
theorem dL_act_141 : decode cL_act 141 = .ok (.iconst 0, 1) := by decide +kernel
theorem dL_act_142 : decode cL_act 142 = .ok (.istore 8, 2) := by decide +kernel
theorem dL_act_144 : decode cL_act 144 = .ok (.iload 8, 2) := by decide +kernel
theorem dL_act_146 : decode cL_act 146 = .ok (.ifCond .eq 10, 3) := by decide +kernel
theorem dL_act_149 : decode cL_act 149 = .ok (.aload_n 0, 1) := by decide +kernel
theorem dL_act_150 : decode cL_act 150 = .ok (.invokevirtual 44, 3) := by decide +kernel
theorem dL_act_153 : decode cL_act 153 = .ok (.goto 4, 3) := by decide +kernel
theorem dL_act_156 : decode cL_act 156 = .ok (.iconst 0, 1) := by decide +kernel
theorem dL_act_157 : decode cL_act 157 = .ok (.istore 11, 2) := by decide +kernel
theorem dL_act_159 : decode cL_act 159 = .ok (.iload 9, 2) := by decide +kernel
theorem dL_act_161 : decode cL_act 161 = .ok (.ifCond .ge 33, 3) := by decide +kernel
theorem dL_act_164 : decode cL_act 164 = .ok (.iload 4, 2) := by decide +kernel
theorem dL_act_166 : decode cL_act 166 = .ok (.bipush 30, 2) := by decide +kernel
theorem dL_act_168 : decode cL_act 168 = .ok (.if_icmp .ne 26, 3) := by decide +kernel
theorem dL_act_171 : decode cL_act 171 = .ok (.iload 11, 2) := by decide +kernel
theorem dL_act_173 : decode cL_act 173 = .ok (.bipush (-4), 2) := by decide +kernel
theorem dL_act_175 : decode cL_act 175 = .ok (.if_icmp .ne 16, 3) := by decide +kernel
theorem dL_act_178 : decode cL_act 178 = .ok (.aload_n 0, 1) := by decide +kernel
theorem dL_act_179 : decode cL_act 179 = .ok (.bipush 13, 2) := by decide +kernel
theorem dL_act_181 : decode cL_act 181 = .ok (.invokevirtual 13, 3) := by decide +kernel
theorem dL_act_184 : decode cL_act 184 = .ok (.ifCond .le 7, 3) := by decide +kernel
theorem dL_act_187 : decode cL_act 187 = .ok (.iconst 0, 1) := by decide +kernel
theorem dL_act_188 : decode cL_act 188 = .ok (.goto 5, 3) := by decide +kernel
theorem dL_act_191 : decode cL_act 191 = .ok (.bipush (-9), 2) := by decide +kernel
theorem dL_act_193 : decode cL_act 193 = .ok (.ireturn, 1) := by decide +kernel
theorem dL_act_194 : decode cL_act 194 = .ok (.iload 11, 2) := by decide +kernel
theorem dL_act_196 : decode cL_act 196 = .ok (.iload 9, 2) := by decide +kernel
theorem dL_act_198 : decode cL_act 198 = .ok (.ifCond .ge 10, 3) := by decide +kernel
theorem dL_act_201 : decode cL_act 201 = .ok (.iload 4, 2) := by decide +kernel
theorem dL_act_203 : decode cL_act 203 = .ok (.iconst 1, 1) := by decide +kernel
theorem dL_act_204 : decode cL_act 204 = .ok (.iadd, 1) := by decide +kernel
theorem dL_act_205 : decode cL_act 205 = .ok (.goto 5, 3) := by decide +kernel
theorem dL_act_208 : decode cL_act 208 = .ok (.iload 4, 2) := by decide +kernel
theorem dL_act_210 : decode cL_act 210 = .ok (.if_icmp .ne 33, 3) := by decide +kernel
theorem dL_act_213 : decode cL_act 213 = .ok (.aload_n 0, 1) := by decide +kernel
theorem dL_act_214 : decode cL_act 214 = .ok (.bipush 6, 2) := by decide +kernel
theorem dL_act_216 : decode cL_act 216 = .ok (.invokevirtual 13, 3) := by decide +kernel
theorem dL_act_219 : decode cL_act 219 = .ok (.iload 5, 2) := by decide +kernel

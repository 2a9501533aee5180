theorem ggL_law_L_refuses_c12 : GoodIn wsL_law wsL_refuses_r12 := goodIn_r _ [318, 319, 320, 321, 322, 323, 324, 325, 326, 327, 328, 329, 330, 331, 332, 333, 334, 335, 336, 337, 338, 339, 340, 341] (by decide +kernel) (by decide +kernel)
theorem ggL_law_L_refuses_c13 : GoodIn wsL_law wsL_refuses_r13 := goodIn_r _ [342, 343, 344, 345, 346, 347, 348, 349, 350, 351, 352, 353, 354, 355, 356, 357, 358, 359, 360, 361, 362, 363, 364, 365] (by decide +kernel) (by decide +kernel)
theorem ggL_law_L_refuses_c14 : GoodIn wsL_law wsL_refuses_r14 := goodIn_r _ [366, 367, 368, 369, 370, 371, 372, 373, 374, 375, 376, 377, 378, 379, 380, 381, 382, 383, 384, 385, 18, 386, 387, 388] (by decide +kernel) (by decide +kernel)
theorem ggL_law_L_refuses_c15 : GoodIn wsL_law wsL_refuses_r15 := goodIn_r _ [389, 390, 391, 392, 393, 394, 395, 396, 397, 398, 399, 400, 401, 27, 29, 151, 152, 153, 146, 147, 148, 149] (by decide +kernel) (by decide +kernel)
theorem ggL_law_L_refuses_wsX50 : GoodIn wsL_law wsX50 := goodIn_r _ [423, 424, 425, 426, 427, 428, 429, 430] (by decide +kernel) (by decide +kernel)
theorem ggL_law_L_refuses_wsX10 : GoodIn wsL_law wsX10 := goodIn_r _ [431, 432, 433, 434] (by decide +kernel) (by decide +kernel)
theorem ggL_law_L_refuses_wsX20 : GoodIn wsL_law wsX20 := goodIn_r _ [450, 451] (by decide +kernel) (by decide +kernel)
theorem ggL_law_L_refuses_wsX30 : GoodIn wsL_law wsX30 := goodIn_r _ [452, 453] (by decide +kernel) (by decide +kernel)
theorem ggL_law_L_refuses_wsX00 : GoodIn wsL_law wsX00 := goodIn_r _ [435, 436, 437, 438, 439, 440, 441, 442, 443, 444, 445, 446, 447, 448, 449] (by decide +kernel) (by decide +kernel)
theorem ggL_law_L_refuses : GoodIn wsL_law wsL_refuses := by
  unfold wsL_refuses
  exact goodIn_ca (goodIn_ca (goodIn_ca (goodIn_ca (goodIn_ca (goodIn_ca ggL_law_L_refuses_c1 (goodIn_app ggL_law_L_refuses_c2 (goodIn_app ggL_law_L_refuses_c3 (goodIn_app ggL_law_L_refuses_c4 (goodIn_app ggL_law_L_refuses_c5 (goodIn_app ggL_law_L_refuses_c6 (goodIn_app ggL_law_L_refuses_c7 (goodIn_app ggL_law_L_refuses_c8 (goodIn_app ggL_law_L_refuses_c9 (goodIn_app ggL_law_L_refuses_c10 (goodIn_app ggL_law_L_refuses_c11 (goodIn_app ggL_law_L_refuses_c12 (goodIn_app ggL_law_L_refuses_c13 (goodIn_app ggL_law_L_refuses_c14 (ggL_law_L_refuses_c15))))))))))))))) ggL_law_L_refuses_wsX50) ggL_law_L_refuses_wsX10) ggL_law_L_refuses_wsX20) ggL_law_L_refuses_wsX30) ggL_law_L_refuses_wsX00
set_option maxRecDepth 20000 in
theorem gL_law_L_refuses : GoodIn wsL_law (va_wsS RL 98 yL_refuses wsL_refuses) := goodIn_app (goodIn_of _ (by decide +kernel)) ggL_law_L_refuses
set_option maxRecDepth 20000 in
theorem ggL_law_X5_save : GoodIn wsL_law wsX5_save := goodIn_r _ [401, 27, 12, 29, 150, 151, 152, 2, 153, 162, 143, 144, 11, 145, 34, 38, 35, 37, 423, 424, 425, 426, 427, 428, 429, 430, 431, 432, 433, 434] (by decide +kernel) (by decide +kernel)
set_option maxRecDepth 20000 in
theorem gL_law_X5_save : GoodIn wsL_law (wsV RL 75 RX5 yX5_save wsX5_save) := goodIn_app (goodIn_of _ (by decide +kernel)) ggL_law_X5_save
set_option maxRecDepth 20000 in
theorem ggL_law_L_cell : GoodIn wsL_law wsL_cell := goodIn_r _ [404, 405, 406] (by decide +kernel) (by decide +kernel)
set_option maxRecDepth 20000 in
theorem gL_law_L_cell : GoodIn wsL_law (va_wsS RL 101 yL_cell wsL_cell) := goodIn_app (goodIn_of _ (by decide +kernel)) ggL_law_L_cell
set_option maxRecDepth 20000 in
theorem ggL_law_L_seen : GoodIn wsL_law wsL_seen := goodIn_r _ [213, 214, 215, 163, 164, 165, 2, 166, 12, 73, 150, 22, 167, 26, 137, 168, 169, 170, 11, 171, 38, 35, 172, 173, 174, 175, 17, 176, 177, 178, 179, 180, 181, 16, 182, 51, 183, 184, 185, 186, 187, 188, 189, 190, 55, 49, 48, 191, 192, 193, 194, 47, 195, 196, 197, 198, 199, 200, 201, 202, 44, 42, 203, 204, 205, 206, 216, 217, 218, 219, 220, 221, 222, 223, 224, 125, 126, 127, 225, 226, 121, 122, 123, 37, 124, 227, 129, 130, 131, 132, 228, 229, 230, 231, 232, 233, 234, 235, 236, 237, 423, 424, 425, 426, 427, 428, 429, 430, 431, 432, 433, 434, 450, 451, 452, 453, 435, 436, 437, 438, 439, 440, 441, 442, 443, 444, 445, 446, 447, 448, 449] (by decide +kernel) (by decide +kernel)
set_option maxRecDepth 20000 in
theorem gL_law_L_seen : GoodIn wsL_law (va_wsS RL 81 yL_seen wsL_seen) := goodIn_app (goodIn_of _ (by decide +kernel)) ggL_law_L_seen
set_option maxRecDepth 20000 in
theorem ggL_law_L_act_c0 : (Cond.code yL_act cL_act 12 (some .int) : Cond) ∈ wsL_law := by
  unfold wsL_law
  exact List.mem_append_left _ (List.mem_append_left _ (List.mem_append_left _ (List.mem_append_left _ (List.mem_append_left _ (List.mem_append_left _ (List.mem_append_right _ (List.mem_append_right _ (List.mem_append_right _ (List.mem_append_right _ (List.mem_append_right _ (List.mem_append_right _ (List.mem_append_right _ (List.mem_append_right _ (List.mem_append_right _ (List.mem_append_right _ (List.mem_append_right _ (List.mem_append_right _ (List.mem_append_right _ (List.mem_append_right _ (List.mem_append_right _ (List.mem_append_right _ (List.mem_append_right _ (List.mem_of_getElem? (i := 1) rfl)))))))))))))))))))))))
theorem ggL_law_L_act_c1a : GoodIn wsL_law wsL_act_r1 := goodIn_r _ [410, 163, 164, 165, 2, 166, 12, 73, 150, 22, 167, 26, 137, 168, 169, 170, 11, 171, 38, 35, 172, 173, 174, 175] (by decide +kernel) (by decide +kernel)
theorem ggL_law_L_act_c1 : GoodIn wsL_law (.code yL_act cL_act 12 (some .int) :: wsL_act_r1) := fun w h => (List.mem_cons.mp h).elim (fun e => by rw [e]; exact ⟨ggL_law_L_act_c0, good_of_word rfl⟩) (ggL_law_L_act_c1a w)
theorem ggL_law_L_act_c2 : GoodIn wsL_law wsL_act_r2 := goodIn_r _ [17, 176, 177, 178, 179, 180, 181, 16, 182, 51, 183, 184, 185, 186, 187, 188, 189, 190, 55, 49, 48, 191, 192, 193] (by decide +kernel) (by decide +kernel)
theorem ggL_law_L_act_c3 : GoodIn wsL_law wsL_act_r3 := goodIn_r _ [194, 47, 195, 196, 197, 198, 199, 200, 201, 202, 44, 42, 203, 204, 205, 206, 411, 412, 209, 413, 267, 268, 269, 270] (by decide +kernel) (by decide +kernel)
theorem ggL_law_L_act_c4 : GoodIn wsL_law wsL_act_r4 := goodIn_r _ [271, 272, 273, 21, 274, 61, 331, 332, 333, 334, 335, 336, 337, 338, 339, 340, 341, 342, 343, 344, 60, 345, 346, 347] (by decide +kernel) (by decide +kernel)
theorem ggL_law_L_act_c5 : GoodIn wsL_law wsL_act_r5 := goodIn_r _ [348, 318, 319, 320, 321, 286, 287, 288, 322, 323, 324, 325, 299, 300, 130, 301, 231, 129, 131, 132, 232, 233, 234, 326] (by decide +kernel) (by decide +kernel)
theorem ggL_law_L_act_c6 : GoodIn wsL_law wsL_act_r6 := goodIn_r _ [327, 328, 329, 37, 306, 307, 308, 309, 124, 125, 126, 127, 216, 217, 218, 219, 220, 221, 222, 223, 224, 225, 226, 121] (by decide +kernel) (by decide +kernel)
theorem ggL_law_L_act_c7 : GoodIn wsL_law wsL_act_r7 := goodIn_r _ [122, 123, 227, 228, 229, 230, 235, 236, 237, 275, 276, 277, 278, 13, 279, 280, 281, 282, 283, 284, 285, 289, 290, 291] (by decide +kernel) (by decide +kernel)
theorem ggL_law_L_act_c8 : GoodIn wsL_law wsL_act_r8 := goodIn_r _ [292, 293, 294, 162, 143, 144, 145, 34, 295, 296, 297, 298, 302, 303, 304, 305, 310, 311, 312, 313, 154, 155, 156, 25] (by decide +kernel) (by decide +kernel)
theorem ggL_law_L_act_c9 : GoodIn wsL_law wsL_act_r9 := goodIn_r _ [157, 68, 67, 158, 159, 160, 161, 142, 69, 70, 71, 72, 74, 75, 76, 77, 53, 52, 54, 78, 79, 80, 81, 56] (by decide +kernel) (by decide +kernel)
theorem ggL_law_L_act_c10 : GoodIn wsL_law wsL_act_r10 := goodIn_r _ [82, 83, 84, 85, 86, 87, 88, 89, 90, 91, 92, 93, 94, 95, 96, 97, 98, 99, 50, 100, 101, 102, 103, 43] (by decide +kernel) (by decide +kernel)
theorem ggL_law_L_act_c11 : GoodIn wsL_law wsL_act_r11 := goodIn_r _ [104, 105, 106, 107, 108, 109, 110, 111, 45, 46, 112, 113, 114, 115, 116, 117, 118, 119, 120, 128, 251, 252, 253, 254] (by decide +kernel) (by decide +kernel)
theorem ggL_law_L_act_c12 : GoodIn wsL_law wsL_act_r12 := goodIn_r _ [255, 256, 257, 258, 259, 260, 261, 262, 263, 264, 265, 266, 314, 315, 316, 317, 330, 382, 383, 384, 385, 18, 246, 247] (by decide +kernel) (by decide +kernel)
theorem ggL_law_L_act_c13 : GoodIn wsL_law wsL_act_r13 := goodIn_r _ [248, 249, 250, 242, 243, 244, 245] (by decide +kernel) (by decide +kernel)
theorem ggL_law_L_act_wsX50 : GoodIn wsL_law wsX50 := goodIn_r _ [423, 424, 425, 426, 427, 428, 429, 430] (by decide +kernel) (by decide +kernel)
theorem ggL_law_L_act_wsX10 : GoodIn wsL_law wsX10 := goodIn_r _ [431, 432, 433, 434] (by decide +kernel) (by decide +kernel)
theorem ggL_law_L_act_wsX20 : GoodIn wsL_law wsX20 := goodIn_r _ [450, 451] (by decide +kernel) (by decide +kernel)
theorem ggL_law_L_act_wsX30 : GoodIn wsL_law wsX30 := goodIn_r _ [452, 453] (by decide +kernel) (by decide +kernel)
theorem ggL_law_L_act_wsX00 : GoodIn wsL_law wsX00 := goodIn_r _ [435, 436, 437, 438, 439, 440, 441, 442, 443, 444, 445, 446, 447, 448, 449] (by decide +kernel) (by decide +kernel)
theorem ggL_law_L_act : GoodIn wsL_law wsL_act := by
  unfold wsL_act
  exact goodIn_ca (goodIn_ca (goodIn_ca (goodIn_ca (goodIn_ca (goodIn_ca ggL_law_L_act_c1 (goodIn_app ggL_law_L_act_c2 (goodIn_app ggL_law_L_act_c3 (goodIn_app ggL_law_L_act_c4 (goodIn_app ggL_law_L_act_c5 (goodIn_app ggL_law_L_act_c6 (goodIn_app ggL_law_L_act_c7 (goodIn_app ggL_law_L_act_c8 (goodIn_app ggL_law_L_act_c9 (goodIn_app ggL_law_L_act_c10 (goodIn_app ggL_law_L_act_c11 (goodIn_app ggL_law_L_act_c12 (ggL_law_L_act_c13))))))))))))) ggL_law_L_act_wsX50) ggL_law_L_act_wsX10) ggL_law_L_act_wsX20) ggL_law_L_act_wsX30) ggL_law_L_act_wsX00
set_option maxRecDepth 20000 in
theorem gL_law_L_act : GoodIn wsL_law (va_wsS RL 105 yL_act wsL_act) := goodIn_app (goodIn_of _ (by decide +kernel)) ggL_law_L_act
set_option maxRecDepth 20000 in
theorem ggL_law_L_isOrdered : GoodIn wsL_law wsL_isOrdered := goodIn_r _ [416, 163, 164, 165, 2, 166, 12, 73, 150, 22, 167, 26, 137, 168, 169, 170, 11, 171, 38, 35, 172, 173, 174, 175, 17, 176, 177, 178, 179, 180, 181, 16, 182, 51, 183, 184, 185, 186, 187, 188, 189, 190, 55, 49, 48, 191, 192, 193, 194, 47, 195, 196, 197, 198, 199, 200, 201, 202, 44, 42, 203, 204, 205, 206, 216, 217, 218, 219, 220, 221, 222, 223, 224, 125, 126, 127, 225, 226, 121, 122, 123, 37, 124, 227, 129, 130, 131, 132, 228, 229, 230, 231, 232, 233, 234, 235, 236, 237, 423, 424, 425, 426, 427, 428, 429, 430, 431, 432, 433, 434, 450, 451, 452, 453, 435, 436, 437, 438, 439, 440, 441, 442, 443, 444, 445, 446, 447, 448, 449] (by decide +kernel) (by decide +kernel)
set_option maxRecDepth 20000 in
theorem gL_law_L_isOrdered : GoodIn wsL_law (va_wsS RL 109 yL_isOrdered wsL_isOrdered) := goodIn_app (goodIn_of _ (by decide +kernel)) ggL_law_L_isOrdered
set_option maxRecDepth 20000 in
theorem ggL_law_L_isLaid_c0 : (Cond.code yL_isLaid cL_isLaid 14 (some .boolean) : Cond) ∈ wsL_law := by
  unfold wsL_law
  exact List.mem_append_left _ (List.mem_append_left _ (List.mem_append_left _ (List.mem_append_left _ (List.mem_append_left _ (List.mem_append_left _ (List.mem_append_right _ (List.mem_append_right _ (List.mem_append_right _ (List.mem_append_right _ (List.mem_append_right _ (List.mem_append_right _ (List.mem_append_right _ (List.mem_append_right _ (List.mem_append_right _ (List.mem_append_right _ (List.mem_append_right _ (List.mem_append_right _ (List.mem_append_right _ (List.mem_append_right _ (List.mem_append_right _ (List.mem_append_right _ (List.mem_append_right _ (List.mem_of_getElem? (i := 11) rfl)))))))))))))))))))))))
theorem ggL_law_L_isLaid_c1a : GoodIn wsL_law wsL_isLaid_r1 := goodIn_r _ [163, 164, 165, 2, 166, 12, 73, 150, 22, 167, 26, 137, 168, 169, 170, 11, 171, 38, 35, 172, 173, 174, 175, 17] (by decide +kernel) (by decide +kernel)
theorem ggL_law_L_isLaid_c1 : GoodIn wsL_law (.code yL_isLaid cL_isLaid 14 (some .boolean) :: wsL_isLaid_r1) := fun w h => (List.mem_cons.mp h).elim (fun e => by rw [e]; exact ⟨ggL_law_L_isLaid_c0, good_of_word rfl⟩) (ggL_law_L_isLaid_c1a w)
theorem ggL_law_L_isLaid_c2 : GoodIn wsL_law wsL_isLaid_r2 := goodIn_r _ [176, 177, 178, 179, 180, 181, 16, 182, 51, 183, 184, 185, 186, 187, 188, 189, 190, 55, 49, 48, 191, 192, 193, 194] (by decide +kernel) (by decide +kernel)
theorem ggL_law_L_isLaid_c3 : GoodIn wsL_law wsL_isLaid_r3 := goodIn_r _ [47, 195, 196, 197, 198, 199, 200, 201, 202, 44, 42, 203, 204, 205, 206, 354, 355, 356, 357, 358, 353, 359, 360, 361] (by decide +kernel) (by decide +kernel)
theorem ggL_law_L_isLaid_c4 : GoodIn wsL_law wsL_isLaid_r4 := goodIn_r _ [362, 105, 106, 107, 363, 364, 117, 118, 119, 45, 46, 120, 121, 122, 123, 37, 124, 125, 126, 127, 128, 129, 130, 131] (by decide +kernel) (by decide +kernel)
theorem ggL_law_L_isLaid_c5 : GoodIn wsL_law wsL_isLaid_r5 := goodIn_r _ [132, 365, 366, 367, 368, 369, 229, 230, 231, 232, 233, 234, 235, 236, 237, 216, 217, 218, 219, 220, 221, 222, 223, 224] (by decide +kernel) (by decide +kernel)
theorem ggL_law_L_isLaid_c6 : GoodIn wsL_law wsL_isLaid_r6 := goodIn_r _ [225, 226, 227, 228] (by decide +kernel) (by decide +kernel)
theorem ggL_law_L_isLaid_wsX50 : GoodIn wsL_law wsX50 := goodIn_r _ [423, 424, 425, 426, 427, 428, 429, 430] (by decide +kernel) (by decide +kernel)
theorem ggL_law_L_isLaid_wsX10 : GoodIn wsL_law wsX10 := goodIn_r _ [431, 432, 433, 434] (by decide +kernel) (by decide +kernel)
theorem ggL_law_L_isLaid_wsX20 : GoodIn wsL_law wsX20 := goodIn_r _ [450, 451] (by decide +kernel) (by decide +kernel)
theorem ggL_law_L_isLaid_wsX30 : GoodIn wsL_law wsX30 := goodIn_r _ [452, 453] (by decide +kernel) (by decide +kernel)
theorem ggL_law_L_isLaid_wsX00 : GoodIn wsL_law wsX00 := goodIn_r _ [435, 436, 437, 438, 439, 440, 441, 442, 443, 444, 445, 446, 447, 448, 449] (by decide +kernel) (by decide +kernel)
theorem ggL_law_L_isLaid : GoodIn wsL_law wsL_isLaid := by
  unfold wsL_isLaid
  exact goodIn_ca (goodIn_ca (goodIn_ca (goodIn_ca (goodIn_ca (goodIn_ca ggL_law_L_isLaid_c1 (goodIn_app ggL_law_L_isLaid_c2 (goodIn_app ggL_law_L_isLaid_c3 (goodIn_app ggL_law_L_isLaid_c4 (goodIn_app ggL_law_L_isLaid_c5 (ggL_law_L_isLaid_c6)))))) ggL_law_L_isLaid_wsX50) ggL_law_L_isLaid_wsX10) ggL_law_L_isLaid_wsX20) ggL_law_L_isLaid_wsX30) ggL_law_L_isLaid_wsX00
set_option maxRecDepth 20000 in
theorem gL_law_L_isLaid : GoodIn wsL_law (va_wsS RL 113 yL_isLaid wsL_isLaid) := goodIn_app (goodIn_of _ (by decide +kernel)) ggL_law_L_isLaid
set_option maxRecDepth 20000 in
theorem ggL_law_L_isKept : GoodIn wsL_law wsL_isKept := goodIn_r _ [422, 216, 217, 218, 2, 219, 12, 220, 17, 221, 222, 223, 224, 125, 126, 11, 127, 38, 225, 200, 201, 16, 202, 44, 42, 226, 121, 122, 123, 37, 124, 227, 129, 130, 131, 132, 228, 229, 230, 231, 232, 233, 234, 235, 236, 237, 163, 164, 165, 166, 73, 150, 22, 167, 26, 137, 168, 169, 170, 171, 35, 172, 173, 174, 175, 176, 177, 178, 179, 180, 181, 182, 51, 183, 184, 185, 186, 187, 188, 189, 190, 55, 49, 48, 191, 192, 193, 194, 47, 195, 196, 197, 198, 199, 203, 204, 205, 206, 354, 355, 356, 357, 358, 353, 359, 360, 361, 362, 105, 106, 107, 363, 364, 117, 118, 119, 45, 46, 120, 128, 365, 366, 367, 368, 369, 423, 424, 425, 426, 427, 428, 429, 430, 431, 432, 433, 434, 435, 436, 437, 438, 439, 440, 441, 442, 443, 444, 445, 446, 447, 448, 449, 450, 451, 452, 453] (by decide +kernel) (by decide +kernel)
set_option maxRecDepth 20000 in
theorem gL_law_L_isKept : GoodIn wsL_law (va_wsS RL 116 yL_isKept wsL_isKept) := goodIn_app (goodIn_of _ (by decide +kernel)) ggL_law_L_isKept
theorem dL_law_0 : decode cL_law 0 = .ok (.new 14, 3) := by decide +kernel
theorem dL_law_3 : decode cL_law 3 = .ok (.dup, 1) := by decide +kernel
theorem dL_law_4 : decode cL_law 4 = .ok (.invokespecial 94, 3) := by decide +kernel
theorem dL_law_7 : decode cL_law 7 = .ok (.astore_n 1, 1) := by decide +kernel
theorem dL_law_8 : decode cL_law 8 = .ok (.aload_n 1, 1) := by decide +kernel
theorem dL_law_9 : decode cL_law 9 = .ok (.invokevirtual 95, 3) := by decide +kernel
theorem dL_law_12 : decode cL_law 12 = .ok (.bipush (-5), 2) := by decide +kernel
theorem dL_law_14 : decode cL_law 14 = .ok (.if_icmp .ne 100, 3) := by decide +kernel
theorem dL_law_17 : decode cL_law 17 = .ok (.aload_n 1, 1) := by decide +kernel
theorem dL_law_18 : decode cL_law 18 = .ok (.iconst 0, 1) := by decide +kernel
theorem dL_law_19 : decode cL_law 19 = .ok (.invokevirtual 78, 3) := by decide +kernel
theorem dL_law_22 : decode cL_law 22 = .ok (.bipush (-5), 2) := by decide +kernel
theorem dL_law_24 : decode cL_law 24 = .ok (.if_icmp .ne 90, 3) := by decide +kernel
theorem dL_law_27 : decode cL_law 27 = .ok (.aload_n 1, 1) := by decide +kernel
theorem dL_law_28 : decode cL_law 28 = .ok (.iconst 1, 1) := by decide +kernel
theorem dL_law_29 : decode cL_law 29 = .ok (.invokevirtual 78, 3) := by decide +kernel
theorem dL_law_32 : decode cL_law 32 = .ok (.bipush (-5), 2) := by decide +kernel
theorem dL_law_34 : decode cL_law 34 = .ok (.if_icmp .ne 80, 3) := by decide +kernel
theorem dL_law_37 : decode cL_law 37 = .ok (.aload_n 1, 1) := by decide +kernel
theorem dL_law_38 : decode cL_law 38 = .ok (.iconst 0, 1) := by decide +kernel
theorem dL_law_39 : decode cL_law 39 = .ok (.invokevirtual 13, 3) := by decide +kernel
theorem dL_law_42 : decode cL_law 42 = .ok (.bipush 12, 2) := by decide +kernel
theorem dL_law_44 : decode cL_law 44 = .ok (.if_icmp .ne 70, 3) := by decide +kernel
theorem dL_law_47 : decode cL_law 47 = .ok (.aload_n 1, 1) := by decide +kernel
theorem dL_law_48 : decode cL_law 48 = .ok (.iconst 1, 1) := by decide +kernel
theorem dL_law_49 : decode cL_law 49 = .ok (.invokevirtual 13, 3) := by decide +kernel
theorem dL_law_52 : decode cL_law 52 = .ok (.bipush 12, 2) := by decide +kernel
theorem dL_law_54 : decode cL_law 54 = .ok (.if_icmp .ne 60, 3) := by decide +kernel
theorem dL_law_57 : decode cL_law 57 = .ok (.aload_n 1, 1) := by decide +kernel
theorem dL_law_58 : decode cL_law 58 = .ok (.iconst 2, 1) := by decide +kernel
theorem dL_law_59 : decode cL_law 59 = .ok (.invokevirtual 13, 3) := by decide +kernel
theorem dL_law_62 : decode cL_law 62 = .ok (.iconst 2, 1) := by decide +kernel
theorem dL_law_63 : decode cL_law 63 = .ok (.if_icmp .ne 51, 3) := by decide +kernel
theorem dL_law_66 : decode cL_law 66 = .ok (.aload_n 1, 1) := by decide +kernel
theorem dL_law_67 : decode cL_law 67 = .ok (.bipush 8, 2) := by decide +kernel
theorem dL_law_69 : decode cL_law 69 = .ok (.invokevirtual 13, 3) := by decide +kernel
theorem dL_law_72 : decode cL_law 72 = .ok (.iconst 1, 1) := by decide +kernel
theorem dL_law_73 : decode cL_law 73 = .ok (.if_icmp .ne 41, 3) := by decide +kernel
theorem dL_law_76 : decode cL_law 76 = .ok (.aload_n 1, 1) := by decide +kernel
theorem dL_law_77 : decode cL_law 77 = .ok (.bipush 9, 2) := by decide +kernel
theorem dL_law_79 : decode cL_law 79 = .ok (.invokevirtual 13, 3) := by decide +kernel
theorem dL_law_82 : decode cL_law 82 = .ok (.iconst 1, 1) := by decide +kernel
theorem dL_law_83 : decode cL_law 83 = .ok (.if_icmp .ne 31, 3) := by decide +kernel
theorem dL_law_86 : decode cL_law 86 = .ok (.aload_n 1, 1) := by decide +kernel
theorem dL_law_87 : decode cL_law 87 = .ok (.iconst 0, 1) := by decide +kernel
theorem dL_law_88 : decode cL_law 88 = .ok (.invokestatic 98, 3) := by decide +kernel
theorem dL_law_91 : decode cL_law 91 = .ok (.ifCond .eq 23, 3) := by decide +kernel
theorem dL_law_94 : decode cL_law 94 = .ok (.aload_n 1, 1) := by decide +kernel
theorem dL_law_95 : decode cL_law 95 = .ok (.iconst 1, 1) := by decide +kernel
theorem dL_law_96 : decode cL_law 96 = .ok (.invokestatic 98, 3) := by decide +kernel
theorem dL_law_99 : decode cL_law 99 = .ok (.ifCond .eq 15, 3) := by decide +kernel
theorem dL_law_102 : decode cL_law 102 = .ok (.aload_n 1, 1) := by decide +kernel
theorem dL_law_103 : decode cL_law 103 = .ok (.iconst 1, 1) := by decide +kernel
theorem dL_law_104 : decode cL_law 104 = .ok (.invokevirtual 75, 3) := by decide +kernel
theorem dL_law_107 : decode cL_law 107 = .ok (.ifCond .ne 7, 3) := by decide +kernel
theorem dL_law_110 : decode cL_law 110 = .ok (.iconst 1, 1) := by decide +kernel
theorem dL_law_111 : decode cL_law 111 = .ok (.goto 4, 3) := by decide +kernel
theorem dL_law_114 : decode cL_law 114 = .ok (.iconst 0, 1) := by decide +kernel
theorem dL_law_115 : decode cL_law 115 = .ok (.istore_n 2, 1) := by decide +kernel
theorem dL_law_116 : decode cL_law 116 = .ok (.iconst 0, 1) := by decide +kernel
theorem dL_law_117 : decode cL_law 117 = .ok (.istore_n 3, 1) := by decide +kernel
theorem dL_law_118 : decode cL_law 118 = .ok (.iload_n 3, 1) := by decide +kernel
theorem dL_law_119 : decode cL_law 119 = .ok (.bipush 40, 2) := by decide +kernel
theorem dL_law_121 : decode cL_law 121 = .ok (.if_icmp .ge 278, 3) := by decide +kernel
theorem dL_law_124 : decode cL_law 124 = .ok (.iload_n 2, 1) := by decide +kernel
theorem dL_law_125 : decode cL_law 125 = .ok (.ifCond .eq 274, 3) := by decide +kernel
theorem dL_law_128 : decode cL_law 128 = .ok (.aload_n 0, 1) := by decide +kernel
theorem dL_law_129 : decode cL_law 129 = .ok (.iconst 2, 1) := by decide +kernel
theorem dL_law_130 : decode cL_law 130 = .ok (.iload_n 3, 1) := by decide +kernel
theorem dL_law_131 : decode cL_law 131 = .ok (.imul, 1) := by decide +kernel
theorem dL_law_132 : decode cL_law 132 = .ok (.invokestatic 101, 3) := by decide +kernel
theorem dL_law_135 : decode cL_law 135 = .ok (.istore 4, 2) := by decide +kernel
theorem dL_law_137 : decode cL_law 137 = .ok (.aload_n 0, 1) := by decide +kernel
theorem dL_law_138 : decode cL_law 138 = .ok (.iconst 2, 1) := by decide +kernel
theorem dL_law_139 : decode cL_law 139 = .ok (.iload_n 3, 1) := by decide +kernel
theorem dL_law_140 : decode cL_law 140 = .ok (.imul, 1) := by decide +kernel
theorem dL_law_141 : decode cL_law 141 = .ok (.iconst 1, 1) := by decide +kernel
theorem dL_law_142 : decode cL_law 142 = .ok (.iadd, 1) := by decide +kernel
theorem dL_law_143 : decode cL_law 143 = .ok (.invokestatic 101, 3) := by decide +kernel
theorem dL_law_146 : decode cL_law 146 = .ok (.istore 5, 2) := by decide +kernel
theorem dL_law_148 : decode cL_law 148 = .ok (.aload_n 1, 1) := by decide +kernel
theorem dL_law_149 : decode cL_law 149 = .ok (.invokestatic 81, 3) := by decide +kernel
theorem dL_law_152 : decode cL_law 152 = .ok (.lstore 6, 2) := by decide +kernel
theorem dL_law_154 : decode cL_law 154 = .ok (.aload_n 1, 1) := by decide +kernel
theorem dL_law_155 : decode cL_law 155 = .ok (.bipush 14, 2) := by decide +kernel
theorem dL_law_157 : decode cL_law 157 = .ok (.invokevirtual 13, 3) := by decide +kernel
theorem dL_law_160 : decode cL_law 160 = .ok (.istore 8, 2) := by decide +kernel
theorem dL_law_162 : decode cL_law 162 = .ok (.aload_n 1, 1) := by decide +kernel
theorem dL_law_163 : decode cL_law 163 = .ok (.iload 4, 2) := by decide +kernel
theorem dL_law_165 : decode cL_law 165 = .ok (.iload 5, 2) := by decide +kernel
theorem dL_law_167 : decode cL_law 167 = .ok (.invokestatic 105, 3) := by decide +kernel
theorem dL_law_170 : decode cL_law 170 = .ok (.istore 9, 2) := by decide +kernel
theorem dL_law_172 : decode cL_law 172 = .ok (.aload_n 1, 1) := by decide +kernel
theorem dL_law_173 : decode cL_law 173 = .ok (.bipush 14, 2) := by decide +kernel
theorem dL_law_175 : decode cL_law 175 = .ok (.invokevirtual 13, 3) := by decide +kernel
theorem dL_law_178 : decode cL_law 178 = .ok (.istore 10, 2) := by decide +kernel
theorem dL_law_180 : decode cL_law 180 = .ok (.iload 9, 2) := by decide +kernel
theorem dL_law_182 : decode cL_law 182 = .ok (.ifCond .lt 110, 3) := by decide +kernel
theorem dL_law_185 : decode cL_law 185 = .ok (.iload 9, 2) := by decide +kernel
theorem dL_law_187 : decode cL_law 187 = .ok (.ifCond .ne 23, 3) := by decide +kernel
theorem dL_law_190 : decode cL_law 190 = .ok (.iload 10, 2) := by decide +kernel
theorem dL_law_192 : decode cL_law 192 = .ok (.iload 8, 2) := by decide +kernel
theorem dL_law_194 : decode cL_law 194 = .ok (.if_icmp .ne 98, 3) := by decide +kernel
theorem dL_law_197 : decode cL_law 197 = .ok (.aload_n 1, 1) := by decide +kernel
theorem dL_law_198 : decode cL_law 198 = .ok (.invokestatic 81, 3) := by decide +kernel
theorem dL_law_201 : decode cL_law 201 = .ok (.lload 6, 2) := by decide +kernel
theorem dL_law_203 : decode cL_law 203 = .ok (.lcmp, 1) := by decide +kernel
theorem dL_law_204 : decode cL_law 204 = .ok (.ifCond .ne 88, 3) := by decide +kernel
theorem dL_law_207 : decode cL_law 207 = .ok (.goto 24, 3) := by decide +kernel
theorem dL_law_210 : decode cL_law 210 = .ok (.iload 10, 2) := by decide +kernel
theorem dL_law_212 : decode cL_law 212 = .ok (.iload 8, 2) := by decide +kernel
theorem dL_law_214 : decode cL_law 214 = .ok (.bipush 6, 2) := by decide +kernel
theorem dL_law_216 : decode cL_law 216 = .ok (.if_icmp .ge 10, 3) := by decide +kernel
theorem dL_law_219 : decode cL_law 219 = .ok (.iload 8, 2) := by decide +kernel
theorem dL_law_221 : decode cL_law 221 = .ok (.iconst 1, 1) := by decide +kernel
theorem dL_law_222 : decode cL_law 222 = .ok (.iadd, 1) := by decide +kernel
theorem dL_law_223 : decode cL_law 223 = .ok (.goto 5, 3) := by decide +kernel
theorem dL_law_226 : decode cL_law 226 = .ok (.bipush 6, 2) := by decide +kernel
theorem dL_law_228 : decode cL_law 228 = .ok (.if_icmp .ne 64, 3) := by decide +kernel
theorem dL_law_231 : decode cL_law 231 = .ok (.aload_n 1, 1) := by decide +kernel
theorem dL_law_232 : decode cL_law 232 = .ok (.invokestatic 109, 3) := by decide +kernel
theorem dL_law_235 : decode cL_law 235 = .ok (.ifCond .eq 57, 3) := by decide +kernel
theorem dL_law_238 : decode cL_law 238 = .ok (.aload_n 1, 1) := by decide +kernel
theorem dL_law_239 : decode cL_law 239 = .ok (.invokestatic 113, 3) := by decide +kernel
theorem dL_law_242 : decode cL_law 242 = .ok (.ifCond .eq 50, 3) := by decide +kernel
theorem dL_law_245 : decode cL_law 245 = .ok (.aload_n 1, 1) := by decide +kernel
theorem dL_law_246 : decode cL_law 246 = .ok (.iconst 3, 1) := by decide +kernel
theorem dL_law_247 : decode cL_law 247 = .ok (.invokevirtual 13, 3) := by decide +kernel
theorem dL_law_250 : decode cL_law 250 = .ok (.ifCond .eq 18, 3) := by decide +kernel
theorem dL_law_253 : decode cL_law 253 = .ok (.aload_n 1, 1) := by decide +kernel
theorem dL_law_254 : decode cL_law 254 = .ok (.iload 5, 2) := by decide +kernel
theorem dL_law_256 : decode cL_law 256 = .ok (.aload_n 1, 1) := by decide +kernel
theorem dL_law_257 : decode cL_law 257 = .ok (.iconst 3, 1) := by decide +kernel
theorem dL_law_258 : decode cL_law 258 = .ok (.invokevirtual 13, 3) := by decide +kernel
theorem dL_law_261 : decode cL_law 261 = .ok (.irem, 1) := by decide +kernel
theorem dL_law_262 : decode cL_law 262 = .ok (.invokestatic 116, 3) := by decide +kernel
theorem dL_law_265 : decode cL_law 265 = .ok (.ifCond .eq 27, 3) := by decide +kernel
theorem dL_law_268 : decode cL_law 268 = .ok (.iload_n 3, 1) := by decide +kernel
theorem dL_law_269 : decode cL_law 269 = .ok (.bipush 6, 2) := by decide +kernel
theorem dL_law_271 : decode cL_law 271 = .ok (.irem, 1) := by decide +kernel
theorem dL_law_272 : decode cL_law 272 = .ok (.iconst 5, 1) := by decide +kernel
theorem dL_law_273 : decode cL_law 273 = .ok (.if_icmp .ne 15, 3) := by decide +kernel
theorem dL_law_276 : decode cL_law 276 = .ok (.aload_n 1, 1) := by decide +kernel
theorem dL_law_277 : decode cL_law 277 = .ok (.iload 4, 2) := by decide +kernel
theorem dL_law_279 : decode cL_law 279 = .ok (.bipush 6, 2) := by decide +kernel
theorem dL_law_281 : decode cL_law 281 = .ok (.idiv, 1) := by decide +kernel
theorem dL_law_282 : decode cL_law 282 = .ok (.invokestatic 98, 3) := by decide +kernel
theorem dL_law_285 : decode cL_law 285 = .ok (.ifCond .eq 7, 3) := by decide +kernel
theorem dL_law_288 : decode cL_law 288 = .ok (.iconst 1, 1) := by decide +kernel
theorem dL_law_289 : decode cL_law 289 = .ok (.goto 4, 3) := by decide +kernel
theorem dL_law_292 : decode cL_law 292 = .ok (.iconst 0, 1) := by decide +kernel
theorem dL_law_293 : decode cL_law 293 = .ok (.istore_n 2, 1) := by decide +kernel
theorem dL_law_294 : decode cL_law 294 = .ok (.iload_n 2, 1) := by decide +kernel
theorem dL_law_295 : decode cL_law 295 = .ok (.ifCond .eq 98, 3) := by decide +kernel
theorem dL_law_298 : decode cL_law 298 = .ok (.iload 9, 2) := by decide +kernel
theorem dL_law_300 : decode cL_law 300 = .ok (.iconst 1, 1) := by decide +kernel
theorem dL_law_301 : decode cL_law 301 = .ok (.if_icmp .ne 92, 3) := by decide +kernel
theorem dL_law_304 : decode cL_law 304 = .ok (.iload 4, 2) := by decide +kernel
theorem dL_law_306 : decode cL_law 306 = .ok (.bipush 13, 2) := by decide +kernel
theorem dL_law_308 : decode cL_law 308 = .ok (.idiv, 1) := by decide +kernel
theorem dL_law_309 : decode cL_law 309 = .ok (.iconst 3, 1) := by decide +kernel
theorem dL_law_310 : decode cL_law 310 = .ok (.irem, 1) := by decide +kernel
theorem dL_law_311 : decode cL_law 311 = .ok (.ifCond .ne 82, 3) := by decide +kernel
theorem dL_law_314 : decode cL_law 314 = .ok (.aload_n 1, 1) := by decide +kernel
theorem dL_law_315 : decode cL_law 315 = .ok (.invokestatic 81, 3) := by decide +kernel
theorem dL_law_318 : decode cL_law 318 = .ok (.lstore 11, 2) := by decide +kernel
theorem dL_law_320 : decode cL_law 320 = .ok (.aload_n 1, 1) := by decide +kernel
theorem dL_law_321 : decode cL_law 321 = .ok (.iconst 3, 1) := by decide +kernel
theorem dL_law_322 : decode cL_law 322 = .ok (.invokevirtual 13, 3) := by decide +kernel
theorem dL_law_325 : decode cL_law 325 = .ok (.istore 13, 2) := by decide +kernel
theorem dL_law_327 : decode cL_law 327 = .ok (.aload_n 1, 1) := by decide +kernel
theorem dL_law_328 : decode cL_law 328 = .ok (.iconst 0, 1) := by decide +kernel
theorem dL_law_329 : decode cL_law 329 = .ok (.invokevirtual 75, 3) := by decide +kernel
theorem dL_law_332 : decode cL_law 332 = .ok (.iload 13, 2) := by decide +kernel
theorem dL_law_334 : decode cL_law 334 = .ok (.if_icmp .ne 57, 3) := by decide +kernel
theorem dL_law_337 : decode cL_law 337 = .ok (.aload_n 1, 1) := by decide +kernel
theorem dL_law_338 : decode cL_law 338 = .ok (.invokevirtual 95, 3) := by decide +kernel
theorem dL_law_341 : decode cL_law 341 = .ok (.iload 8, 2) := by decide +kernel
theorem dL_law_343 : decode cL_law 343 = .ok (.bipush 6, 2) := by decide +kernel
theorem dL_law_345 : decode cL_law 345 = .ok (.if_icmp .ge 8, 3) := by decide +kernel
theorem dL_law_348 : decode cL_law 348 = .ok (.iload 8, 2) := by decide +kernel
theorem dL_law_350 : decode cL_law 350 = .ok (.goto 4, 3) := by decide +kernel
theorem dL_law_353 : decode cL_law 353 = .ok (.iconst 5, 1) := by decide +kernel
theorem dL_law_354 : decode cL_law 354 = .ok (.if_icmp .ne 37, 3) := by decide +kernel
theorem dL_law_357 : decode cL_law 357 = .ok (.aload_n 1, 1) := by decide +kernel
theorem dL_law_358 : decode cL_law 358 = .ok (.invokestatic 81, 3) := by decide +kernel
theorem dL_law_361 : decode cL_law 361 = .ok (.lload 6, 2) := by decide +kernel
theorem dL_law_363 : decode cL_law 363 = .ok (.lcmp, 1) := by decide +kernel
theorem dL_law_364 : decode cL_law 364 = .ok (.ifCond .ne 27, 3) := by decide +kernel
theorem dL_law_367 : decode cL_law 367 = .ok (.aload_n 1, 1) := by decide +kernel
theorem dL_law_368 : decode cL_law 368 = .ok (.iconst 0, 1) := by decide +kernel
theorem dL_law_369 : decode cL_law 369 = .ok (.invokevirtual 78, 3) := by decide +kernel
theorem dL_law_372 : decode cL_law 372 = .ok (.iload 13, 2) := by decide +kernel
theorem dL_law_374 : decode cL_law 374 = .ok (.if_icmp .ne 17, 3) := by decide +kernel
theorem dL_law_377 : decode cL_law 377 = .ok (.aload_n 1, 1) := by decide +kernel
theorem dL_law_378 : decode cL_law 378 = .ok (.invokestatic 81, 3) := by decide +kernel
theorem dL_law_381 : decode cL_law 381 = .ok (.lload 11, 2) := by decide +kernel
theorem dL_law_383 : decode cL_law 383 = .ok (.lcmp, 1) := by decide +kernel
theorem dL_law_384 : decode cL_law 384 = .ok (.ifCond .ne 7, 3) := by decide +kernel
theorem dL_law_387 : decode cL_law 387 = .ok (.iconst 1, 1) := by decide +kernel
theorem dL_law_388 : decode cL_law 388 = .ok (.goto 4, 3) := by decide +kernel
theorem dL_law_391 : decode cL_law 391 = .ok (.iconst 0, 1) := by decide +kernel
theorem dL_law_392 : decode cL_law 392 = .ok (.istore_n 2, 1) := by decide +kernel
theorem dL_law_393 : decode cL_law 393 = .ok (.iinc 3 1, 3) := by decide +kernel
theorem dL_law_396 : decode cL_law 396 = .ok (.goto (-278), 3) := by decide +kernel
theorem dL_law_399 : decode cL_law 399 = .ok (.iload_n 2, 1) := by decide +kernel
theorem dL_law_400 : decode cL_law 400 = .ok (.ifCond .eq 37, 3) := by decide +kernel
theorem dL_law_403 : decode cL_law 403 = .ok (.aload_n 1, 1) := by decide +kernel
theorem dL_law_404 : decode cL_law 404 = .ok (.iconst 1, 1) := by decide +kernel
theorem dL_law_405 : decode cL_law 405 = .ok (.invokevirtual 78, 3) := by decide +kernel
theorem dL_law_408 : decode cL_law 408 = .ok (.ifCond .ne 29, 3) := by decide +kernel
theorem dL_law_411 : decode cL_law 411 = .ok (.aload_n 1, 1) := by decide +kernel
theorem dL_law_412 : decode cL_law 412 = .ok (.iconst 4, 1) := by decide +kernel
theorem dL_law_413 : decode cL_law 413 = .ok (.invokevirtual 13, 3) := by decide +kernel
theorem dL_law_416 : decode cL_law 416 = .ok (.ifCond .ne 21, 3) := by decide +kernel
theorem dL_law_419 : decode cL_law 419 = .ok (.aload_n 1, 1) := by decide +kernel
theorem dL_law_420 : decode cL_law 420 = .ok (.invokevirtual 95, 3) := by decide +kernel
theorem dL_law_423 : decode cL_law 423 = .ok (.ifCond .lt 14, 3) := by decide +kernel
theorem dL_law_426 : decode cL_law 426 = .ok (.aload_n 1, 1) := by decide +kernel
theorem dL_law_427 : decode cL_law 427 = .ok (.invokestatic 113, 3) := by decide +kernel
theorem dL_law_430 : decode cL_law 430 = .ok (.ifCond .eq 7, 3) := by decide +kernel
theorem dL_law_433 : decode cL_law 433 = .ok (.iconst 1, 1) := by decide +kernel
theorem dL_law_434 : decode cL_law 434 = .ok (.goto 4, 3) := by decide +kernel
theorem dL_law_437 : decode cL_law 437 = .ok (.iconst 0, 1) := by decide +kernel
theorem dL_law_438 : decode cL_law 438 = .ok (.ireturn, 1) := by decide +kernel

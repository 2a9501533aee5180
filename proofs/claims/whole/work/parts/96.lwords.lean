/-! the words that the law's walk takes are among the tables' -/
theorem lwin_r1 : ∀ w ∈ wsL_law_r1, w ∈ lw_tbl := fun w h => (goodIn_p wsL_law_r1 [59, 62] (by decide +kernel) (by decide +kernel) w h).1
theorem lwin_r2 : ∀ w ∈ wsL_law_r2, w ∈ lw_tbl := fun w h => (goodIn_p wsL_law_r2 [67, 95] (by decide +kernel) (by decide +kernel) w h).1
theorem lwin_r3 : ∀ w ∈ wsL_law_r3, w ∈ lw_tbl := fun w h => (goodIn_p wsL_law_r3 [158, 172] (by decide +kernel) (by decide +kernel) w h).1
theorem lwin_r4 : ∀ w ∈ wsL_law_r4, w ∈ lw_tbl := fun w h => (goodIn_p wsL_law_r4 [188, 192, 196, 200, 223] (by decide +kernel) (by decide +kernel) w h).1
theorem lwin_r5 : ∀ w ∈ wsL_law_r5, w ∈ lw_tbl := fun w h => (goodIn_p wsL_law_r5 [204, 208, 212, 216, 220, 227] (by decide +kernel) (by decide +kernel) w h).1
theorem lwin_r6 : ∀ w ∈ wsL_law_r6, w ∈ lw_tbl := fun w h => (goodIn_p wsL_law_r6 [231, 235, 239, 242, 521] (by decide +kernel) (by decide +kernel) w h).1
theorem lwin_r7 : ∀ w ∈ wsL_law_r7, w ∈ lw_tbl := fun w h => (goodIn_p wsL_law_r7 [273, 276] (by decide +kernel) (by decide +kernel) w h).1
theorem lwin_r8 : ∀ w ∈ wsL_law_r8, w ∈ lw_tbl := fun w h => (goodIn_p wsL_law_r8 [284, 288, 292, 621, 624] (by decide +kernel) (by decide +kernel) w h).1
theorem lwin_r9 : ∀ w ∈ wsL_law_r9, w ∈ lw_tbl := fun w h => (goodIn_p wsL_law_r9 [605, 617, 598, 296, 300, 303] (by decide +kernel) (by decide +kernel) w h).1
theorem lwin_r10 : ∀ w ∈ wsL_law_r10, w ∈ lw_tbl := fun w h => (goodIn_p wsL_law_r10 [306, 309, 312, 317, 320, 324, 328] (by decide +kernel) (by decide +kernel) w h).1
theorem lwin_r11 : ∀ w ∈ wsL_law_r11, w ∈ lw_tbl := fun w h => (goodIn_p wsL_law_r11 [332, 336, 340, 672, 648] (by decide +kernel) (by decide +kernel) w h).1
theorem lwin_r12 : ∀ w ∈ wsL_law_r12, w ∈ lw_tbl := fun w h => (goodIn_p wsL_law_r12 [652, 656, 660, 663, 668, 676] (by decide +kernel) (by decide +kernel) w h).1
theorem lwin_r13 : ∀ w ∈ wsL_law_r13, w ∈ lw_tbl := fun w h => (goodIn_p wsL_law_r13 [609, 680, 684, 344, 688, 692] (by decide +kernel) (by decide +kernel) w h).1
theorem lwin_r14 : ∀ w ∈ wsL_law_r14, w ∈ lw_tbl := fun w h => (goodIn_p wsL_law_r14 [696, 349, 353, 700, 704, 357] (by decide +kernel) (by decide +kernel) w h).1
theorem lwin_r15 : ∀ w ∈ wsL_law_r15, w ∈ lw_tbl := fun w h => (goodIn_p wsL_law_r15 [708, 361, 365, 369, 373] (by decide +kernel) (by decide +kernel) w h).1
theorem lwin_r16 : ∀ w ∈ wsL_law_r16, w ∈ lw_tbl := fun w h => (goodIn_p wsL_law_r16 [712, 716, 378, 382, 387, 390] (by decide +kernel) (by decide +kernel) w h).1
theorem lwin_r17 : ∀ w ∈ wsL_law_r17, w ∈ lw_tbl := fun w h => (goodIn_p wsL_law_r17 [720, 724, 728, 732, 736] (by decide +kernel) (by decide +kernel) w h).1
theorem lwin_r18 : ∀ w ∈ wsL_law_r18, w ∈ lw_tbl := fun w h => (goodIn_p wsL_law_r18 [740, 744, 748, 752, 756, 759, 762] (by decide +kernel) (by decide +kernel) w h).1
theorem lwin_r19 : ∀ w ∈ wsL_law_r19, w ∈ lw_tbl := fun w h => (goodIn_p wsL_law_r19 [394, 399, 404, 766] (by decide +kernel) (by decide +kernel) w h).1
theorem lwin_r20 : ∀ w ∈ wsL_law_r20, w ∈ lw_tbl := fun w h => (goodIn_p wsL_law_r20 [770, 774, 409, 413, 417, 421] (by decide +kernel) (by decide +kernel) w h).1
theorem lwin_r21 : ∀ w ∈ wsL_law_r21, w ∈ lw_tbl := fun w h => (goodIn_p wsL_law_r21 [778, 782, 786, 425, 429] (by decide +kernel) (by decide +kernel) w h).1
theorem lwin_r22 : ∀ w ∈ wsL_law_r22, w ∈ lw_tbl := fun w h => (goodIn_p wsL_law_r22 [433, 437, 442, 446, 451] (by decide +kernel) (by decide +kernel) w h).1
theorem lwin_r23 : ∀ w ∈ wsL_law_r23, w ∈ lw_tbl := fun w h => (goodIn_p wsL_law_r23 [790, 794, 798, 802, 806, 810] (by decide +kernel) (by decide +kernel) w h).1
theorem lwin_r24 : ∀ w ∈ wsL_law_r24, w ∈ lw_tbl := fun w h => (goodIn_p wsL_law_r24 [455, 814, 459, 818, 463, 822] (by decide +kernel) (by decide +kernel) w h).1
theorem lwin_r25 : ∀ w ∈ wsL_law_r25, w ∈ lw_tbl := fun w h => (goodIn_p wsL_law_r25 [826, 467, 471, 830, 475] (by decide +kernel) (by decide +kernel) w h).1
theorem lwin_r26 : ∀ w ∈ wsL_law_r26, w ∈ lw_tbl := fun w h => (goodIn_p wsL_law_r26 [835, 479, 482, 489, 633] (by decide +kernel) (by decide +kernel) w h).1
theorem lwin_r27 : ∀ w ∈ wsL_law_r27, w ∈ lw_tbl := fun w h => (goodIn_p wsL_law_r27 [493, 640, 497, 644, 501, 505] (by decide +kernel) (by decide +kernel) w h).1
theorem lwin_r28 : ∀ w ∈ wsL_law_r28, w ∈ lw_tbl := fun w h => (goodIn_p wsL_law_r28 [595, 509, 512, 602, 516, 613] (by decide +kernel) (by decide +kernel) w h).1
theorem lwin_X50 : ∀ w ∈ wsX50, w ∈ lw_tbl := fun w h => (goodIn_p wsX50 [] (by decide +kernel) (by decide +kernel) w h).1
theorem lwin_X60 : ∀ w ∈ wsX60, w ∈ lw_tbl := fun w h => (goodIn_p wsX60 [] (by decide +kernel) (by decide +kernel) w h).1
theorem lwin_X10 : ∀ w ∈ wsX10, w ∈ lw_tbl := fun w h => (goodIn_p wsX10 [] (by decide +kernel) (by decide +kernel) w h).1
theorem lwin_X00 : ∀ w ∈ wsX00, w ∈ lw_tbl := fun w h => (goodIn_p wsX00 [] (by decide +kernel) (by decide +kernel) w h).1
theorem lwin_X20 : ∀ w ∈ wsX20, w ∈ lw_tbl := fun w h => (goodIn_p wsX20 [] (by decide +kernel) (by decide +kernel) w h).1
theorem lwin_X30 : ∀ w ∈ wsX30, w ∈ lw_tbl := fun w h => (goodIn_p wsX30 [] (by decide +kernel) (by decide +kernel) w h).1
set_option maxRecDepth 20000 in
theorem wsL_law_in : ∀ w ∈ wsL_law, w ∈ lw_tbl := by
  unfold wsL_law
  exact List.forall_mem_append.mpr ⟨List.forall_mem_append.mpr ⟨List.forall_mem_append.mpr ⟨List.forall_mem_append.mpr ⟨List.forall_mem_append.mpr ⟨List.forall_mem_append.mpr ⟨List.forall_mem_append.mpr ⟨List.forall_mem_append.mpr ⟨lwin_r1, List.forall_mem_append.mpr ⟨lwin_r2, List.forall_mem_append.mpr ⟨lwin_r3, List.forall_mem_append.mpr ⟨lwin_r4, List.forall_mem_append.mpr ⟨lwin_r5, List.forall_mem_append.mpr ⟨lwin_r6, List.forall_mem_append.mpr ⟨lwin_r7, List.forall_mem_append.mpr ⟨lwin_r8, List.forall_mem_append.mpr ⟨lwin_r9, List.forall_mem_append.mpr ⟨lwin_r10, List.forall_mem_append.mpr ⟨lwin_r11, List.forall_mem_append.mpr ⟨lwin_r12, List.forall_mem_append.mpr ⟨lwin_r13, List.forall_mem_append.mpr ⟨lwin_r14, List.forall_mem_append.mpr ⟨lwin_r15, List.forall_mem_append.mpr ⟨lwin_r16, List.forall_mem_append.mpr ⟨lwin_r17, List.forall_mem_append.mpr ⟨lwin_r18, List.forall_mem_append.mpr ⟨lwin_r19, List.forall_mem_append.mpr ⟨lwin_r20, List.forall_mem_append.mpr ⟨lwin_r21, List.forall_mem_append.mpr ⟨lwin_r22, List.forall_mem_append.mpr ⟨lwin_r23, List.forall_mem_append.mpr ⟨lwin_r24, List.forall_mem_append.mpr ⟨lwin_r25, List.forall_mem_append.mpr ⟨lwin_r26, List.forall_mem_append.mpr ⟨lwin_r27, lwin_r28⟩⟩⟩⟩⟩⟩⟩⟩⟩⟩⟩⟩⟩⟩⟩⟩⟩⟩⟩⟩⟩⟩⟩⟩⟩⟩⟩, lwin_X50⟩, lwin_X60⟩, lwin_X10⟩, lwin_X00⟩, lwin_X20⟩, lwin_X30⟩, fun _ h => absurd h List.not_mem_nil⟩

/-! the words that the law's walk takes are among the tables' -/
theorem lwin_r1 : ∀ w ∈ wsL_law_r1, w ∈ lw_tbl := fun w h => (goodIn_p wsL_law_r1 [25, 28] (by decide +kernel) (by decide +kernel) w h).1
theorem lwin_r2 : ∀ w ∈ wsL_law_r2, w ∈ lw_tbl := fun w h => (goodIn_p wsL_law_r2 [33, 61] (by decide +kernel) (by decide +kernel) w h).1
theorem lwin_r3 : ∀ w ∈ wsL_law_r3, w ∈ lw_tbl := fun w h => (goodIn_p wsL_law_r3 [124, 138] (by decide +kernel) (by decide +kernel) w h).1
theorem lwin_r4 : ∀ w ∈ wsL_law_r4, w ∈ lw_tbl := fun w h => (goodIn_p wsL_law_r4 [154, 158, 162, 166, 189, 170] (by decide +kernel) (by decide +kernel) w h).1
theorem lwin_r5 : ∀ w ∈ wsL_law_r5, w ∈ lw_tbl := fun w h => (goodIn_p wsL_law_r5 [174, 178, 182, 186, 193, 197] (by decide +kernel) (by decide +kernel) w h).1
theorem lwin_r6 : ∀ w ∈ wsL_law_r6, w ∈ lw_tbl := fun w h => (goodIn_p wsL_law_r6 [201, 205, 208, 279, 283] (by decide +kernel) (by decide +kernel) w h).1
theorem lwin_r7 : ∀ w ∈ wsL_law_r7, w ∈ lw_tbl := fun w h => (goodIn_p wsL_law_r7 [287, 299, 294, 303, 307, 239] (by decide +kernel) (by decide +kernel) w h).1
theorem lwin_r8 : ∀ w ∈ wsL_law_r8, w ∈ lw_tbl := fun w h => (goodIn_p wsL_law_r8 [243, 247, 251, 255, 259] (by decide +kernel) (by decide +kernel) w h).1
theorem lwin_r9 : ∀ w ∈ wsL_law_r9, w ∈ lw_tbl := fun w h => (goodIn_p wsL_law_r9 [263, 267, 271, 275, 359, 315] (by decide +kernel) (by decide +kernel) w h).1
theorem lwin_r10 : ∀ w ∈ wsL_law_r10, w ∈ lw_tbl := fun w h => (goodIn_p wsL_law_r10 [321, 328, 332, 335] (by decide +kernel) (by decide +kernel) w h).1
theorem lwin_r11 : ∀ w ∈ wsL_law_r11, w ∈ lw_tbl := fun w h => (goodIn_p wsL_law_r11 [362, 366, 369, 377, 381, 385] (by decide +kernel) (by decide +kernel) w h).1
theorem lwin_r12 : ∀ w ∈ wsL_law_r12, w ∈ lw_tbl := fun w h => (goodIn_p wsL_law_r12 [389, 393, 397, 401, 405, 408] (by decide +kernel) (by decide +kernel) w h).1
theorem lwin_r13 : ∀ w ∈ wsL_law_r13, w ∈ lw_tbl := fun w h => (goodIn_p wsL_law_r13 [411, 414, 417, 421, 424, 428, 432] (by decide +kernel) (by decide +kernel) w h).1
theorem lwin_r14 : ∀ w ∈ wsL_law_r14, w ∈ lw_tbl := fun w h => (goodIn_p wsL_law_r14 [436, 440, 444, 448, 452, 458] (by decide +kernel) (by decide +kernel) w h).1
theorem lwin_r15 : ∀ w ∈ wsL_law_r15, w ∈ lw_tbl := fun w h => (goodIn_p wsL_law_r15 [461, 468, 472, 476, 345] (by decide +kernel) (by decide +kernel) w h).1
theorem lwin_r16 : ∀ w ∈ wsL_law_r16, w ∈ lw_tbl := fun w h => (goodIn_p wsL_law_r16 [352, 480, 484, 488] (by decide +kernel) (by decide +kernel) w h).1
theorem lwin_r17 : ∀ w ∈ wsL_law_r17, w ∈ lw_tbl := fun w h => (goodIn_p wsL_law_r17 [492, 496, 500, 504, 291, 310] (by decide +kernel) (by decide +kernel) w h).1
theorem lwin_r18_0 : (Cond.static yL_act : Cond) ∈ lw_tbl := by decide +kernel
theorem lwin_r18_1 : (Cond.code yL_act cL_act 12 (some .int) : Cond) ∈ lw_tbl := by
  unfold lw_tbl tables_1
  exact List.mem_append_right _ (List.mem_append_right _ (List.mem_append_right _ (List.mem_of_getElem? (l := tables_1_3) (i := 14) rfl)))
theorem lwin_r18_2 : (Cond.constantLong RL 92 (58) : Cond) ∈ lw_tbl := by decide +kernel
theorem lwin_r18_3 : (Cond.methodLink RL 89 yL_word : Cond) ∈ lw_tbl := by decide +kernel
theorem lwin_r18_4 : (Cond.static yL_word : Cond) ∈ lw_tbl := by decide +kernel
theorem lwin_r18_5 : (Cond.code yL_word cL_word 4 (some .boolean) : Cond) ∈ lw_tbl := by
  unfold lw_tbl tables_1
  exact List.mem_append_right _ (List.mem_append_right _ (List.mem_append_right _ (List.mem_of_getElem? (l := tables_1_3) (i := 17) rfl)))
theorem lwin_r18_6 : (Cond.methodLink RL 109 yL_isOrdered : Cond) ∈ lw_tbl := by decide +kernel
theorem lwin_r18_7 : (Cond.static yL_isOrdered : Cond) ∈ lw_tbl := by decide +kernel
theorem lwin_r18_8 : (Cond.code yL_isOrdered cL_isOrdered 4 (some .boolean) : Cond) ∈ lw_tbl := by
  unfold lw_tbl tables_1
  exact List.mem_append_right _ (List.mem_append_right _ (List.mem_append_left _ (List.mem_of_getElem? (l := tables_1_2) (i := 85) rfl)))
theorem lwin_r18_9 : (Cond.methodLink RL 113 yL_isLaid : Cond) ∈ lw_tbl := by decide +kernel
theorem lwin_r18_10 : (Cond.static yL_isLaid : Cond) ∈ lw_tbl := by decide +kernel
theorem lwin_r18_11 : (Cond.code yL_isLaid cL_isLaid 14 (some .boolean) : Cond) ∈ lw_tbl := by
  unfold lw_tbl tables_1
  exact List.mem_append_right _ (List.mem_append_right _ (List.mem_append_left _ (List.mem_of_getElem? (l := tables_1_2) (i := 88) rfl)))
theorem lwin_r18_12 : (Cond.methodLink RL 116 yL_isKept : Cond) ∈ lw_tbl := by decide +kernel
theorem lwin_r18_13 : (Cond.static yL_isKept : Cond) ∈ lw_tbl := by decide +kernel
theorem lwin_r18_14 : (Cond.code yL_isKept cL_isKept 9 (some .boolean) : Cond) ∈ lw_tbl := by
  unfold lw_tbl tables_1
  exact List.mem_append_right _ (List.mem_append_right _ (List.mem_append_left _ (List.mem_of_getElem? (l := tables_1_2) (i := 103) rfl)))
theorem lwin_r18 : ∀ w ∈ wsL_law_r18, w ∈ lw_tbl := (List.forall_mem_cons.mpr ⟨lwin_r18_0, (List.forall_mem_cons.mpr ⟨lwin_r18_1, (List.forall_mem_cons.mpr ⟨lwin_r18_2, (List.forall_mem_cons.mpr ⟨lwin_r18_3, (List.forall_mem_cons.mpr ⟨lwin_r18_4, (List.forall_mem_cons.mpr ⟨lwin_r18_5, (List.forall_mem_cons.mpr ⟨lwin_r18_6, (List.forall_mem_cons.mpr ⟨lwin_r18_7, (List.forall_mem_cons.mpr ⟨lwin_r18_8, (List.forall_mem_cons.mpr ⟨lwin_r18_9, (List.forall_mem_cons.mpr ⟨lwin_r18_10, (List.forall_mem_cons.mpr ⟨lwin_r18_11, (List.forall_mem_cons.mpr ⟨lwin_r18_12, (List.forall_mem_cons.mpr ⟨lwin_r18_13, (List.forall_mem_cons.mpr ⟨lwin_r18_14, (fun _ h => absurd h List.not_mem_nil)⟩)⟩)⟩)⟩)⟩)⟩)⟩)⟩)⟩)⟩)⟩)⟩)⟩)⟩)⟩)
theorem lwin_X50 : ∀ w ∈ wsX50, w ∈ lw_tbl := fun w h => (goodIn_p wsX50 [] (by decide +kernel) (by decide +kernel) w h).1
theorem lwin_X10 : ∀ w ∈ wsX10, w ∈ lw_tbl := fun w h => (goodIn_p wsX10 [] (by decide +kernel) (by decide +kernel) w h).1
theorem lwin_X00 : ∀ w ∈ wsX00, w ∈ lw_tbl := fun w h => (goodIn_p wsX00 [] (by decide +kernel) (by decide +kernel) w h).1
theorem lwin_X20 : ∀ w ∈ wsX20, w ∈ lw_tbl := fun w h => (goodIn_p wsX20 [] (by decide +kernel) (by decide +kernel) w h).1
theorem lwin_X30 : ∀ w ∈ wsX30, w ∈ lw_tbl := fun w h => (goodIn_p wsX30 [] (by decide +kernel) (by decide +kernel) w h).1
set_option maxRecDepth 20000 in
theorem wsL_law_in : ∀ w ∈ wsL_law, w ∈ lw_tbl := by
  unfold wsL_law
  exact List.forall_mem_append.mpr ⟨List.forall_mem_append.mpr ⟨List.forall_mem_append.mpr ⟨List.forall_mem_append.mpr ⟨List.forall_mem_append.mpr ⟨List.forall_mem_append.mpr ⟨List.forall_mem_append.mpr ⟨lwin_r1, List.forall_mem_append.mpr ⟨lwin_r2, List.forall_mem_append.mpr ⟨lwin_r3, List.forall_mem_append.mpr ⟨lwin_r4, List.forall_mem_append.mpr ⟨lwin_r5, List.forall_mem_append.mpr ⟨lwin_r6, List.forall_mem_append.mpr ⟨lwin_r7, List.forall_mem_append.mpr ⟨lwin_r8, List.forall_mem_append.mpr ⟨lwin_r9, List.forall_mem_append.mpr ⟨lwin_r10, List.forall_mem_append.mpr ⟨lwin_r11, List.forall_mem_append.mpr ⟨lwin_r12, List.forall_mem_append.mpr ⟨lwin_r13, List.forall_mem_append.mpr ⟨lwin_r14, List.forall_mem_append.mpr ⟨lwin_r15, List.forall_mem_append.mpr ⟨lwin_r16, List.forall_mem_append.mpr ⟨lwin_r17, lwin_r18⟩⟩⟩⟩⟩⟩⟩⟩⟩⟩⟩⟩⟩⟩⟩⟩⟩, lwin_X50⟩, lwin_X10⟩, lwin_X00⟩, lwin_X20⟩, lwin_X30⟩, fun _ h => absurd h List.not_mem_nil⟩

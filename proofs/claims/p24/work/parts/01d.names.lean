set_option maxRecDepth 20000 in
theorem ggX5_leastLines_X5_layTrial : GoodIn wsX5_leastLines wsX5_layTrial := goodIn_r _ [9, 3, 10, 11, 12, 13, 14, 15, 16, 17, 18, 19, 20, 21, 22, 23, 24, 25, 26, 27, 28, 29, 30, 31, 32, 33, 34, 35, 36, 37, 38, 39, 40, 41, 42, 43, 44, 45, 46, 47, 48, 49, 50, 51, 52, 53, 54, 55, 56, 57, 58, 59, 60, 61, 62, 63, 64, 65, 66, 67, 68, 69, 70, 71, 72, 73, 74, 75, 76, 77, 78, 79, 80, 81, 82, 83, 84, 85, 86, 87, 88, 89, 90, 91, 92, 93, 94, 95, 96, 97, 113, 114, 115, 116, 98, 99, 100, 101, 102, 103, 104, 105, 106, 107, 108, 109, 110, 111, 112] (by decide +kernel) (by decide +kernel)
set_option maxRecDepth 20000 in
theorem gX5_leastLines_X5_layTrial : GoodIn wsX5_leastLines (wsV RX5 222 RX5 yX5_layTrial wsX5_layTrial) := goodIn_app (goodIn_of _ (by decide +kernel)) ggX5_leastLines_X5_layTrial
theorem dX5_leastLines_0 : decode cX5_leastLines 0 = .ok (.iload_n 1, 1) := by decide +kernel
theorem dX5_leastLines_1 : decode cX5_leastLines 1 = .ok (.iconst 1, 1) := by decide +kernel
theorem dX5_leastLines_2 : decode cX5_leastLines 2 = .ok (.if_icmp .lt 10, 3) := by decide +kernel
theorem dX5_leastLines_5 : decode cX5_leastLines 5 = .ok (.iload_n 1, 1) := by decide +kernel
theorem dX5_leastLines_6 : decode cX5_leastLines 6 = .ok (.sipush 200, 3) := by decide +kernel
theorem dX5_leastLines_9 : decode cX5_leastLines 9 = .ok (.if_icmp .le 6, 3) := by decide +kernel
theorem dX5_leastLines_12 : decode cX5_leastLines 12 = .ok (.bipush (-2), 2) := by decide +kernel
theorem dX5_leastLines_14 : decode cX5_leastLines 14 = .ok (.ireturn, 1) := by decide +kernel
theorem dX5_leastLines_15 : decode cX5_leastLines 15 = .ok (.getstatic 216, 3) := by decide +kernel
theorem dX5_leastLines_18 : decode cX5_leastLines 18 = .ok (.iconst 0, 1) := by decide +kernel
theorem dX5_leastLines_19 : decode cX5_leastLines 19 = .ok (.iaload, 1) := by decide +kernel
theorem dX5_leastLines_20 : decode cX5_leastLines 20 = .ok (.istore_n 2, 1) := by decide +kernel
theorem dX5_leastLines_21 : decode cX5_leastLines 21 = .ok (.iload_n 2, 1) := by decide +kernel
theorem dX5_leastLines_22 : decode cX5_leastLines 22 = .ok (.getstatic 219, 3) := by decide +kernel
theorem dX5_leastLines_25 : decode cX5_leastLines 25 = .ok (.iconst 0, 1) := by decide +kernel
theorem dX5_leastLines_26 : decode cX5_leastLines 26 = .ok (.iaload, 1) := by decide +kernel
theorem dX5_leastLines_27 : decode cX5_leastLines 27 = .ok (.if_icmp .gt 27, 3) := by decide +kernel
theorem dX5_leastLines_30 : decode cX5_leastLines 30 = .ok (.aload_n 0, 1) := by decide +kernel
theorem dX5_leastLines_31 : decode cX5_leastLines 31 = .ok (.iload_n 2, 1) := by decide +kernel
theorem dX5_leastLines_32 : decode cX5_leastLines 32 = .ok (.invokevirtual 222, 3) := by decide +kernel
theorem dX5_leastLines_35 : decode cX5_leastLines 35 = .ok (.aload_n 0, 1) := by decide +kernel
theorem dX5_leastLines_36 : decode cX5_leastLines 36 = .ok (.getfield 26, 3) := by decide +kernel
theorem dX5_leastLines_39 : decode cX5_leastLines 39 = .ok (.getfield 190, 3) := by decide +kernel
theorem dX5_leastLines_42 : decode cX5_leastLines 42 = .ok (.iload_n 1, 1) := by decide +kernel
theorem dX5_leastLines_43 : decode cX5_leastLines 43 = .ok (.if_icmp .gt 5, 3) := by decide +kernel
theorem dX5_leastLines_46 : decode cX5_leastLines 46 = .ok (.iload_n 2, 1) := by decide +kernel
theorem dX5_leastLines_47 : decode cX5_leastLines 47 = .ok (.ireturn, 1) := by decide +kernel
theorem dX5_leastLines_48 : decode cX5_leastLines 48 = .ok (.iinc 2 1, 3) := by decide +kernel
theorem dX5_leastLines_51 : decode cX5_leastLines 51 = .ok (.goto (-30), 3) := by decide +kernel
theorem dX5_leastLines_54 : decode cX5_leastLines 54 = .ok (.bipush (-6), 2) := by decide +kernel
theorem dX5_leastLines_56 : decode cX5_leastLines 56 = .ok (.ireturn, 1) := by decide +kernel
set_option maxRecDepth 20000 in
theorem ggX5_bestLines_X5_layTrial : GoodIn wsX5_bestLines wsX5_layTrial := goodIn_r _ [8, 2, 9, 10, 11, 12, 13, 14, 15, 16, 17, 18, 19, 20, 21, 22, 23, 24, 25, 26, 27, 28, 29, 30, 31, 32, 33, 34, 35, 36, 37, 38, 39, 40, 41, 42, 43, 44, 45, 46, 47, 48, 49, 50, 51, 52, 53, 54, 55, 56, 57, 58, 59, 60, 61, 62, 63, 64, 65, 66, 67, 68, 69, 70, 71, 72, 73, 74, 75, 76, 77, 78, 79, 80, 81, 82, 83, 84, 85, 86, 87, 88, 97, 98, 99, 100, 101, 102, 103, 104, 105, 106, 107, 108, 109, 110, 111, 112, 113, 114, 115, 116, 117, 118, 119, 120, 121, 122, 123] (by decide +kernel) (by decide +kernel)
set_option maxRecDepth 20000 in
theorem gX5_bestLines_X5_layTrial : GoodIn wsX5_bestLines (wsV RX5 222 RX5 yX5_layTrial wsX5_layTrial) := goodIn_app (goodIn_of _ (by decide +kernel)) ggX5_bestLines_X5_layTrial
set_option maxRecDepth 20000 in
theorem ggX5_bestLines_X0_blankLines : GoodIn wsX5_bestLines wsX0_blankLines := goodIn_r _ [92, 17, 93, 94, 95, 14, 96, 16, 45, 48, 109, 110, 111, 112, 113, 114, 115, 116, 117, 118, 119, 120, 121, 122, 123] (by decide +kernel) (by decide +kernel)
set_option maxRecDepth 20000 in
theorem gX5_bestLines_X0_blankLines : GoodIn wsX5_bestLines (wsV RX5 193 RX0 yX0_blankLines wsX0_blankLines) := goodIn_app (goodIn_of _ (by decide +kernel)) ggX5_bestLines_X0_blankLines
theorem dX5_bestLines_0 : decode cX5_bestLines 0 = .ok (.iload_n 1, 1) := by decide +kernel
theorem dX5_bestLines_1 : decode cX5_bestLines 1 = .ok (.ifCond .eq 11, 3) := by decide +kernel
theorem dX5_bestLines_4 : decode cX5_bestLines 4 = .ok (.iload_n 1, 1) := by decide +kernel
theorem dX5_bestLines_5 : decode cX5_bestLines 5 = .ok (.iconst 1, 1) := by decide +kernel
theorem dX5_bestLines_6 : decode cX5_bestLines 6 = .ok (.if_icmp .eq 6, 3) := by decide +kernel
theorem dX5_bestLines_9 : decode cX5_bestLines 9 = .ok (.bipush (-2), 2) := by decide +kernel
theorem dX5_bestLines_11 : decode cX5_bestLines 11 = .ok (.ireturn, 1) := by decide +kernel
theorem dX5_bestLines_12 : decode cX5_bestLines 12 = .ok (.getstatic 216, 3) := by decide +kernel
theorem dX5_bestLines_15 : decode cX5_bestLines 15 = .ok (.iconst 0, 1) := by decide +kernel
theorem dX5_bestLines_16 : decode cX5_bestLines 16 = .ok (.iaload, 1) := by decide +kernel
theorem dX5_bestLines_17 : decode cX5_bestLines 17 = .ok (.istore_n 2, 1) := by decide +kernel
theorem dX5_bestLines_18 : decode cX5_bestLines 18 = .ok (.aload_n 0, 1) := by decide +kernel
theorem dX5_bestLines_19 : decode cX5_bestLines 19 = .ok (.iload_n 2, 1) := by decide +kernel
theorem dX5_bestLines_20 : decode cX5_bestLines 20 = .ok (.invokevirtual 222, 3) := by decide +kernel
theorem dX5_bestLines_23 : decode cX5_bestLines 23 = .ok (.aload_n 0, 1) := by decide +kernel
theorem dX5_bestLines_24 : decode cX5_bestLines 24 = .ok (.getfield 26, 3) := by decide +kernel
theorem dX5_bestLines_27 : decode cX5_bestLines 27 = .ok (.invokevirtual 193, 3) := by decide +kernel
theorem dX5_bestLines_30 : decode cX5_bestLines 30 = .ok (.istore_n 3, 1) := by decide +kernel
theorem dX5_bestLines_31 : decode cX5_bestLines 31 = .ok (.iload_n 2, 1) := by decide +kernel
theorem dX5_bestLines_32 : decode cX5_bestLines 32 = .ok (.iconst 1, 1) := by decide +kernel
theorem dX5_bestLines_33 : decode cX5_bestLines 33 = .ok (.iadd, 1) := by decide +kernel
theorem dX5_bestLines_34 : decode cX5_bestLines 34 = .ok (.istore 4, 2) := by decide +kernel
theorem dX5_bestLines_36 : decode cX5_bestLines 36 = .ok (.iload 4, 2) := by decide +kernel
theorem dX5_bestLines_38 : decode cX5_bestLines 38 = .ok (.getstatic 219, 3) := by decide +kernel
theorem dX5_bestLines_41 : decode cX5_bestLines 41 = .ok (.iconst 0, 1) := by decide +kernel
theorem dX5_bestLines_42 : decode cX5_bestLines 42 = .ok (.iaload, 1) := by decide +kernel
theorem dX5_bestLines_43 : decode cX5_bestLines 43 = .ok (.if_icmp .gt 36, 3) := by decide +kernel
theorem dX5_bestLines_46 : decode cX5_bestLines 46 = .ok (.aload_n 0, 1) := by decide +kernel
theorem dX5_bestLines_47 : decode cX5_bestLines 47 = .ok (.iload 4, 2) := by decide +kernel
theorem dX5_bestLines_49 : decode cX5_bestLines 49 = .ok (.invokevirtual 222, 3) := by decide +kernel
theorem dX5_bestLines_52 : decode cX5_bestLines 52 = .ok (.aload_n 0, 1) := by decide +kernel
theorem dX5_bestLines_53 : decode cX5_bestLines 53 = .ok (.getfield 26, 3) := by decide +kernel
theorem dX5_bestLines_56 : decode cX5_bestLines 56 = .ok (.invokevirtual 193, 3) := by decide +kernel
theorem dX5_bestLines_59 : decode cX5_bestLines 59 = .ok (.istore 5, 2) := by decide +kernel
theorem dX5_bestLines_61 : decode cX5_bestLines 61 = .ok (.iload 5, 2) := by decide +kernel
theorem dX5_bestLines_63 : decode cX5_bestLines 63 = .ok (.iload_n 3, 1) := by decide +kernel
theorem dX5_bestLines_64 : decode cX5_bestLines 64 = .ok (.if_icmp .ge 9, 3) := by decide +kernel
theorem dX5_bestLines_67 : decode cX5_bestLines 67 = .ok (.iload 4, 2) := by decide +kernel
theorem dX5_bestLines_69 : decode cX5_bestLines 69 = .ok (.istore_n 2, 1) := by decide +kernel
theorem dX5_bestLines_70 : decode cX5_bestLines 70 = .ok (.iload 5, 2) := by decide +kernel
theorem dX5_bestLines_72 : decode cX5_bestLines 72 = .ok (.istore_n 3, 1) := by decide +kernel
theorem dX5_bestLines_73 : decode cX5_bestLines 73 = .ok (.iinc 4 1, 3) := by decide +kernel
theorem dX5_bestLines_76 : decode cX5_bestLines 76 = .ok (.goto (-40), 3) := by decide +kernel
theorem dX5_bestLines_79 : decode cX5_bestLines 79 = .ok (.iload_n 1, 1) := by decide +kernel
theorem dX5_bestLines_80 : decode cX5_bestLines 80 = .ok (.ifCond .ne 7, 3) := by decide +kernel
theorem dX5_bestLines_83 : decode cX5_bestLines 83 = .ok (.iload_n 2, 1) := by decide +kernel
theorem dX5_bestLines_84 : decode cX5_bestLines 84 = .ok (.goto 4, 3) := by decide +kernel
theorem dX5_bestLines_87 : decode cX5_bestLines 87 = .ok (.iload_n 3, 1) := by decide +kernel
theorem dX5_bestLines_88 : decode cX5_bestLines 88 = .ok (.ireturn, 1) := by decide +kernel
set_option maxRecDepth 20000 in
theorem ggX5_put_X5_charactersIn : GoodIn wsX5_put wsX5_charactersIn := goodIn_r _ [6, 7, 8, 9] (by decide +kernel) (by decide +kernel)
set_option maxRecDepth 20000 in
theorem gX5_put_X5_charactersIn : GoodIn wsX5_put (va_wsS RX5 225 yX5_charactersIn wsX5_charactersIn) := goodIn_app (goodIn_of _ (by decide +kernel)) ggX5_put_X5_charactersIn
set_option maxRecDepth 20000 in
theorem ggX5_put_X2_append : GoodIn wsX5_put wsX2_append := goodIn_r _ [14, 15, 16, 25, 26] (by decide +kernel) (by decide +kernel)
set_option maxRecDepth 20000 in
theorem gX5_put_X2_append : GoodIn wsX5_put (wsV RX5 228 RX2 yX2_append wsX2_append) := goodIn_app (goodIn_of _ (by decide +kernel)) ggX5_put_X2_append
theorem dX5_put_0 : decode cX5_put 0 = .ok (.lload_n 1, 1) := by decide +kernel
theorem dX5_put_1 : decode cX5_put 1 = .ok (.invokestatic 225, 3) := by decide +kernel
theorem dX5_put_4 : decode cX5_put 4 = .ok (.istore_n 3, 1) := by decide +kernel
theorem dX5_put_5 : decode cX5_put 5 = .ok (.iload_n 3, 1) := by decide +kernel
theorem dX5_put_6 : decode cX5_put 6 = .ok (.ifCond .ne 6, 3) := by decide +kernel
theorem dX5_put_9 : decode cX5_put 9 = .ok (.bipush (-2), 2) := by decide +kernel
theorem dX5_put_11 : decode cX5_put 11 = .ok (.ireturn, 1) := by decide +kernel
theorem dX5_put_12 : decode cX5_put 12 = .ok (.aload_n 0, 1) := by decide +kernel
theorem dX5_put_13 : decode cX5_put 13 = .ok (.getfield 32, 3) := by decide +kernel
theorem dX5_put_16 : decode cX5_put 16 = .ok (.getfield 181, 3) := by decide +kernel
theorem dX5_put_19 : decode cX5_put 19 = .ok (.iload_n 3, 1) := by decide +kernel
theorem dX5_put_20 : decode cX5_put 20 = .ok (.iadd, 1) := by decide +kernel
theorem dX5_put_21 : decode cX5_put 21 = .ok (.bipush 60, 2) := by decide +kernel
theorem dX5_put_23 : decode cX5_put 23 = .ok (.if_icmp .le 6, 3) := by decide +kernel
theorem dX5_put_26 : decode cX5_put 26 = .ok (.bipush (-4), 2) := by decide +kernel
theorem dX5_put_28 : decode cX5_put 28 = .ok (.ireturn, 1) := by decide +kernel
theorem dX5_put_29 : decode cX5_put 29 = .ok (.iload_n 3, 1) := by decide +kernel
theorem dX5_put_30 : decode cX5_put 30 = .ok (.iconst 1, 1) := by decide +kernel
theorem dX5_put_31 : decode cX5_put 31 = .ok (.isub, 1) := by decide +kernel
theorem dX5_put_32 : decode cX5_put 32 = .ok (.istore 4, 2) := by decide +kernel
theorem dX5_put_34 : decode cX5_put 34 = .ok (.iload 4, 2) := by decide +kernel
theorem dX5_put_36 : decode cX5_put 36 = .ok (.ifCond .lt 28, 3) := by decide +kernel
theorem dX5_put_39 : decode cX5_put 39 = .ok (.aload_n 0, 1) := by decide +kernel
theorem dX5_put_40 : decode cX5_put 40 = .ok (.getfield 32, 3) := by decide +kernel
theorem dX5_put_43 : decode cX5_put 43 = .ok (.lload_n 1, 1) := by decide +kernel
theorem dX5_put_44 : decode cX5_put 44 = .ok (.bipush 8, 2) := by decide +kernel
theorem dX5_put_46 : decode cX5_put 46 = .ok (.iload 4, 2) := by decide +kernel
theorem dX5_put_48 : decode cX5_put 48 = .ok (.imul, 1) := by decide +kernel
theorem dX5_put_49 : decode cX5_put 49 = .ok (.lushr, 1) := by decide +kernel
theorem dX5_put_50 : decode cX5_put 50 = .ok (.l2i, 1) := by decide +kernel
theorem dX5_put_51 : decode cX5_put 51 = .ok (.sipush 255, 3) := by decide +kernel
theorem dX5_put_54 : decode cX5_put 54 = .ok (.iand, 1) := by decide +kernel
theorem dX5_put_55 : decode cX5_put 55 = .ok (.invokevirtual 228, 3) := by decide +kernel
theorem dX5_put_58 : decode cX5_put 58 = .ok (.iinc 4 (-1), 3) := by decide +kernel
theorem dX5_put_61 : decode cX5_put 61 = .ok (.goto (-27), 3) := by decide +kernel
theorem dX5_put_64 : decode cX5_put 64 = .ok (.aload_n 0, 1) := by decide +kernel
theorem dX5_put_65 : decode cX5_put 65 = .ok (.getfield 32, 3) := by decide +kernel
theorem dX5_put_68 : decode cX5_put 68 = .ok (.getfield 181, 3) := by decide +kernel
theorem dX5_put_71 : decode cX5_put 71 = .ok (.ireturn, 1) := by decide +kernel
set_option maxRecDepth 20000 in
theorem ggX5_wipe_X2_empty : GoodIn wsX5_wipe wsX2_empty := goodIn_r _ [7, 8, 17, 18] (by decide +kernel) (by decide +kernel)
set_option maxRecDepth 20000 in
theorem gX5_wipe_X2_empty : GoodIn wsX5_wipe (wsV RX5 77 RX2 yX2_empty wsX2_empty) := goodIn_app (goodIn_of _ (by decide +kernel)) ggX5_wipe_X2_empty
theorem dX5_wipe_0 : decode cX5_wipe 0 = .ok (.aload_n 0, 1) := by decide +kernel
theorem dX5_wipe_1 : decode cX5_wipe 1 = .ok (.getfield 32, 3) := by decide +kernel
theorem dX5_wipe_4 : decode cX5_wipe 4 = .ok (.getfield 181, 3) := by decide +kernel
theorem dX5_wipe_7 : decode cX5_wipe 7 = .ok (.istore_n 1, 1) := by decide +kernel
theorem dX5_wipe_8 : decode cX5_wipe 8 = .ok (.aload_n 0, 1) := by decide +kernel
theorem dX5_wipe_9 : decode cX5_wipe 9 = .ok (.getfield 32, 3) := by decide +kernel
theorem dX5_wipe_12 : decode cX5_wipe 12 = .ok (.invokevirtual 77, 3) := by decide +kernel
theorem dX5_wipe_15 : decode cX5_wipe 15 = .ok (.iload_n 1, 1) := by decide +kernel
theorem dX5_wipe_16 : decode cX5_wipe 16 = .ok (.ireturn, 1) := by decide +kernel
set_option maxRecDepth 20000 in
theorem ggX5_undo_X3_goBack : GoodIn wsX5_undo wsX3_goBack := goodIn_r _ [8, 9, 10, 11, 12, 13, 14, 15, 16, 17, 18, 19, 110, 111, 112, 113, 114, 115] (by decide +kernel) (by decide +kernel)
set_option maxRecDepth 20000 in
theorem gX5_undo_X3_goBack : GoodIn wsX5_undo (wsV RX5 231 RX3 yX3_goBack wsX3_goBack) := goodIn_app (goodIn_of _ (by decide +kernel)) ggX5_undo_X3_goBack
set_option maxRecDepth 20000 in
theorem ggX5_undo_X5_layPages : GoodIn wsX5_undo wsX5_layPages := goodIn_r _ [24, 25, 3, 26, 27, 28, 29, 30, 31, 32, 33, 34, 35, 36, 37, 38, 39, 40, 41, 42, 43, 44, 45, 46, 47, 48, 49, 50, 51, 52, 53, 54, 55, 56, 57, 58, 59, 60, 61, 62, 63, 64, 65, 66, 67, 68, 69, 70, 71, 72, 73, 74, 75, 76, 77, 78, 79, 80, 81, 82, 83, 84, 85, 86, 87, 88, 89, 90, 91, 14, 92, 19, 93, 94, 95, 96, 17, 97, 98, 99, 100, 101, 102, 103, 104, 105, 106, 107, 108, 109, 112, 113, 114, 115, 116, 117, 118, 119, 120, 121, 122, 123, 124, 125, 126, 127, 128, 129, 130] (by decide +kernel) (by decide +kernel)
set_option maxRecDepth 20000 in
theorem gX5_undo_X5_layPages : GoodIn wsX5_undo (wsV RX5 51 RX5 yX5_layPages wsX5_layPages) := goodIn_app (goodIn_of _ (by decide +kernel)) ggX5_undo_X5_layPages
theorem dX5_undo_0 : decode cX5_undo 0 = .ok (.aload_n 0, 1) := by decide +kernel
theorem dX5_undo_1 : decode cX5_undo 1 = .ok (.getfield 39, 3) := by decide +kernel
theorem dX5_undo_4 : decode cX5_undo 4 = .ok (.getfield 184, 3) := by decide +kernel
theorem dX5_undo_7 : decode cX5_undo 7 = .ok (.ifCond .ne 6, 3) := by decide +kernel
theorem dX5_undo_10 : decode cX5_undo 10 = .ok (.bipush (-5), 2) := by decide +kernel
theorem dX5_undo_12 : decode cX5_undo 12 = .ok (.ireturn, 1) := by decide +kernel
theorem dX5_undo_13 : decode cX5_undo 13 = .ok (.aload_n 0, 1) := by decide +kernel
theorem dX5_undo_14 : decode cX5_undo 14 = .ok (.getfield 39, 3) := by decide +kernel
theorem dX5_undo_17 : decode cX5_undo 17 = .ok (.aload_n 0, 1) := by decide +kernel
theorem dX5_undo_18 : decode cX5_undo 18 = .ok (.getfield 12, 3) := by decide +kernel
theorem dX5_undo_21 : decode cX5_undo 21 = .ok (.invokevirtual 231, 3) := by decide +kernel
theorem dX5_undo_24 : decode cX5_undo 24 = .ok (.aload_n 0, 1) := by decide +kernel
theorem dX5_undo_25 : decode cX5_undo 25 = .ok (.invokevirtual 51, 3) := by decide +kernel
theorem dX5_undo_28 : decode cX5_undo 28 = .ok (.aload_n 0, 1) := by decide +kernel
theorem dX5_undo_29 : decode cX5_undo 29 = .ok (.getfield 39, 3) := by decide +kernel
theorem dX5_undo_32 : decode cX5_undo 32 = .ok (.getfield 184, 3) := by decide +kernel
theorem dX5_undo_35 : decode cX5_undo 35 = .ok (.ireturn, 1) := by decide +kernel
set_option maxRecDepth 20000 in
theorem ggX5_save_X5_isSlot : GoodIn wsX5_save wsX5_isSlot := goodIn_r _ [8] (by decide +kernel) (by decide +kernel)
set_option maxRecDepth 20000 in
theorem gX5_save_X5_isSlot : GoodIn wsX5_save (va_wsS RX5 234 yX5_isSlot wsX5_isSlot) := goodIn_app (goodIn_of _ (by decide +kernel)) ggX5_save_X5_isSlot
set_option maxRecDepth 20000 in
theorem ggX5_save_X1_copyOf : GoodIn wsX5_save wsX1_copyOf := goodIn_r _ [13, 14, 15, 16, 17, 26, 27, 28, 29] (by decide +kernel) (by decide +kernel)
set_option maxRecDepth 20000 in
theorem gX5_save_X1_copyOf : GoodIn wsX5_save (wsV RX5 70 RX1 yX1_copyOf wsX1_copyOf) := goodIn_app (goodIn_of _ (by decide +kernel)) ggX5_save_X1_copyOf
theorem dX5_save_0 : decode cX5_save 0 = .ok (.iload_n 1, 1) := by decide +kernel
theorem dX5_save_1 : decode cX5_save 1 = .ok (.invokestatic 234, 3) := by decide +kernel
theorem dX5_save_4 : decode cX5_save 4 = .ok (.ifCond .ne 6, 3) := by decide +kernel
theorem dX5_save_7 : decode cX5_save 7 = .ok (.bipush (-2), 2) := by decide +kernel
theorem dX5_save_9 : decode cX5_save 9 = .ok (.ireturn, 1) := by decide +kernel
theorem dX5_save_10 : decode cX5_save 10 = .ok (.aload_n 0, 1) := by decide +kernel
theorem dX5_save_11 : decode cX5_save 11 = .ok (.getfield 43, 3) := by decide +kernel
theorem dX5_save_14 : decode cX5_save 14 = .ok (.iload_n 1, 1) := by decide +kernel
theorem dX5_save_15 : decode cX5_save 15 = .ok (.aaload, 1) := by decide +kernel
theorem dX5_save_16 : decode cX5_save 16 = .ok (.aload_n 0, 1) := by decide +kernel
theorem dX5_save_17 : decode cX5_save 17 = .ok (.getfield 12, 3) := by decide +kernel
theorem dX5_save_20 : decode cX5_save 20 = .ok (.invokevirtual 70, 3) := by decide +kernel
theorem dX5_save_23 : decode cX5_save 23 = .ok (.aload_n 0, 1) := by decide +kernel
theorem dX5_save_24 : decode cX5_save 24 = .ok (.getfield 47, 3) := by decide +kernel
theorem dX5_save_27 : decode cX5_save 27 = .ok (.iload_n 1, 1) := by decide +kernel
theorem dX5_save_28 : decode cX5_save 28 = .ok (.iconst 1, 1) := by decide +kernel
theorem dX5_save_29 : decode cX5_save 29 = .ok (.bastore, 1) := by decide +kernel
theorem dX5_save_30 : decode cX5_save 30 = .ok (.aload_n 0, 1) := by decide +kernel
theorem dX5_save_31 : decode cX5_save 31 = .ok (.getfield 12, 3) := by decide +kernel
theorem dX5_save_34 : decode cX5_save 34 = .ok (.getfield 80, 3) := by decide +kernel
theorem dX5_save_37 : decode cX5_save 37 = .ok (.ireturn, 1) := by decide +kernel
set_option maxRecDepth 20000 in
theorem ggX5_restore_X5_isSlot : GoodIn wsX5_restore wsX5_isSlot := goodIn_r _ [9] (by decide +kernel) (by decide +kernel)
set_option maxRecDepth 20000 in
theorem gX5_restore_X5_isSlot : GoodIn wsX5_restore (va_wsS RX5 234 yX5_isSlot wsX5_isSlot) := goodIn_app (goodIn_of _ (by decide +kernel)) ggX5_restore_X5_isSlot
set_option maxRecDepth 20000 in
theorem ggX5_restore_X3_remember : GoodIn wsX5_restore wsX3_remember := goodIn_r _ [14, 15, 16, 17, 18, 19, 13, 20, 21, 22, 23, 24, 25, 26, 27, 28, 29, 124, 125, 120, 121, 122, 123] (by decide +kernel) (by decide +kernel)
set_option maxRecDepth 20000 in
theorem gX5_restore_X3_remember : GoodIn wsX5_restore (wsV RX5 58 RX3 yX3_remember wsX3_remember) := goodIn_app (goodIn_of _ (by decide +kernel)) ggX5_restore_X3_remember
set_option maxRecDepth 20000 in
theorem ggX5_restore_X1_copyOf : GoodIn wsX5_restore wsX1_copyOf := goodIn_r _ [25, 26, 27, 28, 29, 120, 121, 122, 123] (by decide +kernel) (by decide +kernel)
set_option maxRecDepth 20000 in
theorem gX5_restore_X1_copyOf : GoodIn wsX5_restore (wsV RX5 70 RX1 yX1_copyOf wsX1_copyOf) := goodIn_app (goodIn_of _ (by decide +kernel)) ggX5_restore_X1_copyOf
set_option maxRecDepth 20000 in
theorem ggX5_restore_X5_layPages : GoodIn wsX5_restore wsX5_layPages := goodIn_r _ [34, 35, 3, 36, 37, 38, 39, 40, 41, 42, 43, 44, 45, 46, 47, 48, 49, 50, 51, 52, 53, 54, 55, 56, 57, 58, 59, 60, 61, 62, 63, 64, 65, 66, 67, 68, 69, 70, 71, 72, 73, 74, 75, 76, 77, 78, 79, 80, 81, 82, 83, 84, 85, 86, 87, 88, 89, 90, 91, 92, 93, 94, 95, 96, 97, 98, 99, 100, 101, 24, 102, 29, 103, 104, 105, 106, 27, 107, 108, 109, 110, 111, 112, 113, 114, 115, 116, 117, 118, 119, 120, 121, 122, 123, 126, 127, 128, 129, 130, 131, 132, 133, 134, 135, 136, 137, 138, 139, 140] (by decide +kernel) (by decide +kernel)
set_option maxRecDepth 20000 in
theorem gX5_restore_X5_layPages : GoodIn wsX5_restore (wsV RX5 51 RX5 yX5_layPages wsX5_layPages) := goodIn_app (goodIn_of _ (by decide +kernel)) ggX5_restore_X5_layPages
theorem dX5_restore_0 : decode cX5_restore 0 = .ok (.iload_n 1, 1) := by decide +kernel
theorem dX5_restore_1 : decode cX5_restore 1 = .ok (.invokestatic 234, 3) := by decide +kernel
theorem dX5_restore_4 : decode cX5_restore 4 = .ok (.ifCond .ne 6, 3) := by decide +kernel
theorem dX5_restore_7 : decode cX5_restore 7 = .ok (.bipush (-2), 2) := by decide +kernel
theorem dX5_restore_9 : decode cX5_restore 9 = .ok (.ireturn, 1) := by decide +kernel
theorem dX5_restore_10 : decode cX5_restore 10 = .ok (.aload_n 0, 1) := by decide +kernel
theorem dX5_restore_11 : decode cX5_restore 11 = .ok (.getfield 47, 3) := by decide +kernel
theorem dX5_restore_14 : decode cX5_restore 14 = .ok (.iload_n 1, 1) := by decide +kernel
theorem dX5_restore_15 : decode cX5_restore 15 = .ok (.baload, 1) := by decide +kernel
theorem dX5_restore_16 : decode cX5_restore 16 = .ok (.ifCond .ne 6, 3) := by decide +kernel
theorem dX5_restore_19 : decode cX5_restore 19 = .ok (.bipush (-5), 2) := by decide +kernel
theorem dX5_restore_21 : decode cX5_restore 21 = .ok (.ireturn, 1) := by decide +kernel
theorem dX5_restore_22 : decode cX5_restore 22 = .ok (.aload_n 0, 1) := by decide +kernel
theorem dX5_restore_23 : decode cX5_restore 23 = .ok (.getfield 39, 3) := by decide +kernel
theorem dX5_restore_26 : decode cX5_restore 26 = .ok (.aload_n 0, 1) := by decide +kernel
theorem dX5_restore_27 : decode cX5_restore 27 = .ok (.getfield 12, 3) := by decide +kernel
theorem dX5_restore_30 : decode cX5_restore 30 = .ok (.invokevirtual 58, 3) := by decide +kernel
theorem dX5_restore_33 : decode cX5_restore 33 = .ok (.aload_n 0, 1) := by decide +kernel
theorem dX5_restore_34 : decode cX5_restore 34 = .ok (.getfield 12, 3) := by decide +kernel
theorem dX5_restore_37 : decode cX5_restore 37 = .ok (.aload_n 0, 1) := by decide +kernel
theorem dX5_restore_38 : decode cX5_restore 38 = .ok (.getfield 43, 3) := by decide +kernel
theorem dX5_restore_41 : decode cX5_restore 41 = .ok (.iload_n 1, 1) := by decide +kernel
theorem dX5_restore_42 : decode cX5_restore 42 = .ok (.aaload, 1) := by decide +kernel
theorem dX5_restore_43 : decode cX5_restore 43 = .ok (.invokevirtual 70, 3) := by decide +kernel
theorem dX5_restore_46 : decode cX5_restore 46 = .ok (.aload_n 0, 1) := by decide +kernel
theorem dX5_restore_47 : decode cX5_restore 47 = .ok (.invokevirtual 51, 3) := by decide +kernel
theorem dX5_restore_50 : decode cX5_restore 50 = .ok (.aload_n 0, 1) := by decide +kernel
theorem dX5_restore_51 : decode cX5_restore 51 = .ok (.getfield 12, 3) := by decide +kernel
theorem dX5_restore_54 : decode cX5_restore 54 = .ok (.getfield 80, 3) := by decide +kernel
theorem dX5_restore_57 : decode cX5_restore 57 = .ok (.ireturn, 1) := by decide +kernel
set_option maxRecDepth 20000 in
theorem ggX5_layPages_X0_lay : GoodIn wsX5_layPages wsX0_lay := goodIn_r _ [8, 9, 10, 11, 12, 13, 14, 15, 16, 7, 17, 18, 19, 20, 21, 22, 23, 24, 25, 26, 27, 28, 29, 30, 31, 32, 33, 34, 35, 36, 37, 38, 39, 40, 41, 42, 43, 44, 45, 46, 47, 48, 49, 50, 51, 52, 53, 54, 55, 56, 57, 58, 59, 60, 61, 62, 63, 64, 65, 66, 67, 68, 69, 70, 71, 72, 73, 74, 75, 76, 77, 78, 79, 80, 81, 94, 95, 96, 97, 98, 99, 100, 101, 102, 103, 104, 105, 106, 107, 108, 90, 91, 92, 93] (by decide +kernel) (by decide +kernel)
set_option maxRecDepth 20000 in
theorem gX5_layPages_X0_lay : GoodIn wsX5_layPages (wsV RX5 212 RX0 yX0_lay wsX0_lay) := goodIn_app (goodIn_of _ (by decide +kernel)) ggX5_layPages_X0_lay
theorem dX5_layPages_0 : decode cX5_layPages 0 = .ok (.aload_n 0, 1) := by decide +kernel
theorem dX5_layPages_1 : decode cX5_layPages 1 = .ok (.getfield 22, 3) := by decide +kernel
theorem dX5_layPages_4 : decode cX5_layPages 4 = .ok (.aload_n 0, 1) := by decide +kernel
theorem dX5_layPages_5 : decode cX5_layPages 5 = .ok (.getfield 12, 3) := by decide +kernel
theorem dX5_layPages_8 : decode cX5_layPages 8 = .ok (.aload_n 0, 1) := by decide +kernel
theorem dX5_layPages_9 : decode cX5_layPages 9 = .ok (.getfield 12, 3) := by decide +kernel
theorem dX5_layPages_12 : decode cX5_layPages 12 = .ok (.getfield 62, 3) := by decide +kernel
theorem dX5_layPages_15 : decode cX5_layPages 15 = .ok (.iconst 0, 1) := by decide +kernel
theorem dX5_layPages_16 : decode cX5_layPages 16 = .ok (.iaload, 1) := by decide +kernel
theorem dX5_layPages_17 : decode cX5_layPages 17 = .ok (.aload_n 0, 1) := by decide +kernel
theorem dX5_layPages_18 : decode cX5_layPages 18 = .ok (.getfield 12, 3) := by decide +kernel
theorem dX5_layPages_21 : decode cX5_layPages 21 = .ok (.getfield 62, 3) := by decide +kernel
theorem dX5_layPages_24 : decode cX5_layPages 24 = .ok (.iconst 1, 1) := by decide +kernel
theorem dX5_layPages_25 : decode cX5_layPages 25 = .ok (.iaload, 1) := by decide +kernel
theorem dX5_layPages_26 : decode cX5_layPages 26 = .ok (.aload_n 0, 1) := by decide +kernel
theorem dX5_layPages_27 : decode cX5_layPages 27 = .ok (.getfield 12, 3) := by decide +kernel
theorem dX5_layPages_30 : decode cX5_layPages 30 = .ok (.getfield 62, 3) := by decide +kernel
theorem dX5_layPages_33 : decode cX5_layPages 33 = .ok (.iconst 2, 1) := by decide +kernel
theorem dX5_layPages_34 : decode cX5_layPages 34 = .ok (.iaload, 1) := by decide +kernel
theorem dX5_layPages_35 : decode cX5_layPages 35 = .ok (.invokevirtual 212, 3) := by decide +kernel
theorem dX5_layPages_38 : decode cX5_layPages 38 = .ok (.return_, 1) := by decide +kernel
set_option maxRecDepth 20000 in
theorem ggX5_layTrial_X0_lay : GoodIn wsX5_layTrial wsX0_lay := goodIn_r _ [8, 9, 10, 11, 12, 13, 14, 15, 16, 7, 17, 18, 19, 20, 21, 22, 23, 24, 25, 26, 27, 28, 29, 30, 31, 32, 33, 34, 35, 36, 37, 38, 39, 40, 41, 42, 43, 44, 45, 46, 47, 48, 49, 50, 51, 52, 53, 54, 55, 56, 57, 58, 59, 60, 61, 62, 63, 64, 65, 66, 67, 68, 69, 70, 71, 72, 73, 74, 75, 76, 77, 78, 79, 80, 81, 94, 95, 96, 97, 98, 99, 100, 101, 102, 103, 104, 105, 106, 107, 108, 90, 91, 92, 93] (by decide +kernel) (by decide +kernel)
set_option maxRecDepth 20000 in
theorem gX5_layTrial_X0_lay : GoodIn wsX5_layTrial (wsV RX5 212 RX0 yX0_lay wsX0_lay) := goodIn_app (goodIn_of _ (by decide +kernel)) ggX5_layTrial_X0_lay
theorem dX5_layTrial_0 : decode cX5_layTrial 0 = .ok (.aload_n 0, 1) := by decide +kernel
theorem dX5_layTrial_1 : decode cX5_layTrial 1 = .ok (.getfield 26, 3) := by decide +kernel
theorem dX5_layTrial_4 : decode cX5_layTrial 4 = .ok (.aload_n 0, 1) := by decide +kernel
theorem dX5_layTrial_5 : decode cX5_layTrial 5 = .ok (.getfield 12, 3) := by decide +kernel
theorem dX5_layTrial_8 : decode cX5_layTrial 8 = .ok (.iload_n 1, 1) := by decide +kernel
theorem dX5_layTrial_9 : decode cX5_layTrial 9 = .ok (.aload_n 0, 1) := by decide +kernel
theorem dX5_layTrial_10 : decode cX5_layTrial 10 = .ok (.getfield 12, 3) := by decide +kernel
theorem dX5_layTrial_13 : decode cX5_layTrial 13 = .ok (.getfield 62, 3) := by decide +kernel
theorem dX5_layTrial_16 : decode cX5_layTrial 16 = .ok (.iconst 1, 1) := by decide +kernel
theorem dX5_layTrial_17 : decode cX5_layTrial 17 = .ok (.iaload, 1) := by decide +kernel
theorem dX5_layTrial_18 : decode cX5_layTrial 18 = .ok (.aload_n 0, 1) := by decide +kernel
theorem dX5_layTrial_19 : decode cX5_layTrial 19 = .ok (.getfield 12, 3) := by decide +kernel
theorem dX5_layTrial_22 : decode cX5_layTrial 22 = .ok (.getfield 62, 3) := by decide +kernel
theorem dX5_layTrial_25 : decode cX5_layTrial 25 = .ok (.iconst 2, 1) := by decide +kernel
theorem dX5_layTrial_26 : decode cX5_layTrial 26 = .ok (.iaload, 1) := by decide +kernel
theorem dX5_layTrial_27 : decode cX5_layTrial 27 = .ok (.invokevirtual 212, 3) := by decide +kernel
theorem dX5_layTrial_30 : decode cX5_layTrial 30 = .ok (.return_, 1) := by decide +kernel
theorem dX5_isSettingValue_0 : decode cX5_isSettingValue 0 = .ok (.iload_n 0, 1) := by decide +kernel
theorem dX5_isSettingValue_1 : decode cX5_isSettingValue 1 = .ok (.ifCond .lt 30, 3) := by decide +kernel
theorem dX5_isSettingValue_4 : decode cX5_isSettingValue 4 = .ok (.iload_n 0, 1) := by decide +kernel
theorem dX5_isSettingValue_5 : decode cX5_isSettingValue 5 = .ok (.iconst 3, 1) := by decide +kernel
theorem dX5_isSettingValue_6 : decode cX5_isSettingValue 6 = .ok (.if_icmp .ge 25, 3) := by decide +kernel
theorem dX5_isSettingValue_9 : decode cX5_isSettingValue 9 = .ok (.iload_n 1, 1) := by decide +kernel
theorem dX5_isSettingValue_10 : decode cX5_isSettingValue 10 = .ok (.getstatic 216, 3) := by decide +kernel
theorem dX5_isSettingValue_13 : decode cX5_isSettingValue 13 = .ok (.iload_n 0, 1) := by decide +kernel
theorem dX5_isSettingValue_14 : decode cX5_isSettingValue 14 = .ok (.iaload, 1) := by decide +kernel
theorem dX5_isSettingValue_15 : decode cX5_isSettingValue 15 = .ok (.if_icmp .lt 16, 3) := by decide +kernel
theorem dX5_isSettingValue_18 : decode cX5_isSettingValue 18 = .ok (.iload_n 1, 1) := by decide +kernel
theorem dX5_isSettingValue_19 : decode cX5_isSettingValue 19 = .ok (.getstatic 219, 3) := by decide +kernel
theorem dX5_isSettingValue_22 : decode cX5_isSettingValue 22 = .ok (.iload_n 0, 1) := by decide +kernel
theorem dX5_isSettingValue_23 : decode cX5_isSettingValue 23 = .ok (.iaload, 1) := by decide +kernel
theorem dX5_isSettingValue_24 : decode cX5_isSettingValue 24 = .ok (.if_icmp .gt 7, 3) := by decide +kernel
theorem dX5_isSettingValue_27 : decode cX5_isSettingValue 27 = .ok (.iconst 1, 1) := by decide +kernel
theorem dX5_isSettingValue_28 : decode cX5_isSettingValue 28 = .ok (.goto 4, 3) := by decide +kernel
theorem dX5_isSettingValue_31 : decode cX5_isSettingValue 31 = .ok (.iconst 0, 1) := by decide +kernel
theorem dX5_isSettingValue_32 : decode cX5_isSettingValue 32 = .ok (.ireturn, 1) := by decide +kernel
theorem dX5_isSlot_0 : decode cX5_isSlot 0 = .ok (.iload_n 0, 1) := by decide +kernel
theorem dX5_isSlot_1 : decode cX5_isSlot 1 = .ok (.ifCond .lt 12, 3) := by decide +kernel
theorem dX5_isSlot_4 : decode cX5_isSlot 4 = .ok (.iload_n 0, 1) := by decide +kernel
theorem dX5_isSlot_5 : decode cX5_isSlot 5 = .ok (.iconst 2, 1) := by decide +kernel
theorem dX5_isSlot_6 : decode cX5_isSlot 6 = .ok (.if_icmp .ge 7, 3) := by decide +kernel
theorem dX5_isSlot_9 : decode cX5_isSlot 9 = .ok (.iconst 1, 1) := by decide +kernel
theorem dX5_isSlot_10 : decode cX5_isSlot 10 = .ok (.goto 4, 3) := by decide +kernel
theorem dX5_isSlot_13 : decode cX5_isSlot 13 = .ok (.iconst 0, 1) := by decide +kernel
theorem dX5_isSlot_14 : decode cX5_isSlot 14 = .ok (.ireturn, 1) := by decide +kernel
theorem dX5_codeOrNone_0 : decode cX5_codeOrNone 0 = .ok (.iload_n 0, 1) := by decide +kernel
theorem dX5_codeOrNone_1 : decode cX5_codeOrNone 1 = .ok (.ifCond .ne 8, 3) := by decide +kernel
theorem dX5_codeOrNone_4 : decode cX5_codeOrNone 4 = .ok (.bipush (-6), 2) := by decide +kernel
theorem dX5_codeOrNone_6 : decode cX5_codeOrNone 6 = .ok (.goto 4, 3) := by decide +kernel
theorem dX5_codeOrNone_9 : decode cX5_codeOrNone 9 = .ok (.iload_n 0, 1) := by decide +kernel
theorem dX5_codeOrNone_10 : decode cX5_codeOrNone 10 = .ok (.ireturn, 1) := by decide +kernel
theorem dX5_charactersIn_0 : decode cX5_charactersIn 0 = .ok (.iconst 0, 1) := by decide +kernel
theorem dX5_charactersIn_1 : decode cX5_charactersIn 1 = .ok (.istore_n 2, 1) := by decide +kernel
theorem dX5_charactersIn_2 : decode cX5_charactersIn 2 = .ok (.iload_n 2, 1) := by decide +kernel
theorem dX5_charactersIn_3 : decode cX5_charactersIn 3 = .ok (.bipush 8, 2) := by decide +kernel
theorem dX5_charactersIn_5 : decode cX5_charactersIn 5 = .ok (.if_icmp .ge 51, 3) := by decide +kernel
theorem dX5_charactersIn_8 : decode cX5_charactersIn 8 = .ok (.lload_n 0, 1) := by decide +kernel
theorem dX5_charactersIn_9 : decode cX5_charactersIn 9 = .ok (.bipush 8, 2) := by decide +kernel
theorem dX5_charactersIn_11 : decode cX5_charactersIn 11 = .ok (.iload_n 2, 1) := by decide +kernel
theorem dX5_charactersIn_12 : decode cX5_charactersIn 12 = .ok (.imul, 1) := by decide +kernel
theorem dX5_charactersIn_13 : decode cX5_charactersIn 13 = .ok (.lushr, 1) := by decide +kernel
theorem dX5_charactersIn_14 : decode cX5_charactersIn 14 = .ok (.lstore_n 3, 1) := by decide +kernel
theorem dX5_charactersIn_15 : decode cX5_charactersIn 15 = .ok (.lload_n 3, 1) := by decide +kernel
theorem dX5_charactersIn_16 : decode cX5_charactersIn 16 = .ok (.lconst 0, 1) := by decide +kernel
theorem dX5_charactersIn_17 : decode cX5_charactersIn 17 = .ok (.lcmp, 1) := by decide +kernel
theorem dX5_charactersIn_18 : decode cX5_charactersIn 18 = .ok (.ifCond .ne 5, 3) := by decide +kernel
theorem dX5_charactersIn_21 : decode cX5_charactersIn 21 = .ok (.iload_n 2, 1) := by decide +kernel
theorem dX5_charactersIn_22 : decode cX5_charactersIn 22 = .ok (.ireturn, 1) := by decide +kernel
theorem dX5_charactersIn_23 : decode cX5_charactersIn 23 = .ok (.lload_n 3, 1) := by decide +kernel
theorem dX5_charactersIn_24 : decode cX5_charactersIn 24 = .ok (.ldc2_w 237, 3) := by decide +kernel
theorem dX5_charactersIn_27 : decode cX5_charactersIn 27 = .ok (.land, 1) := by decide +kernel
theorem dX5_charactersIn_28 : decode cX5_charactersIn 28 = .ok (.lstore 5, 2) := by decide +kernel
theorem dX5_charactersIn_30 : decode cX5_charactersIn 30 = .ok (.lload 5, 2) := by decide +kernel
theorem dX5_charactersIn_32 : decode cX5_charactersIn 32 = .ok (.ldc2_w 239, 3) := by decide +kernel
theorem dX5_charactersIn_35 : decode cX5_charactersIn 35 = .ok (.lcmp, 1) := by decide +kernel
theorem dX5_charactersIn_36 : decode cX5_charactersIn 36 = .ok (.ifCond .lt 12, 3) := by decide +kernel
theorem dX5_charactersIn_39 : decode cX5_charactersIn 39 = .ok (.lload 5, 2) := by decide +kernel
theorem dX5_charactersIn_41 : decode cX5_charactersIn 41 = .ok (.ldc2_w 241, 3) := by decide +kernel
theorem dX5_charactersIn_44 : decode cX5_charactersIn 44 = .ok (.lcmp, 1) := by decide +kernel
theorem dX5_charactersIn_45 : decode cX5_charactersIn 45 = .ok (.ifCond .le 5, 3) := by decide +kernel
theorem dX5_charactersIn_48 : decode cX5_charactersIn 48 = .ok (.iconst 0, 1) := by decide +kernel
theorem dX5_charactersIn_49 : decode cX5_charactersIn 49 = .ok (.ireturn, 1) := by decide +kernel
theorem dX5_charactersIn_50 : decode cX5_charactersIn 50 = .ok (.iinc 2 1, 3) := by decide +kernel
theorem dX5_charactersIn_53 : decode cX5_charactersIn 53 = .ok (.goto (-51), 3) := by decide +kernel
theorem dX5_charactersIn_56 : decode cX5_charactersIn 56 = .ok (.bipush 8, 2) := by decide +kernel
theorem dX5_charactersIn_58 : decode cX5_charactersIn 58 = .ok (.ireturn, 1) := by decide +kernel
theorem dJ9_min_7cf53_0 : decode cJ9_min_7cf53 0 = .ok (.iload_n 0, 1) := by decide +kernel
theorem dJ9_min_7cf53_1 : decode cJ9_min_7cf53 1 = .ok (.iload_n 1, 1) := by decide +kernel
theorem dJ9_min_7cf53_2 : decode cJ9_min_7cf53 2 = .ok (.if_icmp .gt 7, 3) := by decide +kernel
theorem dJ9_min_7cf53_5 : decode cJ9_min_7cf53 5 = .ok (.iload_n 0, 1) := by decide +kernel
theorem dJ9_min_7cf53_6 : decode cJ9_min_7cf53 6 = .ok (.goto 4, 3) := by decide +kernel
theorem dJ9_min_7cf53_9 : decode cJ9_min_7cf53 9 = .ok (.iload_n 1, 1) := by decide +kernel
theorem dJ9_min_7cf53_10 : decode cJ9_min_7cf53 10 = .ok (.ireturn, 1) := by decide +kernel
theorem dL_cell_0 : decode cL_cell 0 = .ok (.iload_n 1, 1) := by decide +kernel
theorem dL_cell_1 : decode cL_cell 1 = .ok (.aload_n 0, 1) := by decide +kernel
theorem dL_cell_2 : decode cL_cell 2 = .ok (.arraylength, 1) := by decide +kernel
theorem dL_cell_3 : decode cL_cell 3 = .ok (.if_icmp .ge 9, 3) := by decide +kernel
theorem dL_cell_6 : decode cL_cell 6 = .ok (.aload_n 0, 1) := by decide +kernel
theorem dL_cell_7 : decode cL_cell 7 = .ok (.iload_n 1, 1) := by decide +kernel
theorem dL_cell_8 : decode cL_cell 8 = .ok (.iaload, 1) := by decide +kernel
theorem dL_cell_9 : decode cL_cell 9 = .ok (.goto 14, 3) := by decide +kernel
theorem dL_cell_12 : decode cL_cell 12 = .ok (.ldc 7, 2) := by decide +kernel
theorem dL_cell_14 : decode cL_cell 14 = .ok (.iload_n 1, 1) := by decide +kernel
theorem dL_cell_15 : decode cL_cell 15 = .ok (.bipush 107, 2) := by decide +kernel
theorem dL_cell_17 : decode cL_cell 17 = .ok (.iadd, 1) := by decide +kernel
theorem dL_cell_18 : decode cL_cell 18 = .ok (.imul, 1) := by decide +kernel
theorem dL_cell_19 : decode cL_cell 19 = .ok (.sipush 23017, 3) := by decide +kernel
theorem dL_cell_22 : decode cL_cell 22 = .ok (.iadd, 1) := by decide +kernel
theorem dL_cell_23 : decode cL_cell 23 = .ok (.ldc 8, 2) := by decide +kernel
theorem dL_cell_25 : decode cL_cell 25 = .ok (.iand, 1) := by decide +kernel
theorem dL_cell_26 : decode cL_cell 26 = .ok (.ireturn, 1) := by decide +kernel
set_option maxRecDepth 20000 in
theorem ggL_seen_X5_count : GoodIn wsL_seen wsX5_count := goodIn_r _ [7, 8, 9, 10, 11, 12, 13, 14, 15, 16, 17, 18, 19, 20, 21, 22, 23, 24, 6, 25, 26, 27, 28, 29, 30, 31, 32, 33, 34, 35, 36, 37, 38, 39, 40, 41, 42, 43, 44, 45, 46, 47, 48, 49, 50, 51, 52, 53, 54, 55, 56, 57, 58, 59, 60, 61, 62, 63, 64, 65, 100, 101, 102, 103, 104, 105, 106, 107, 108, 109, 110, 111, 112, 113, 114, 115, 116, 117, 118, 119, 120, 121, 122, 123, 124, 125, 126, 127, 128, 129, 130] (by decide +kernel) (by decide +kernel)
set_option maxRecDepth 20000 in
theorem gL_seen_X5_count : GoodIn wsL_seen (wsV RL 13 RX5 yX5_count wsX5_count) := goodIn_app (goodIn_of _ (by decide +kernel)) ggL_seen_X5_count
set_option maxRecDepth 20000 in
theorem ggL_seen_X5_entry : GoodIn wsL_seen wsX5_entry := goodIn_r _ [69, 8, 70, 26, 71, 72, 73, 74, 75, 76, 18, 77, 20, 78, 57, 58, 33, 59, 60, 61, 79, 80, 81, 82, 83, 84, 85, 86, 87, 88, 89, 90, 91, 92, 93, 94, 95, 96, 97, 98, 6, 99, 100, 101, 102, 103, 104, 105, 106, 107, 108, 109, 110, 111, 116, 117, 118, 119, 120, 121, 122, 123, 124, 125, 126, 127, 128, 129, 130] (by decide +kernel) (by decide +kernel)
set_option maxRecDepth 20000 in
theorem gL_seen_X5_entry : GoodIn wsL_seen (wsV RL 19 RX5 yX5_entry wsX5_entry) := goodIn_app (goodIn_of _ (by decide +kernel)) ggL_seen_X5_entry
theorem dL_seen_0 : decode cL_seen 0 = .ok (.ldc2_w 9, 3) := by decide +kernel
theorem dL_seen_3 : decode cL_seen 3 = .ok (.lstore_n 1, 1) := by decide +kernel
theorem dL_seen_4 : decode cL_seen 4 = .ok (.iconst 0, 1) := by decide +kernel
theorem dL_seen_5 : decode cL_seen 5 = .ok (.istore_n 3, 1) := by decide +kernel
theorem dL_seen_6 : decode cL_seen 6 = .ok (.iload_n 3, 1) := by decide +kernel
theorem dL_seen_7 : decode cL_seen 7 = .ok (.bipush 13, 2) := by decide +kernel
theorem dL_seen_9 : decode cL_seen 9 = .ok (.if_icmp .ge 22, 3) := by decide +kernel
theorem dL_seen_12 : decode cL_seen 12 = .ok (.ldc2_w 11, 3) := by decide +kernel
theorem dL_seen_15 : decode cL_seen 15 = .ok (.lload_n 1, 1) := by decide +kernel
theorem dL_seen_16 : decode cL_seen 16 = .ok (.lmul, 1) := by decide +kernel
theorem dL_seen_17 : decode cL_seen 17 = .ok (.aload_n 0, 1) := by decide +kernel
theorem dL_seen_18 : decode cL_seen 18 = .ok (.iload_n 3, 1) := by decide +kernel
theorem dL_seen_19 : decode cL_seen 19 = .ok (.invokevirtual 13, 3) := by decide +kernel
theorem dL_seen_22 : decode cL_seen 22 = .ok (.i2l, 1) := by decide +kernel
theorem dL_seen_23 : decode cL_seen 23 = .ok (.ladd, 1) := by decide +kernel
theorem dL_seen_24 : decode cL_seen 24 = .ok (.lstore_n 1, 1) := by decide +kernel
theorem dL_seen_25 : decode cL_seen 25 = .ok (.iinc 3 1, 3) := by decide +kernel
theorem dL_seen_28 : decode cL_seen 28 = .ok (.goto (-22), 3) := by decide +kernel
theorem dL_seen_31 : decode cL_seen 31 = .ok (.iconst 0, 1) := by decide +kernel
theorem dL_seen_32 : decode cL_seen 32 = .ok (.istore_n 3, 1) := by decide +kernel
theorem dL_seen_33 : decode cL_seen 33 = .ok (.iload_n 3, 1) := by decide +kernel
theorem dL_seen_34 : decode cL_seen 34 = .ok (.aload_n 0, 1) := by decide +kernel
theorem dL_seen_35 : decode cL_seen 35 = .ok (.iconst 3, 1) := by decide +kernel
theorem dL_seen_36 : decode cL_seen 36 = .ok (.invokevirtual 13, 3) := by decide +kernel
theorem dL_seen_39 : decode cL_seen 39 = .ok (.if_icmp .ge 66, 3) := by decide +kernel
theorem dL_seen_42 : decode cL_seen 42 = .ok (.ldc2_w 11, 3) := by decide +kernel
theorem dL_seen_45 : decode cL_seen 45 = .ok (.ldc2_w 11, 3) := by decide +kernel
theorem dL_seen_48 : decode cL_seen 48 = .ok (.lload_n 1, 1) := by decide +kernel
theorem dL_seen_49 : decode cL_seen 49 = .ok (.lmul, 1) := by decide +kernel
theorem dL_seen_50 : decode cL_seen 50 = .ok (.aload_n 0, 1) := by decide +kernel
theorem dL_seen_51 : decode cL_seen 51 = .ok (.iload_n 3, 1) := by decide +kernel
theorem dL_seen_52 : decode cL_seen 52 = .ok (.iconst 0, 1) := by decide +kernel
theorem dL_seen_53 : decode cL_seen 53 = .ok (.invokevirtual 19, 3) := by decide +kernel
theorem dL_seen_56 : decode cL_seen 56 = .ok (.i2l, 1) := by decide +kernel
theorem dL_seen_57 : decode cL_seen 57 = .ok (.ladd, 1) := by decide +kernel
theorem dL_seen_58 : decode cL_seen 58 = .ok (.lmul, 1) := by decide +kernel
theorem dL_seen_59 : decode cL_seen 59 = .ok (.aload_n 0, 1) := by decide +kernel
theorem dL_seen_60 : decode cL_seen 60 = .ok (.iload_n 3, 1) := by decide +kernel
theorem dL_seen_61 : decode cL_seen 61 = .ok (.iconst 3, 1) := by decide +kernel
theorem dL_seen_62 : decode cL_seen 62 = .ok (.invokevirtual 19, 3) := by decide +kernel
theorem dL_seen_65 : decode cL_seen 65 = .ok (.i2l, 1) := by decide +kernel
theorem dL_seen_66 : decode cL_seen 66 = .ok (.ladd, 1) := by decide +kernel
theorem dL_seen_67 : decode cL_seen 67 = .ok (.lstore_n 1, 1) := by decide +kernel
theorem dL_seen_68 : decode cL_seen 68 = .ok (.iconst 5, 1) := by decide +kernel
theorem dL_seen_69 : decode cL_seen 69 = .ok (.istore 4, 2) := by decide +kernel
theorem dL_seen_71 : decode cL_seen 71 = .ok (.iload 4, 2) := by decide +kernel
theorem dL_seen_73 : decode cL_seen 73 = .ok (.bipush 13, 2) := by decide +kernel
theorem dL_seen_75 : decode cL_seen 75 = .ok (.if_icmp .ge 24, 3) := by decide +kernel
theorem dL_seen_78 : decode cL_seen 78 = .ok (.ldc2_w 11, 3) := by decide +kernel
theorem dL_seen_81 : decode cL_seen 81 = .ok (.lload_n 1, 1) := by decide +kernel
theorem dL_seen_82 : decode cL_seen 82 = .ok (.lmul, 1) := by decide +kernel
theorem dL_seen_83 : decode cL_seen 83 = .ok (.aload_n 0, 1) := by decide +kernel
theorem dL_seen_84 : decode cL_seen 84 = .ok (.iload_n 3, 1) := by decide +kernel
theorem dL_seen_85 : decode cL_seen 85 = .ok (.iload 4, 2) := by decide +kernel
theorem dL_seen_87 : decode cL_seen 87 = .ok (.invokevirtual 19, 3) := by decide +kernel
theorem dL_seen_90 : decode cL_seen 90 = .ok (.i2l, 1) := by decide +kernel
theorem dL_seen_91 : decode cL_seen 91 = .ok (.ladd, 1) := by decide +kernel
theorem dL_seen_92 : decode cL_seen 92 = .ok (.lstore_n 1, 1) := by decide +kernel
theorem dL_seen_93 : decode cL_seen 93 = .ok (.iinc 4 1, 3) := by decide +kernel
theorem dL_seen_96 : decode cL_seen 96 = .ok (.goto (-25), 3) := by decide +kernel
theorem dL_seen_99 : decode cL_seen 99 = .ok (.iinc 3 1, 3) := by decide +kernel
theorem dL_seen_102 : decode cL_seen 102 = .ok (.goto (-69), 3) := by decide +kernel
theorem dL_seen_105 : decode cL_seen 105 = .ok (.lload_n 1, 1) := by decide +kernel
theorem dL_seen_106 : decode cL_seen 106 = .ok (.lreturn, 1) := by decide +kernel
set_option maxRecDepth 20000 in
theorem ggL_isOrdered_X5_count : GoodIn wsL_isOrdered wsX5_count := goodIn_r _ [5, 6, 7, 8, 9, 10, 11, 12, 13, 14, 15, 16, 17, 18, 19, 20, 21, 22, 4, 23, 24, 25, 26, 27, 28, 29, 30, 31, 32, 33, 34, 35, 36, 37, 38, 39, 40, 41, 42, 43, 44, 45, 46, 47, 48, 49, 50, 51, 52, 53, 54, 55, 56, 57, 58, 59, 60, 61, 62, 63, 98, 99, 100, 101, 102, 103, 104, 105, 106, 107, 108, 109, 110, 111, 112, 113, 114, 115, 116, 117, 118, 119, 120, 121, 122, 123, 124, 125, 126, 127, 128] (by decide +kernel) (by decide +kernel)
set_option maxRecDepth 20000 in
theorem gL_isOrdered_X5_count : GoodIn wsL_isOrdered (wsV RL 13 RX5 yX5_count wsX5_count) := goodIn_app (goodIn_of _ (by decide +kernel)) ggL_isOrdered_X5_count
set_option maxRecDepth 20000 in
theorem ggL_isOrdered_X5_entry : GoodIn wsL_isOrdered wsX5_entry := goodIn_r _ [67, 6, 68, 24, 69, 70, 71, 72, 73, 74, 16, 75, 18, 76, 55, 56, 31, 57, 58, 59, 77, 78, 79, 80, 81, 82, 83, 84, 85, 86, 87, 88, 89, 90, 91, 92, 93, 94, 95, 96, 4, 97, 98, 99, 100, 101, 102, 103, 104, 105, 106, 107, 108, 109, 114, 115, 116, 117, 118, 119, 120, 121, 122, 123, 124, 125, 126, 127, 128] (by decide +kernel) (by decide +kernel)
set_option maxRecDepth 20000 in
theorem gL_isOrdered_X5_entry : GoodIn wsL_isOrdered (wsV RL 19 RX5 yX5_entry wsX5_entry) := goodIn_app (goodIn_of _ (by decide +kernel)) ggL_isOrdered_X5_entry
theorem dL_isOrdered_0 : decode cL_isOrdered 0 = .ok (.iconst 1, 1) := by decide +kernel
theorem dL_isOrdered_1 : decode cL_isOrdered 1 = .ok (.istore_n 1, 1) := by decide +kernel
theorem dL_isOrdered_2 : decode cL_isOrdered 2 = .ok (.iconst 1, 1) := by decide +kernel
theorem dL_isOrdered_3 : decode cL_isOrdered 3 = .ok (.istore_n 2, 1) := by decide +kernel
theorem dL_isOrdered_4 : decode cL_isOrdered 4 = .ok (.iload_n 2, 1) := by decide +kernel
theorem dL_isOrdered_5 : decode cL_isOrdered 5 = .ok (.aload_n 0, 1) := by decide +kernel
theorem dL_isOrdered_6 : decode cL_isOrdered 6 = .ok (.iconst 3, 1) := by decide +kernel
theorem dL_isOrdered_7 : decode cL_isOrdered 7 = .ok (.invokevirtual 13, 3) := by decide +kernel
theorem dL_isOrdered_10 : decode cL_isOrdered 10 = .ok (.if_icmp .ge 110, 3) := by decide +kernel
theorem dL_isOrdered_13 : decode cL_isOrdered 13 = .ok (.iload_n 1, 1) := by decide +kernel
theorem dL_isOrdered_14 : decode cL_isOrdered 14 = .ok (.ifCond .eq 106, 3) := by decide +kernel
theorem dL_isOrdered_17 : decode cL_isOrdered 17 = .ok (.bipush 6, 2) := by decide +kernel
theorem dL_isOrdered_19 : decode cL_isOrdered 19 = .ok (.istore_n 3, 1) := by decide +kernel
theorem dL_isOrdered_20 : decode cL_isOrdered 20 = .ok (.iload_n 3, 1) := by decide +kernel
theorem dL_isOrdered_21 : decode cL_isOrdered 21 = .ok (.bipush 13, 2) := by decide +kernel
theorem dL_isOrdered_23 : decode cL_isOrdered 23 = .ok (.if_icmp .ge 26, 3) := by decide +kernel
theorem dL_isOrdered_26 : decode cL_isOrdered 26 = .ok (.aload_n 0, 1) := by decide +kernel
theorem dL_isOrdered_27 : decode cL_isOrdered 27 = .ok (.iload_n 2, 1) := by decide +kernel
theorem dL_isOrdered_28 : decode cL_isOrdered 28 = .ok (.iload_n 3, 1) := by decide +kernel
theorem dL_isOrdered_29 : decode cL_isOrdered 29 = .ok (.invokevirtual 19, 3) := by decide +kernel
theorem dL_isOrdered_32 : decode cL_isOrdered 32 = .ok (.aload_n 0, 1) := by decide +kernel
theorem dL_isOrdered_33 : decode cL_isOrdered 33 = .ok (.iload_n 2, 1) := by decide +kernel
theorem dL_isOrdered_34 : decode cL_isOrdered 34 = .ok (.iconst 1, 1) := by decide +kernel
theorem dL_isOrdered_35 : decode cL_isOrdered 35 = .ok (.isub, 1) := by decide +kernel
theorem dL_isOrdered_36 : decode cL_isOrdered 36 = .ok (.iload_n 3, 1) := by decide +kernel
theorem dL_isOrdered_37 : decode cL_isOrdered 37 = .ok (.invokevirtual 19, 3) := by decide +kernel
theorem dL_isOrdered_40 : decode cL_isOrdered 40 = .ok (.if_icmp .ne 9, 3) := by decide +kernel
theorem dL_isOrdered_43 : decode cL_isOrdered 43 = .ok (.iinc 3 1, 3) := by decide +kernel
theorem dL_isOrdered_46 : decode cL_isOrdered 46 = .ok (.goto (-26), 3) := by decide +kernel
theorem dL_isOrdered_49 : decode cL_isOrdered 49 = .ok (.iload_n 3, 1) := by decide +kernel
theorem dL_isOrdered_50 : decode cL_isOrdered 50 = .ok (.bipush 13, 2) := by decide +kernel
theorem dL_isOrdered_52 : decode cL_isOrdered 52 = .ok (.if_icmp .ge 60, 3) := by decide +kernel
theorem dL_isOrdered_55 : decode cL_isOrdered 55 = .ok (.aload_n 0, 1) := by decide +kernel
theorem dL_isOrdered_56 : decode cL_isOrdered 56 = .ok (.iload_n 2, 1) := by decide +kernel
theorem dL_isOrdered_57 : decode cL_isOrdered 57 = .ok (.iload_n 3, 1) := by decide +kernel
theorem dL_isOrdered_58 : decode cL_isOrdered 58 = .ok (.invokevirtual 19, 3) := by decide +kernel
theorem dL_isOrdered_61 : decode cL_isOrdered 61 = .ok (.aload_n 0, 1) := by decide +kernel
theorem dL_isOrdered_62 : decode cL_isOrdered 62 = .ok (.iload_n 2, 1) := by decide +kernel
theorem dL_isOrdered_63 : decode cL_isOrdered 63 = .ok (.iconst 1, 1) := by decide +kernel
theorem dL_isOrdered_64 : decode cL_isOrdered 64 = .ok (.isub, 1) := by decide +kernel
theorem dL_isOrdered_65 : decode cL_isOrdered 65 = .ok (.iload_n 3, 1) := by decide +kernel
theorem dL_isOrdered_66 : decode cL_isOrdered 66 = .ok (.invokevirtual 19, 3) := by decide +kernel
theorem dL_isOrdered_69 : decode cL_isOrdered 69 = .ok (.if_icmp .le 43, 3) := by decide +kernel
theorem dL_isOrdered_72 : decode cL_isOrdered 72 = .ok (.aload_n 0, 1) := by decide +kernel
theorem dL_isOrdered_73 : decode cL_isOrdered 73 = .ok (.iload_n 2, 1) := by decide +kernel
theorem dL_isOrdered_74 : decode cL_isOrdered 74 = .ok (.iconst 1, 1) := by decide +kernel
theorem dL_isOrdered_75 : decode cL_isOrdered 75 = .ok (.invokevirtual 19, 3) := by decide +kernel
theorem dL_isOrdered_78 : decode cL_isOrdered 78 = .ok (.aload_n 0, 1) := by decide +kernel
theorem dL_isOrdered_79 : decode cL_isOrdered 79 = .ok (.iload_n 2, 1) := by decide +kernel
theorem dL_isOrdered_80 : decode cL_isOrdered 80 = .ok (.iconst 1, 1) := by decide +kernel
theorem dL_isOrdered_81 : decode cL_isOrdered 81 = .ok (.isub, 1) := by decide +kernel
theorem dL_isOrdered_82 : decode cL_isOrdered 82 = .ok (.iconst 3, 1) := by decide +kernel
theorem dL_isOrdered_83 : decode cL_isOrdered 83 = .ok (.invokevirtual 19, 3) := by decide +kernel
theorem dL_isOrdered_86 : decode cL_isOrdered 86 = .ok (.if_icmp .lt 26, 3) := by decide +kernel
theorem dL_isOrdered_89 : decode cL_isOrdered 89 = .ok (.aload_n 0, 1) := by decide +kernel
theorem dL_isOrdered_90 : decode cL_isOrdered 90 = .ok (.iload_n 2, 1) := by decide +kernel
theorem dL_isOrdered_91 : decode cL_isOrdered 91 = .ok (.iconst 1, 1) := by decide +kernel
theorem dL_isOrdered_92 : decode cL_isOrdered 92 = .ok (.invokevirtual 19, 3) := by decide +kernel
theorem dL_isOrdered_95 : decode cL_isOrdered 95 = .ok (.aload_n 0, 1) := by decide +kernel
theorem dL_isOrdered_96 : decode cL_isOrdered 96 = .ok (.iload_n 2, 1) := by decide +kernel
theorem dL_isOrdered_97 : decode cL_isOrdered 97 = .ok (.iconst 1, 1) := by decide +kernel
theorem dL_isOrdered_98 : decode cL_isOrdered 98 = .ok (.isub, 1) := by decide +kernel
theorem dL_isOrdered_99 : decode cL_isOrdered 99 = .ok (.iconst 3, 1) := by decide +kernel
theorem dL_isOrdered_100 : decode cL_isOrdered 100 = .ok (.invokevirtual 19, 3) := by decide +kernel
theorem dL_isOrdered_103 : decode cL_isOrdered 103 = .ok (.iconst 1, 1) := by decide +kernel
theorem dL_isOrdered_104 : decode cL_isOrdered 104 = .ok (.iadd, 1) := by decide +kernel
theorem dL_isOrdered_105 : decode cL_isOrdered 105 = .ok (.if_icmp .gt 7, 3) := by decide +kernel
theorem dL_isOrdered_108 : decode cL_isOrdered 108 = .ok (.iconst 1, 1) := by decide +kernel
theorem dL_isOrdered_109 : decode cL_isOrdered 109 = .ok (.goto 4, 3) := by decide +kernel
theorem dL_isOrdered_112 : decode cL_isOrdered 112 = .ok (.iconst 0, 1) := by decide +kernel
theorem dL_isOrdered_113 : decode cL_isOrdered 113 = .ok (.istore_n 1, 1) := by decide +kernel
theorem dL_isOrdered_114 : decode cL_isOrdered 114 = .ok (.iinc 2 1, 3) := by decide +kernel
theorem dL_isOrdered_117 : decode cL_isOrdered 117 = .ok (.goto (-113), 3) := by decide +kernel
theorem dL_isOrdered_120 : decode cL_isOrdered 120 = .ok (.iload_n 1, 1) := by decide +kernel
theorem dL_isOrdered_121 : decode cL_isOrdered 121 = .ok (.ireturn, 1) := by decide +kernel
set_option maxRecDepth 20000 in
theorem ggL_isLaid_X5_count : GoodIn wsL_isLaid wsX5_count := goodIn_r _ [5, 6, 7, 8, 9, 10, 11, 12, 13, 14, 15, 16, 17, 18, 19, 20, 21, 22, 4, 23, 24, 25, 26, 27, 28, 29, 30, 31, 32, 33, 34, 35, 36, 37, 38, 39, 40, 41, 42, 43, 44, 45, 46, 47, 48, 49, 50, 51, 52, 53, 54, 55, 56, 57, 58, 59, 60, 61, 62, 63, 125, 126, 127, 128, 129, 130, 131, 132, 133, 134, 135, 136, 137, 138, 139, 140, 141, 142, 143, 144, 145, 146, 147, 148, 149, 150, 151, 152, 153, 154, 155] (by decide +kernel) (by decide +kernel)
set_option maxRecDepth 20000 in
theorem gL_isLaid_X5_count : GoodIn wsL_isLaid (wsV RL 13 RX5 yX5_count wsX5_count) := goodIn_app (goodIn_of _ (by decide +kernel)) ggL_isLaid_X5_count
set_option maxRecDepth 20000 in
theorem ggL_isLaid_X5_page : GoodIn wsL_isLaid wsX5_page := goodIn_r _ [67, 24, 68, 69, 70, 71, 72, 6, 73, 74, 75, 31, 76, 33, 77, 39, 40, 41, 42, 43, 44, 78, 79, 80, 81, 82, 83, 84, 85, 86, 16, 87, 88, 89, 90, 91, 92, 18, 93, 94, 95, 96, 97, 98, 99, 100, 101, 102, 103, 104, 105, 106, 107, 108, 109, 110, 4, 111, 125, 126, 127, 128, 129, 130, 131, 132, 141, 142, 143, 144, 145, 146, 147, 148, 149, 150, 151, 152, 153, 154, 155, 133, 134, 135, 136] (by decide +kernel) (by decide +kernel)
set_option maxRecDepth 20000 in
theorem gL_isLaid_X5_page : GoodIn wsL_isLaid (wsV RL 23 RX5 yX5_page wsX5_page) := goodIn_app (goodIn_of _ (by decide +kernel)) ggL_isLaid_X5_page
set_option maxRecDepth 20000 in
theorem ggL_isLaid_X5_entry : GoodIn wsL_isLaid wsX5_entry := goodIn_r _ [115, 6, 116, 24, 117, 118, 119, 120, 90, 91, 16, 92, 18, 121, 55, 56, 31, 57, 58, 59, 122, 85, 86, 87, 88, 89, 123, 94, 95, 96, 97, 124, 103, 104, 105, 106, 107, 108, 109, 110, 4, 111, 125, 126, 127, 128, 129, 130, 131, 132, 133, 134, 135, 136, 141, 142, 143, 144, 145, 146, 147, 148, 149, 150, 151, 152, 153, 154, 155] (by decide +kernel) (by decide +kernel)
set_option maxRecDepth 20000 in
theorem gL_isLaid_X5_entry : GoodIn wsL_isLaid (wsV RL 19 RX5 yX5_entry wsX5_entry) := goodIn_app (goodIn_of _ (by decide +kernel)) ggL_isLaid_X5_entry
theorem dL_isLaid_0 : decode cL_isLaid 0 = .ok (.aload_n 0, 1) := by decide +kernel
theorem dL_isLaid_1 : decode cL_isLaid 1 = .ok (.iconst 4, 1) := by decide +kernel
theorem dL_isLaid_2 : decode cL_isLaid 2 = .ok (.invokevirtual 13, 3) := by decide +kernel
theorem dL_isLaid_5 : decode cL_isLaid 5 = .ok (.istore_n 1, 1) := by decide +kernel
theorem dL_isLaid_6 : decode cL_isLaid 6 = .ok (.iconst 0, 1) := by decide +kernel
theorem dL_isLaid_7 : decode cL_isLaid 7 = .ok (.istore_n 2, 1) := by decide +kernel
theorem dL_isLaid_8 : decode cL_isLaid 8 = .ok (.iconst 0, 1) := by decide +kernel
theorem dL_isLaid_9 : decode cL_isLaid 9 = .ok (.istore_n 3, 1) := by decide +kernel
theorem dL_isLaid_10 : decode cL_isLaid 10 = .ok (.iconst 0, 1) := by decide +kernel
theorem dL_isLaid_11 : decode cL_isLaid 11 = .ok (.istore 4, 2) := by decide +kernel
theorem dL_isLaid_13 : decode cL_isLaid 13 = .ok (.iconst 0, 1) := by decide +kernel
theorem dL_isLaid_14 : decode cL_isLaid 14 = .ok (.istore 5, 2) := by decide +kernel
theorem dL_isLaid_16 : decode cL_isLaid 16 = .ok (.iconst 0, 1) := by decide +kernel
theorem dL_isLaid_17 : decode cL_isLaid 17 = .ok (.istore 6, 2) := by decide +kernel
theorem dL_isLaid_19 : decode cL_isLaid 19 = .ok (.iconst 1, 1) := by decide +kernel
theorem dL_isLaid_20 : decode cL_isLaid 20 = .ok (.istore 7, 2) := by decide +kernel
theorem dL_isLaid_22 : decode cL_isLaid 22 = .ok (.aload_n 0, 1) := by decide +kernel
theorem dL_isLaid_23 : decode cL_isLaid 23 = .ok (.iconst 5, 1) := by decide +kernel
theorem dL_isLaid_24 : decode cL_isLaid 24 = .ok (.invokevirtual 13, 3) := by decide +kernel
theorem dL_isLaid_27 : decode cL_isLaid 27 = .ok (.iload_n 1, 1) := by decide +kernel
theorem dL_isLaid_28 : decode cL_isLaid 28 = .ok (.iconst 1, 1) := by decide +kernel
theorem dL_isLaid_29 : decode cL_isLaid 29 = .ok (.iadd, 1) := by decide +kernel
theorem dL_isLaid_30 : decode cL_isLaid 30 = .ok (.iconst 2, 1) := by decide +kernel
theorem dL_isLaid_31 : decode cL_isLaid 31 = .ok (.idiv, 1) := by decide +kernel
theorem dL_isLaid_32 : decode cL_isLaid 32 = .ok (.if_icmp .ne 52, 3) := by decide +kernel
theorem dL_isLaid_35 : decode cL_isLaid 35 = .ok (.iload_n 1, 1) := by decide +kernel
theorem dL_isLaid_36 : decode cL_isLaid 36 = .ok (.ifCond .ne 7, 3) := by decide +kernel
theorem dL_isLaid_39 : decode cL_isLaid 39 = .ok (.iconst 1, 1) := by decide +kernel
theorem dL_isLaid_40 : decode cL_isLaid 40 = .ok (.goto 4, 3) := by decide +kernel
theorem dL_isLaid_43 : decode cL_isLaid 43 = .ok (.iconst 0, 1) := by decide +kernel
theorem dL_isLaid_44 : decode cL_isLaid 44 = .ok (.aload_n 0, 1) := by decide +kernel
theorem dL_isLaid_45 : decode cL_isLaid 45 = .ok (.iconst 3, 1) := by decide +kernel
theorem dL_isLaid_46 : decode cL_isLaid 46 = .ok (.invokevirtual 13, 3) := by decide +kernel
theorem dL_isLaid_49 : decode cL_isLaid 49 = .ok (.ifCond .ne 7, 3) := by decide +kernel
theorem dL_isLaid_52 : decode cL_isLaid 52 = .ok (.iconst 1, 1) := by decide +kernel
theorem dL_isLaid_53 : decode cL_isLaid 53 = .ok (.goto 4, 3) := by decide +kernel
theorem dL_isLaid_56 : decode cL_isLaid 56 = .ok (.iconst 0, 1) := by decide +kernel
theorem dL_isLaid_57 : decode cL_isLaid 57 = .ok (.if_icmp .ne 27, 3) := by decide +kernel
theorem dL_isLaid_60 : decode cL_isLaid 60 = .ok (.aload_n 0, 1) := by decide +kernel
theorem dL_isLaid_61 : decode cL_isLaid 61 = .ok (.bipush 8, 2) := by decide +kernel
theorem dL_isLaid_63 : decode cL_isLaid 63 = .ok (.invokevirtual 13, 3) := by decide +kernel
theorem dL_isLaid_66 : decode cL_isLaid 66 = .ok (.ifCond .le 18, 3) := by decide +kernel
theorem dL_isLaid_69 : decode cL_isLaid 69 = .ok (.aload_n 0, 1) := by decide +kernel
theorem dL_isLaid_70 : decode cL_isLaid 70 = .ok (.bipush 8, 2) := by decide +kernel
theorem dL_isLaid_72 : decode cL_isLaid 72 = .ok (.invokevirtual 13, 3) := by decide +kernel
theorem dL_isLaid_75 : decode cL_isLaid 75 = .ok (.bipush 11, 2) := by decide +kernel
theorem dL_isLaid_77 : decode cL_isLaid 77 = .ok (.if_icmp .ge 7, 3) := by decide +kernel
theorem dL_isLaid_80 : decode cL_isLaid 80 = .ok (.iconst 1, 1) := by decide +kernel
theorem dL_isLaid_81 : decode cL_isLaid 81 = .ok (.goto 4, 3) := by decide +kernel
theorem dL_isLaid_84 : decode cL_isLaid 84 = .ok (.iconst 0, 1) := by decide +kernel
theorem dL_isLaid_85 : decode cL_isLaid 85 = .ok (.istore 8, 2) := by decide +kernel
theorem dL_isLaid_87 : decode cL_isLaid 87 = .ok (.iconst 0, 1) := by decide +kernel
theorem dL_isLaid_88 : decode cL_isLaid 88 = .ok (.istore 9, 2) := by decide +kernel
theorem dL_isLaid_90 : decode cL_isLaid 90 = .ok (.iload 9, 2) := by decide +kernel
theorem dL_isLaid_92 : decode cL_isLaid 92 = .ok (.iload_n 1, 1) := by decide +kernel
theorem dL_isLaid_93 : decode cL_isLaid 93 = .ok (.if_icmp .ge 430, 3) := by decide +kernel
theorem dL_isLaid_96 : decode cL_isLaid 96 = .ok (.iload 8, 2) := by decide +kernel
theorem dL_isLaid_98 : decode cL_isLaid 98 = .ok (.ifCond .eq 425, 3) := by decide +kernel
theorem dL_isLaid_101 : decode cL_isLaid 101 = .ok (.aload_n 0, 1) := by decide +kernel
theorem dL_isLaid_102 : decode cL_isLaid 102 = .ok (.iload 9, 2) := by decide +kernel
theorem dL_isLaid_104 : decode cL_isLaid 104 = .ok (.iconst 0, 1) := by decide +kernel
theorem dL_isLaid_105 : decode cL_isLaid 105 = .ok (.invokevirtual 23, 3) := by decide +kernel
theorem dL_isLaid_108 : decode cL_isLaid 108 = .ok (.istore 10, 2) := by decide +kernel
theorem dL_isLaid_110 : decode cL_isLaid 110 = .ok (.aload_n 0, 1) := by decide +kernel
theorem dL_isLaid_111 : decode cL_isLaid 111 = .ok (.iload 9, 2) := by decide +kernel
theorem dL_isLaid_113 : decode cL_isLaid 113 = .ok (.iconst 1, 1) := by decide +kernel
theorem dL_isLaid_114 : decode cL_isLaid 114 = .ok (.invokevirtual 23, 3) := by decide +kernel
theorem dL_isLaid_117 : decode cL_isLaid 117 = .ok (.istore 11, 2) := by decide +kernel
theorem dL_isLaid_119 : decode cL_isLaid 119 = .ok (.aload_n 0, 1) := by decide +kernel
theorem dL_isLaid_120 : decode cL_isLaid 120 = .ok (.iload 9, 2) := by decide +kernel
theorem dL_isLaid_122 : decode cL_isLaid 122 = .ok (.iconst 5, 1) := by decide +kernel
theorem dL_isLaid_123 : decode cL_isLaid 123 = .ok (.invokevirtual 23, 3) := by decide +kernel
theorem dL_isLaid_126 : decode cL_isLaid 126 = .ok (.istore 12, 2) := by decide +kernel
theorem dL_isLaid_128 : decode cL_isLaid 128 = .ok (.aload_n 0, 1) := by decide +kernel
theorem dL_isLaid_129 : decode cL_isLaid 129 = .ok (.iload 9, 2) := by decide +kernel
theorem dL_isLaid_131 : decode cL_isLaid 131 = .ok (.bipush 6, 2) := by decide +kernel
theorem dL_isLaid_133 : decode cL_isLaid 133 = .ok (.invokevirtual 23, 3) := by decide +kernel
theorem dL_isLaid_136 : decode cL_isLaid 136 = .ok (.istore 13, 2) := by decide +kernel
theorem dL_isLaid_138 : decode cL_isLaid 138 = .ok (.iload_n 2, 1) := by decide +kernel
theorem dL_isLaid_139 : decode cL_isLaid 139 = .ok (.aload_n 0, 1) := by decide +kernel
theorem dL_isLaid_140 : decode cL_isLaid 140 = .ok (.iload 9, 2) := by decide +kernel
theorem dL_isLaid_142 : decode cL_isLaid 142 = .ok (.iconst 3, 1) := by decide +kernel
theorem dL_isLaid_143 : decode cL_isLaid 143 = .ok (.invokevirtual 23, 3) := by decide +kernel
theorem dL_isLaid_146 : decode cL_isLaid 146 = .ok (.iadd, 1) := by decide +kernel
theorem dL_isLaid_147 : decode cL_isLaid 147 = .ok (.istore_n 2, 1) := by decide +kernel
theorem dL_isLaid_148 : decode cL_isLaid 148 = .ok (.iload_n 3, 1) := by decide +kernel
theorem dL_isLaid_149 : decode cL_isLaid 149 = .ok (.aload_n 0, 1) := by decide +kernel
theorem dL_isLaid_150 : decode cL_isLaid 150 = .ok (.iload 9, 2) := by decide +kernel
theorem dL_isLaid_152 : decode cL_isLaid 152 = .ok (.iconst 4, 1) := by decide +kernel
theorem dL_isLaid_153 : decode cL_isLaid 153 = .ok (.invokevirtual 23, 3) := by decide +kernel
theorem dL_isLaid_156 : decode cL_isLaid 156 = .ok (.iadd, 1) := by decide +kernel
theorem dL_isLaid_157 : decode cL_isLaid 157 = .ok (.istore_n 3, 1) := by decide +kernel
theorem dL_isLaid_158 : decode cL_isLaid 158 = .ok (.iload 4, 2) := by decide +kernel
theorem dL_isLaid_160 : decode cL_isLaid 160 = .ok (.aload_n 0, 1) := by decide +kernel
theorem dL_isLaid_161 : decode cL_isLaid 161 = .ok (.iload 9, 2) := by decide +kernel
theorem dL_isLaid_163 : decode cL_isLaid 163 = .ok (.iconst 2, 1) := by decide +kernel
theorem dL_isLaid_164 : decode cL_isLaid 164 = .ok (.invokevirtual 23, 3) := by decide +kernel
theorem dL_isLaid_167 : decode cL_isLaid 167 = .ok (.iadd, 1) := by decide +kernel
theorem dL_isLaid_168 : decode cL_isLaid 168 = .ok (.istore 4, 2) := by decide +kernel
theorem dL_isLaid_170 : decode cL_isLaid 170 = .ok (.iload 5, 2) := by decide +kernel
theorem dL_isLaid_172 : decode cL_isLaid 172 = .ok (.aload_n 0, 1) := by decide +kernel
theorem dL_isLaid_173 : decode cL_isLaid 173 = .ok (.iload 9, 2) := by decide +kernel
theorem dL_isLaid_175 : decode cL_isLaid 175 = .ok (.iconst 2, 1) := by decide +kernel
theorem dL_isLaid_176 : decode cL_isLaid 176 = .ok (.invokevirtual 23, 3) := by decide +kernel
theorem dL_isLaid_179 : decode cL_isLaid 179 = .ok (.ifCond .ne 7, 3) := by decide +kernel
theorem dL_isLaid_182 : decode cL_isLaid 182 = .ok (.iconst 1, 1) := by decide +kernel
theorem dL_isLaid_183 : decode cL_isLaid 183 = .ok (.goto 4, 3) := by decide +kernel
theorem dL_isLaid_186 : decode cL_isLaid 186 = .ok (.iconst 0, 1) := by decide +kernel
theorem dL_isLaid_187 : decode cL_isLaid 187 = .ok (.iadd, 1) := by decide +kernel
theorem dL_isLaid_188 : decode cL_isLaid 188 = .ok (.istore 5, 2) := by decide +kernel
theorem dL_isLaid_190 : decode cL_isLaid 190 = .ok (.iload 6, 2) := by decide +kernel
theorem dL_isLaid_192 : decode cL_isLaid 192 = .ok (.iload 12, 2) := by decide +kernel
theorem dL_isLaid_194 : decode cL_isLaid 194 = .ok (.iconst 2, 1) := by decide +kernel
theorem dL_isLaid_195 : decode cL_isLaid 195 = .ok (.if_icmp .ne 7, 3) := by decide +kernel
theorem dL_isLaid_198 : decode cL_isLaid 198 = .ok (.iconst 1, 1) := by decide +kernel
theorem dL_isLaid_199 : decode cL_isLaid 199 = .ok (.goto 4, 3) := by decide +kernel
theorem dL_isLaid_202 : decode cL_isLaid 202 = .ok (.iconst 0, 1) := by decide +kernel
theorem dL_isLaid_203 : decode cL_isLaid 203 = .ok (.iadd, 1) := by decide +kernel
theorem dL_isLaid_204 : decode cL_isLaid 204 = .ok (.istore 6, 2) := by decide +kernel
theorem dL_isLaid_206 : decode cL_isLaid 206 = .ok (.iload 13, 2) := by decide +kernel
theorem dL_isLaid_208 : decode cL_isLaid 208 = .ok (.aload_n 0, 1) := by decide +kernel
theorem dL_isLaid_209 : decode cL_isLaid 209 = .ok (.iconst 1, 1) := by decide +kernel
theorem dL_isLaid_210 : decode cL_isLaid 210 = .ok (.invokevirtual 13, 3) := by decide +kernel
theorem dL_isLaid_213 : decode cL_isLaid 213 = .ok (.if_icmp .le 7, 3) := by decide +kernel
theorem dL_isLaid_216 : decode cL_isLaid 216 = .ok (.iconst 2, 1) := by decide +kernel
theorem dL_isLaid_217 : decode cL_isLaid 217 = .ok (.goto 4, 3) := by decide +kernel
theorem dL_isLaid_220 : decode cL_isLaid 220 = .ok (.iconst 1, 1) := by decide +kernel
theorem dL_isLaid_221 : decode cL_isLaid 221 = .ok (.iload 12, 2) := by decide +kernel
theorem dL_isLaid_223 : decode cL_isLaid 223 = .ok (.if_icmp .ne 8, 3) := by decide +kernel
theorem dL_isLaid_226 : decode cL_isLaid 226 = .ok (.iload 7, 2) := by decide +kernel
theorem dL_isLaid_228 : decode cL_isLaid 228 = .ok (.goto 4, 3) := by decide +kernel
theorem dL_isLaid_231 : decode cL_isLaid 231 = .ok (.iconst 0, 1) := by decide +kernel
theorem dL_isLaid_232 : decode cL_isLaid 232 = .ok (.istore 7, 2) := by decide +kernel
theorem dL_isLaid_234 : decode cL_isLaid 234 = .ok (.iload 10, 2) := by decide +kernel
theorem dL_isLaid_236 : decode cL_isLaid 236 = .ok (.iload 11, 2) := by decide +kernel
theorem dL_isLaid_238 : decode cL_isLaid 238 = .ok (.if_icmp .gt 181, 3) := by decide +kernel
theorem dL_isLaid_241 : decode cL_isLaid 241 = .ok (.iload 10, 2) := by decide +kernel
theorem dL_isLaid_243 : decode cL_isLaid 243 = .ok (.ifCond .lt 176, 3) := by decide +kernel
theorem dL_isLaid_246 : decode cL_isLaid 246 = .ok (.iload 12, 2) := by decide +kernel
theorem dL_isLaid_248 : decode cL_isLaid 248 = .ok (.ifCond .le 171, 3) := by decide +kernel
theorem dL_isLaid_251 : decode cL_isLaid 251 = .ok (.iload 12, 2) := by decide +kernel
theorem dL_isLaid_253 : decode cL_isLaid 253 = .ok (.iconst 3, 1) := by decide +kernel
theorem dL_isLaid_254 : decode cL_isLaid 254 = .ok (.if_icmp .ge 165, 3) := by decide +kernel
theorem dL_isLaid_257 : decode cL_isLaid 257 = .ok (.aload_n 0, 1) := by decide +kernel
theorem dL_isLaid_258 : decode cL_isLaid 258 = .ok (.iload 9, 2) := by decide +kernel
theorem dL_isLaid_260 : decode cL_isLaid 260 = .ok (.iconst 3, 1) := by decide +kernel
theorem dL_isLaid_261 : decode cL_isLaid 261 = .ok (.invokevirtual 23, 3) := by decide +kernel
theorem dL_isLaid_264 : decode cL_isLaid 264 = .ok (.ifCond .le 155, 3) := by decide +kernel
theorem dL_isLaid_267 : decode cL_isLaid 267 = .ok (.aload_n 0, 1) := by decide +kernel
theorem dL_isLaid_268 : decode cL_isLaid 268 = .ok (.iload 9, 2) := by decide +kernel
theorem dL_isLaid_270 : decode cL_isLaid 270 = .ok (.iconst 4, 1) := by decide +kernel
theorem dL_isLaid_271 : decode cL_isLaid 271 = .ok (.invokevirtual 23, 3) := by decide +kernel
theorem dL_isLaid_274 : decode cL_isLaid 274 = .ok (.ifCond .lt 145, 3) := by decide +kernel
theorem dL_isLaid_277 : decode cL_isLaid 277 = .ok (.aload_n 0, 1) := by decide +kernel
theorem dL_isLaid_278 : decode cL_isLaid 278 = .ok (.iload 9, 2) := by decide +kernel
theorem dL_isLaid_280 : decode cL_isLaid 280 = .ok (.iconst 3, 1) := by decide +kernel
theorem dL_isLaid_281 : decode cL_isLaid 281 = .ok (.invokevirtual 23, 3) := by decide +kernel
theorem dL_isLaid_284 : decode cL_isLaid 284 = .ok (.aload_n 0, 1) := by decide +kernel
theorem dL_isLaid_285 : decode cL_isLaid 285 = .ok (.iload 9, 2) := by decide +kernel
theorem dL_isLaid_287 : decode cL_isLaid 287 = .ok (.iconst 4, 1) := by decide +kernel
theorem dL_isLaid_288 : decode cL_isLaid 288 = .ok (.invokevirtual 23, 3) := by decide +kernel
theorem dL_isLaid_291 : decode cL_isLaid 291 = .ok (.iadd, 1) := by decide +kernel
theorem dL_isLaid_292 : decode cL_isLaid 292 = .ok (.iload 12, 2) := by decide +kernel
theorem dL_isLaid_294 : decode cL_isLaid 294 = .ok (.iadd, 1) := by decide +kernel
theorem dL_isLaid_295 : decode cL_isLaid 295 = .ok (.aload_n 0, 1) := by decide +kernel
theorem dL_isLaid_296 : decode cL_isLaid 296 = .ok (.iconst 0, 1) := by decide +kernel
theorem dL_isLaid_297 : decode cL_isLaid 297 = .ok (.invokevirtual 13, 3) := by decide +kernel
theorem dL_isLaid_300 : decode cL_isLaid 300 = .ok (.if_icmp .ne 119, 3) := by decide +kernel
theorem dL_isLaid_303 : decode cL_isLaid 303 = .ok (.iload 13, 2) := by decide +kernel
theorem dL_isLaid_305 : decode cL_isLaid 305 = .ok (.aload_n 0, 1) := by decide +kernel
theorem dL_isLaid_306 : decode cL_isLaid 306 = .ok (.iload 10, 2) := by decide +kernel
theorem dL_isLaid_308 : decode cL_isLaid 308 = .ok (.iconst 5, 1) := by decide +kernel
theorem dL_isLaid_309 : decode cL_isLaid 309 = .ok (.invokevirtual 19, 3) := by decide +kernel
theorem dL_isLaid_312 : decode cL_isLaid 312 = .ok (.iload 10, 2) := by decide +kernel
theorem dL_isLaid_314 : decode cL_isLaid 314 = .ok (.iload 11, 2) := by decide +kernel
theorem dL_isLaid_316 : decode cL_isLaid 316 = .ok (.if_icmp .ne 7, 3) := by decide +kernel
theorem dL_isLaid_319 : decode cL_isLaid 319 = .ok (.iconst 0, 1) := by decide +kernel
theorem dL_isLaid_320 : decode cL_isLaid 320 = .ok (.goto 12, 3) := by decide +kernel
theorem dL_isLaid_323 : decode cL_isLaid 323 = .ok (.iconst 1, 1) := by decide +kernel
theorem dL_isLaid_324 : decode cL_isLaid 324 = .ok (.aload_n 0, 1) := by decide +kernel
theorem dL_isLaid_325 : decode cL_isLaid 325 = .ok (.iload 11, 2) := by decide +kernel
theorem dL_isLaid_327 : decode cL_isLaid 327 = .ok (.iconst 5, 1) := by decide +kernel
theorem dL_isLaid_328 : decode cL_isLaid 328 = .ok (.invokevirtual 19, 3) := by decide +kernel
theorem dL_isLaid_331 : decode cL_isLaid 331 = .ok (.iadd, 1) := by decide +kernel
theorem dL_isLaid_332 : decode cL_isLaid 332 = .ok (.iadd, 1) := by decide +kernel
theorem dL_isLaid_333 : decode cL_isLaid 333 = .ok (.if_icmp .ne 86, 3) := by decide +kernel
theorem dL_isLaid_336 : decode cL_isLaid 336 = .ok (.aload_n 0, 1) := by decide +kernel
theorem dL_isLaid_337 : decode cL_isLaid 337 = .ok (.iload 9, 2) := by decide +kernel
theorem dL_isLaid_339 : decode cL_isLaid 339 = .ok (.bipush 7, 2) := by decide +kernel
theorem dL_isLaid_341 : decode cL_isLaid 341 = .ok (.invokevirtual 23, 3) := by decide +kernel
theorem dL_isLaid_344 : decode cL_isLaid 344 = .ok (.aload_n 0, 1) := by decide +kernel
theorem dL_isLaid_345 : decode cL_isLaid 345 = .ok (.iload 10, 2) := by decide +kernel
theorem dL_isLaid_347 : decode cL_isLaid 347 = .ok (.bipush 6, 2) := by decide +kernel
theorem dL_isLaid_349 : decode cL_isLaid 349 = .ok (.invokevirtual 19, 3) := by decide +kernel
theorem dL_isLaid_352 : decode cL_isLaid 352 = .ok (.if_icmp .ne 67, 3) := by decide +kernel
theorem dL_isLaid_355 : decode cL_isLaid 355 = .ok (.aload_n 0, 1) := by decide +kernel
theorem dL_isLaid_356 : decode cL_isLaid 356 = .ok (.iload 9, 2) := by decide +kernel
theorem dL_isLaid_358 : decode cL_isLaid 358 = .ok (.bipush 6, 2) := by decide +kernel
theorem dL_isLaid_360 : decode cL_isLaid 360 = .ok (.iload 13, 2) := by decide +kernel
theorem dL_isLaid_362 : decode cL_isLaid 362 = .ok (.iadd, 1) := by decide +kernel
theorem dL_isLaid_363 : decode cL_isLaid 363 = .ok (.invokevirtual 23, 3) := by decide +kernel
theorem dL_isLaid_366 : decode cL_isLaid 366 = .ok (.aload_n 0, 1) := by decide +kernel
theorem dL_isLaid_367 : decode cL_isLaid 367 = .ok (.iload 11, 2) := by decide +kernel
theorem dL_isLaid_369 : decode cL_isLaid 369 = .ok (.iconst 5, 1) := by decide +kernel
theorem dL_isLaid_370 : decode cL_isLaid 370 = .ok (.aload_n 0, 1) := by decide +kernel
theorem dL_isLaid_371 : decode cL_isLaid 371 = .ok (.iload 11, 2) := by decide +kernel
theorem dL_isLaid_373 : decode cL_isLaid 373 = .ok (.iconst 5, 1) := by decide +kernel
theorem dL_isLaid_374 : decode cL_isLaid 374 = .ok (.invokevirtual 19, 3) := by decide +kernel
theorem dL_isLaid_377 : decode cL_isLaid 377 = .ok (.iadd, 1) := by decide +kernel
theorem dL_isLaid_378 : decode cL_isLaid 378 = .ok (.invokevirtual 19, 3) := by decide +kernel
theorem dL_isLaid_381 : decode cL_isLaid 381 = .ok (.if_icmp .ne 38, 3) := by decide +kernel
theorem dL_isLaid_384 : decode cL_isLaid 384 = .ok (.aload_n 0, 1) := by decide +kernel
theorem dL_isLaid_385 : decode cL_isLaid 385 = .ok (.iload 9, 2) := by decide +kernel
theorem dL_isLaid_387 : decode cL_isLaid 387 = .ok (.bipush 7, 2) := by decide +kernel
theorem dL_isLaid_389 : decode cL_isLaid 389 = .ok (.iload 13, 2) := by decide +kernel
theorem dL_isLaid_391 : decode cL_isLaid 391 = .ok (.iadd, 1) := by decide +kernel
theorem dL_isLaid_392 : decode cL_isLaid 392 = .ok (.invokevirtual 23, 3) := by decide +kernel
theorem dL_isLaid_395 : decode cL_isLaid 395 = .ok (.bipush (-6), 2) := by decide +kernel
theorem dL_isLaid_397 : decode cL_isLaid 397 = .ok (.if_icmp .ne 22, 3) := by decide +kernel
theorem dL_isLaid_400 : decode cL_isLaid 400 = .ok (.aload_n 0, 1) := by decide +kernel
theorem dL_isLaid_401 : decode cL_isLaid 401 = .ok (.iload 9, 2) := by decide +kernel
theorem dL_isLaid_403 : decode cL_isLaid 403 = .ok (.iconst 2, 1) := by decide +kernel
theorem dL_isLaid_404 : decode cL_isLaid 404 = .ok (.invokevirtual 23, 3) := by decide +kernel
theorem dL_isLaid_407 : decode cL_isLaid 407 = .ok (.iload 11, 2) := by decide +kernel
theorem dL_isLaid_409 : decode cL_isLaid 409 = .ok (.iload 10, 2) := by decide +kernel
theorem dL_isLaid_411 : decode cL_isLaid 411 = .ok (.isub, 1) := by decide +kernel
theorem dL_isLaid_412 : decode cL_isLaid 412 = .ok (.if_icmp .lt 7, 3) := by decide +kernel
theorem dL_isLaid_415 : decode cL_isLaid 415 = .ok (.iconst 1, 1) := by decide +kernel
theorem dL_isLaid_416 : decode cL_isLaid 416 = .ok (.goto 4, 3) := by decide +kernel
theorem dL_isLaid_419 : decode cL_isLaid 419 = .ok (.iconst 0, 1) := by decide +kernel
theorem dL_isLaid_420 : decode cL_isLaid 420 = .ok (.istore 8, 2) := by decide +kernel
theorem dL_isLaid_422 : decode cL_isLaid 422 = .ok (.iload 8, 2) := by decide +kernel
theorem dL_isLaid_424 : decode cL_isLaid 424 = .ok (.ifCond .eq 90, 3) := by decide +kernel
theorem dL_isLaid_427 : decode cL_isLaid 427 = .ok (.aload_n 0, 1) := by decide +kernel
theorem dL_isLaid_428 : decode cL_isLaid 428 = .ok (.iload 10, 2) := by decide +kernel
theorem dL_isLaid_430 : decode cL_isLaid 430 = .ok (.iconst 1, 1) := by decide +kernel
theorem dL_isLaid_431 : decode cL_isLaid 431 = .ok (.invokevirtual 19, 3) := by decide +kernel
theorem dL_isLaid_434 : decode cL_isLaid 434 = .ok (.iload 9, 2) := by decide +kernel
theorem dL_isLaid_436 : decode cL_isLaid 436 = .ok (.if_icmp .gt 78, 3) := by decide +kernel
theorem dL_isLaid_439 : decode cL_isLaid 439 = .ok (.aload_n 0, 1) := by decide +kernel
theorem dL_isLaid_440 : decode cL_isLaid 440 = .ok (.iload 10, 2) := by decide +kernel
theorem dL_isLaid_442 : decode cL_isLaid 442 = .ok (.iconst 3, 1) := by decide +kernel
theorem dL_isLaid_443 : decode cL_isLaid 443 = .ok (.invokevirtual 19, 3) := by decide +kernel
theorem dL_isLaid_446 : decode cL_isLaid 446 = .ok (.iload 9, 2) := by decide +kernel
theorem dL_isLaid_448 : decode cL_isLaid 448 = .ok (.if_icmp .lt 66, 3) := by decide +kernel
theorem dL_isLaid_451 : decode cL_isLaid 451 = .ok (.aload_n 0, 1) := by decide +kernel
theorem dL_isLaid_452 : decode cL_isLaid 452 = .ok (.iload 11, 2) := by decide +kernel
theorem dL_isLaid_454 : decode cL_isLaid 454 = .ok (.iconst 1, 1) := by decide +kernel
theorem dL_isLaid_455 : decode cL_isLaid 455 = .ok (.invokevirtual 19, 3) := by decide +kernel
theorem dL_isLaid_458 : decode cL_isLaid 458 = .ok (.iload 9, 2) := by decide +kernel
theorem dL_isLaid_460 : decode cL_isLaid 460 = .ok (.if_icmp .gt 54, 3) := by decide +kernel
theorem dL_isLaid_463 : decode cL_isLaid 463 = .ok (.aload_n 0, 1) := by decide +kernel
theorem dL_isLaid_464 : decode cL_isLaid 464 = .ok (.iload 11, 2) := by decide +kernel
theorem dL_isLaid_466 : decode cL_isLaid 466 = .ok (.iconst 3, 1) := by decide +kernel
theorem dL_isLaid_467 : decode cL_isLaid 467 = .ok (.invokevirtual 19, 3) := by decide +kernel
theorem dL_isLaid_470 : decode cL_isLaid 470 = .ok (.iload 9, 2) := by decide +kernel
theorem dL_isLaid_472 : decode cL_isLaid 472 = .ok (.if_icmp .lt 42, 3) := by decide +kernel
theorem dL_isLaid_475 : decode cL_isLaid 475 = .ok (.iload 9, 2) := by decide +kernel
theorem dL_isLaid_477 : decode cL_isLaid 477 = .ok (.ifCond .eq 33, 3) := by decide +kernel
theorem dL_isLaid_480 : decode cL_isLaid 480 = .ok (.iload 10, 2) := by decide +kernel
theorem dL_isLaid_482 : decode cL_isLaid 482 = .ok (.aload_n 0, 1) := by decide +kernel
theorem dL_isLaid_483 : decode cL_isLaid 483 = .ok (.iload 9, 2) := by decide +kernel
theorem dL_isLaid_485 : decode cL_isLaid 485 = .ok (.iconst 1, 1) := by decide +kernel
theorem dL_isLaid_486 : decode cL_isLaid 486 = .ok (.isub, 1) := by decide +kernel
theorem dL_isLaid_487 : decode cL_isLaid 487 = .ok (.iconst 1, 1) := by decide +kernel
theorem dL_isLaid_488 : decode cL_isLaid 488 = .ok (.invokevirtual 23, 3) := by decide +kernel
theorem dL_isLaid_491 : decode cL_isLaid 491 = .ok (.if_icmp .eq 19, 3) := by decide +kernel
theorem dL_isLaid_494 : decode cL_isLaid 494 = .ok (.iload 10, 2) := by decide +kernel
theorem dL_isLaid_496 : decode cL_isLaid 496 = .ok (.aload_n 0, 1) := by decide +kernel
theorem dL_isLaid_497 : decode cL_isLaid 497 = .ok (.iload 9, 2) := by decide +kernel
theorem dL_isLaid_499 : decode cL_isLaid 499 = .ok (.iconst 1, 1) := by decide +kernel
theorem dL_isLaid_500 : decode cL_isLaid 500 = .ok (.isub, 1) := by decide +kernel
theorem dL_isLaid_501 : decode cL_isLaid 501 = .ok (.iconst 1, 1) := by decide +kernel
theorem dL_isLaid_502 : decode cL_isLaid 502 = .ok (.invokevirtual 23, 3) := by decide +kernel
theorem dL_isLaid_505 : decode cL_isLaid 505 = .ok (.iconst 1, 1) := by decide +kernel
theorem dL_isLaid_506 : decode cL_isLaid 506 = .ok (.iadd, 1) := by decide +kernel
theorem dL_isLaid_507 : decode cL_isLaid 507 = .ok (.if_icmp .ne 7, 3) := by decide +kernel
theorem dL_isLaid_510 : decode cL_isLaid 510 = .ok (.iconst 1, 1) := by decide +kernel
theorem dL_isLaid_511 : decode cL_isLaid 511 = .ok (.goto 4, 3) := by decide +kernel
theorem dL_isLaid_514 : decode cL_isLaid 514 = .ok (.iconst 0, 1) := by decide +kernel
theorem dL_isLaid_515 : decode cL_isLaid 515 = .ok (.istore 8, 2) := by decide +kernel
theorem dL_isLaid_517 : decode cL_isLaid 517 = .ok (.iinc 9 1, 3) := by decide +kernel
theorem dL_isLaid_520 : decode cL_isLaid 520 = .ok (.goto (-430), 3) := by decide +kernel
theorem dL_isLaid_523 : decode cL_isLaid 523 = .ok (.iload 8, 2) := by decide +kernel
theorem dL_isLaid_525 : decode cL_isLaid 525 = .ok (.ifCond .eq 87, 3) := by decide +kernel
theorem dL_isLaid_528 : decode cL_isLaid 528 = .ok (.iload_n 2, 1) := by decide +kernel
theorem dL_isLaid_529 : decode cL_isLaid 529 = .ok (.aload_n 0, 1) := by decide +kernel
theorem dL_isLaid_530 : decode cL_isLaid 530 = .ok (.bipush 6, 2) := by decide +kernel
theorem dL_isLaid_532 : decode cL_isLaid 532 = .ok (.invokevirtual 13, 3) := by decide +kernel
theorem dL_isLaid_535 : decode cL_isLaid 535 = .ok (.if_icmp .ne 77, 3) := by decide +kernel
theorem dL_isLaid_538 : decode cL_isLaid 538 = .ok (.iload_n 3, 1) := by decide +kernel
theorem dL_isLaid_539 : decode cL_isLaid 539 = .ok (.aload_n 0, 1) := by decide +kernel
theorem dL_isLaid_540 : decode cL_isLaid 540 = .ok (.bipush 7, 2) := by decide +kernel
theorem dL_isLaid_542 : decode cL_isLaid 542 = .ok (.invokevirtual 13, 3) := by decide +kernel
theorem dL_isLaid_545 : decode cL_isLaid 545 = .ok (.if_icmp .ne 67, 3) := by decide +kernel
theorem dL_isLaid_548 : decode cL_isLaid 548 = .ok (.iload 4, 2) := by decide +kernel
theorem dL_isLaid_550 : decode cL_isLaid 550 = .ok (.aload_n 0, 1) := by decide +kernel
theorem dL_isLaid_551 : decode cL_isLaid 551 = .ok (.iconst 3, 1) := by decide +kernel
theorem dL_isLaid_552 : decode cL_isLaid 552 = .ok (.invokevirtual 13, 3) := by decide +kernel
theorem dL_isLaid_555 : decode cL_isLaid 555 = .ok (.if_icmp .ne 57, 3) := by decide +kernel
theorem dL_isLaid_558 : decode cL_isLaid 558 = .ok (.iload 5, 2) := by decide +kernel
theorem dL_isLaid_560 : decode cL_isLaid 560 = .ok (.aload_n 0, 1) := by decide +kernel
theorem dL_isLaid_561 : decode cL_isLaid 561 = .ok (.bipush 10, 2) := by decide +kernel
theorem dL_isLaid_563 : decode cL_isLaid 563 = .ok (.invokevirtual 13, 3) := by decide +kernel
theorem dL_isLaid_566 : decode cL_isLaid 566 = .ok (.if_icmp .ne 46, 3) := by decide +kernel
theorem dL_isLaid_569 : decode cL_isLaid 569 = .ok (.iload 6, 2) := by decide +kernel
theorem dL_isLaid_571 : decode cL_isLaid 571 = .ok (.aload_n 0, 1) := by decide +kernel
theorem dL_isLaid_572 : decode cL_isLaid 572 = .ok (.bipush 12, 2) := by decide +kernel
theorem dL_isLaid_574 : decode cL_isLaid 574 = .ok (.invokevirtual 13, 3) := by decide +kernel
theorem dL_isLaid_577 : decode cL_isLaid 577 = .ok (.if_icmp .ne 35, 3) := by decide +kernel
theorem dL_isLaid_580 : decode cL_isLaid 580 = .ok (.iload 7, 2) := by decide +kernel
theorem dL_isLaid_582 : decode cL_isLaid 582 = .ok (.aload_n 0, 1) := by decide +kernel
theorem dL_isLaid_583 : decode cL_isLaid 583 = .ok (.bipush 9, 2) := by decide +kernel
theorem dL_isLaid_585 : decode cL_isLaid 585 = .ok (.invokevirtual 13, 3) := by decide +kernel
theorem dL_isLaid_588 : decode cL_isLaid 588 = .ok (.if_icmp .ne 24, 3) := by decide +kernel
theorem dL_isLaid_591 : decode cL_isLaid 591 = .ok (.iload 7, 2) := by decide +kernel
theorem dL_isLaid_593 : decode cL_isLaid 593 = .ok (.iconst 1, 1) := by decide +kernel
theorem dL_isLaid_594 : decode cL_isLaid 594 = .ok (.if_icmp .eq 14, 3) := by decide +kernel
theorem dL_isLaid_597 : decode cL_isLaid 597 = .ok (.aload_n 0, 1) := by decide +kernel
theorem dL_isLaid_598 : decode cL_isLaid 598 = .ok (.bipush 8, 2) := by decide +kernel
theorem dL_isLaid_600 : decode cL_isLaid 600 = .ok (.invokevirtual 13, 3) := by decide +kernel
theorem dL_isLaid_603 : decode cL_isLaid 603 = .ok (.bipush 10, 2) := by decide +kernel
theorem dL_isLaid_605 : decode cL_isLaid 605 = .ok (.if_icmp .ne 7, 3) := by decide +kernel
theorem dL_isLaid_608 : decode cL_isLaid 608 = .ok (.iconst 1, 1) := by decide +kernel
theorem dL_isLaid_609 : decode cL_isLaid 609 = .ok (.goto 4, 3) := by decide +kernel
theorem dL_isLaid_612 : decode cL_isLaid 612 = .ok (.iconst 0, 1) := by decide +kernel
theorem dL_isLaid_613 : decode cL_isLaid 613 = .ok (.ireturn, 1) := by decide +kernel
set_option maxRecDepth 20000 in
theorem ggL_isKept_X5_entry : GoodIn wsL_isKept wsX5_entry := goodIn_r _ [5, 6, 7, 8, 9, 10, 11, 12, 13, 14, 15, 16, 17, 18, 19, 20, 21, 22, 23, 24, 25, 26, 27, 28, 29, 30, 31, 32, 33, 34, 35, 36, 37, 38, 39, 40, 41, 42, 43, 44, 4, 45, 125, 126, 127, 128, 129, 130, 131, 132, 133, 134, 135, 136, 137, 138, 139, 140, 141, 142, 143, 144, 145, 146, 147, 148, 149, 150, 151] (by decide +kernel) (by decide +kernel)
set_option maxRecDepth 20000 in
theorem gL_isKept_X5_entry : GoodIn wsL_isKept (wsV RL 19 RX5 yX5_entry wsX5_entry) := goodIn_app (goodIn_of _ (by decide +kernel)) ggL_isKept_X5_entry
set_option maxRecDepth 20000 in
theorem ggL_isKept_X5_count : GoodIn wsL_isKept wsX5_count := goodIn_r _ [49, 6, 50, 51, 52, 53, 54, 55, 56, 57, 58, 15, 59, 17, 60, 61, 62, 63, 4, 64, 8, 65, 66, 67, 68, 69, 70, 21, 71, 72, 73, 74, 75, 76, 77, 78, 79, 80, 81, 82, 83, 84, 85, 86, 87, 88, 89, 90, 91, 92, 93, 19, 20, 22, 23, 24, 94, 95, 96, 97, 125, 126, 127, 128, 129, 130, 131, 132, 133, 134, 135, 136, 152, 153, 154, 155, 137, 138, 139, 140, 141, 142, 143, 144, 145, 146, 147, 148, 149, 150, 151] (by decide +kernel) (by decide +kernel)
set_option maxRecDepth 20000 in
theorem gL_isKept_X5_count : GoodIn wsL_isKept (wsV RL 13 RX5 yX5_count wsX5_count) := goodIn_app (goodIn_of _ (by decide +kernel)) ggL_isKept_X5_count
set_option maxRecDepth 20000 in
theorem ggL_isKept_X5_page : GoodIn wsL_isKept wsX5_page := goodIn_r _ [101, 8, 102, 103, 104, 105, 106, 6, 107, 108, 109, 21, 110, 72, 111, 78, 79, 80, 81, 82, 83, 112, 113, 114, 115, 116, 117, 118, 26, 27, 15, 28, 29, 30, 13, 14, 16, 17, 119, 32, 33, 34, 35, 120, 121, 122, 123, 124, 37, 38, 39, 40, 41, 42, 43, 44, 4, 45, 125, 126, 127, 128, 129, 130, 131, 132, 137, 138, 139, 140, 141, 142, 143, 144, 145, 146, 147, 148, 149, 150, 151, 133, 134, 135, 136] (by decide +kernel) (by decide +kernel)
set_option maxRecDepth 20000 in
theorem gL_isKept_X5_page : GoodIn wsL_isKept (wsV RL 23 RX5 yX5_page wsX5_page) := goodIn_app (goodIn_of _ (by decide +kernel)) ggL_isKept_X5_page
theorem dL_isKept_0 : decode cL_isKept 0 = .ok (.aload_n 0, 1) := by decide +kernel
theorem dL_isKept_1 : decode cL_isKept 1 = .ok (.iload_n 1, 1) := by decide +kernel
theorem dL_isKept_2 : decode cL_isKept 2 = .ok (.iconst 0, 1) := by decide +kernel
theorem dL_isKept_3 : decode cL_isKept 3 = .ok (.invokevirtual 19, 3) := by decide +kernel
theorem dL_isKept_6 : decode cL_isKept 6 = .ok (.istore_n 2, 1) := by decide +kernel
theorem dL_isKept_7 : decode cL_isKept 7 = .ok (.aload_n 0, 1) := by decide +kernel
theorem dL_isKept_8 : decode cL_isKept 8 = .ok (.iconst 2, 1) := by decide +kernel
theorem dL_isKept_9 : decode cL_isKept 9 = .ok (.invokevirtual 13, 3) := by decide +kernel
theorem dL_isKept_12 : decode cL_isKept 12 = .ok (.istore_n 3, 1) := by decide +kernel
theorem dL_isKept_13 : decode cL_isKept 13 = .ok (.aload_n 0, 1) := by decide +kernel
theorem dL_isKept_14 : decode cL_isKept 14 = .ok (.iload_n 1, 1) := by decide +kernel
theorem dL_isKept_15 : decode cL_isKept 15 = .ok (.iconst 1, 1) := by decide +kernel
theorem dL_isKept_16 : decode cL_isKept 16 = .ok (.invokevirtual 19, 3) := by decide +kernel
theorem dL_isKept_19 : decode cL_isKept 19 = .ok (.istore 4, 2) := by decide +kernel
theorem dL_isKept_21 : decode cL_isKept 21 = .ok (.aload_n 0, 1) := by decide +kernel
theorem dL_isKept_22 : decode cL_isKept 22 = .ok (.iload_n 1, 1) := by decide +kernel
theorem dL_isKept_23 : decode cL_isKept 23 = .ok (.iconst 3, 1) := by decide +kernel
theorem dL_isKept_24 : decode cL_isKept 24 = .ok (.invokevirtual 19, 3) := by decide +kernel
theorem dL_isKept_27 : decode cL_isKept 27 = .ok (.istore 5, 2) := by decide +kernel
theorem dL_isKept_29 : decode cL_isKept 29 = .ok (.aload_n 0, 1) := by decide +kernel
theorem dL_isKept_30 : decode cL_isKept 30 = .ok (.iload_n 1, 1) := by decide +kernel
theorem dL_isKept_31 : decode cL_isKept 31 = .ok (.iconst 2, 1) := by decide +kernel
theorem dL_isKept_32 : decode cL_isKept 32 = .ok (.invokevirtual 19, 3) := by decide +kernel
theorem dL_isKept_35 : decode cL_isKept 35 = .ok (.istore 6, 2) := by decide +kernel
theorem dL_isKept_37 : decode cL_isKept 37 = .ok (.aload_n 0, 1) := by decide +kernel
theorem dL_isKept_38 : decode cL_isKept 38 = .ok (.iload 4, 2) := by decide +kernel
theorem dL_isKept_40 : decode cL_isKept 40 = .ok (.iconst 3, 1) := by decide +kernel
theorem dL_isKept_41 : decode cL_isKept 41 = .ok (.invokevirtual 23, 3) := by decide +kernel
theorem dL_isKept_44 : decode cL_isKept 44 = .ok (.iload 6, 2) := by decide +kernel
theorem dL_isKept_46 : decode cL_isKept 46 = .ok (.isub, 1) := by decide +kernel
theorem dL_isKept_47 : decode cL_isKept 47 = .ok (.istore 7, 2) := by decide +kernel
theorem dL_isKept_49 : decode cL_isKept 49 = .ok (.iload 6, 2) := by decide +kernel
theorem dL_isKept_51 : decode cL_isKept 51 = .ok (.ifCond .lt 35, 3) := by decide +kernel
theorem dL_isKept_54 : decode cL_isKept 54 = .ok (.iload 6, 2) := by decide +kernel
theorem dL_isKept_56 : decode cL_isKept 56 = .ok (.aload_n 0, 1) := by decide +kernel
theorem dL_isKept_57 : decode cL_isKept 57 = .ok (.iload 4, 2) := by decide +kernel
theorem dL_isKept_59 : decode cL_isKept 59 = .ok (.iconst 3, 1) := by decide +kernel
theorem dL_isKept_60 : decode cL_isKept 60 = .ok (.invokevirtual 23, 3) := by decide +kernel
theorem dL_isKept_63 : decode cL_isKept 63 = .ok (.if_icmp .ge 23, 3) := by decide +kernel
theorem dL_isKept_66 : decode cL_isKept 66 = .ok (.aload_n 0, 1) := by decide +kernel
theorem dL_isKept_67 : decode cL_isKept 67 = .ok (.iload_n 1, 1) := by decide +kernel
theorem dL_isKept_68 : decode cL_isKept 68 = .ok (.iconst 4, 1) := by decide +kernel
theorem dL_isKept_69 : decode cL_isKept 69 = .ok (.invokevirtual 19, 3) := by decide +kernel
theorem dL_isKept_72 : decode cL_isKept 72 = .ok (.iload 5, 2) := by decide +kernel
theorem dL_isKept_74 : decode cL_isKept 74 = .ok (.iload 4, 2) := by decide +kernel
theorem dL_isKept_76 : decode cL_isKept 76 = .ok (.isub, 1) := by decide +kernel
theorem dL_isKept_77 : decode cL_isKept 77 = .ok (.iconst 1, 1) := by decide +kernel
theorem dL_isKept_78 : decode cL_isKept 78 = .ok (.iadd, 1) := by decide +kernel
theorem dL_isKept_79 : decode cL_isKept 79 = .ok (.if_icmp .ne 7, 3) := by decide +kernel
theorem dL_isKept_82 : decode cL_isKept 82 = .ok (.iconst 1, 1) := by decide +kernel
theorem dL_isKept_83 : decode cL_isKept 83 = .ok (.goto 4, 3) := by decide +kernel
theorem dL_isKept_86 : decode cL_isKept 86 = .ok (.iconst 0, 1) := by decide +kernel
theorem dL_isKept_87 : decode cL_isKept 87 = .ok (.istore 8, 2) := by decide +kernel
theorem dL_isKept_89 : decode cL_isKept 89 = .ok (.iload 5, 2) := by decide +kernel
theorem dL_isKept_91 : decode cL_isKept 91 = .ok (.iload 4, 2) := by decide +kernel
theorem dL_isKept_93 : decode cL_isKept 93 = .ok (.if_icmp .ne 20, 3) := by decide +kernel
theorem dL_isKept_96 : decode cL_isKept 96 = .ok (.iload 8, 2) := by decide +kernel
theorem dL_isKept_98 : decode cL_isKept 98 = .ok (.ifCond .eq 13, 3) := by decide +kernel
theorem dL_isKept_101 : decode cL_isKept 101 = .ok (.iload_n 2, 1) := by decide +kernel
theorem dL_isKept_102 : decode cL_isKept 102 = .ok (.iload 7, 2) := by decide +kernel
theorem dL_isKept_104 : decode cL_isKept 104 = .ok (.if_icmp .gt 7, 3) := by decide +kernel
theorem dL_isKept_107 : decode cL_isKept 107 = .ok (.iconst 1, 1) := by decide +kernel
theorem dL_isKept_108 : decode cL_isKept 108 = .ok (.goto 4, 3) := by decide +kernel
theorem dL_isKept_111 : decode cL_isKept 111 = .ok (.iconst 0, 1) := by decide +kernel
theorem dL_isKept_112 : decode cL_isKept 112 = .ok (.ireturn, 1) := by decide +kernel
theorem dL_isKept_113 : decode cL_isKept 113 = .ok (.iload 8, 2) := by decide +kernel
theorem dL_isKept_115 : decode cL_isKept 115 = .ok (.ifCond .eq 77, 3) := by decide +kernel
theorem dL_isKept_118 : decode cL_isKept 118 = .ok (.aload_n 0, 1) := by decide +kernel
theorem dL_isKept_119 : decode cL_isKept 119 = .ok (.iload 4, 2) := by decide +kernel
theorem dL_isKept_121 : decode cL_isKept 121 = .ok (.iconst 1, 1) := by decide +kernel
theorem dL_isKept_122 : decode cL_isKept 122 = .ok (.invokevirtual 23, 3) := by decide +kernel
theorem dL_isKept_125 : decode cL_isKept 125 = .ok (.iload_n 1, 1) := by decide +kernel
theorem dL_isKept_126 : decode cL_isKept 126 = .ok (.if_icmp .ne 66, 3) := by decide +kernel
theorem dL_isKept_129 : decode cL_isKept 129 = .ok (.iload 7, 2) := by decide +kernel
theorem dL_isKept_131 : decode cL_isKept 131 = .ok (.iload_n 2, 1) := by decide +kernel
theorem dL_isKept_132 : decode cL_isKept 132 = .ok (.if_icmp .ge 60, 3) := by decide +kernel
theorem dL_isKept_135 : decode cL_isKept 135 = .ok (.iload 7, 2) := by decide +kernel
theorem dL_isKept_137 : decode cL_isKept 137 = .ok (.iload_n 3, 1) := by decide +kernel
theorem dL_isKept_138 : decode cL_isKept 138 = .ok (.if_icmp .ge 8, 3) := by decide +kernel
theorem dL_isKept_141 : decode cL_isKept 141 = .ok (.iload 6, 2) := by decide +kernel
theorem dL_isKept_143 : decode cL_isKept 143 = .ok (.ifCond .ne 49, 3) := by decide +kernel
theorem dL_isKept_146 : decode cL_isKept 146 = .ok (.iload_n 2, 1) := by decide +kernel
theorem dL_isKept_147 : decode cL_isKept 147 = .ok (.iconst 2, 1) := by decide +kernel
theorem dL_isKept_148 : decode cL_isKept 148 = .ok (.iload_n 3, 1) := by decide +kernel
theorem dL_isKept_149 : decode cL_isKept 149 = .ok (.imul, 1) := by decide +kernel
theorem dL_isKept_150 : decode cL_isKept 150 = .ok (.if_icmp .lt 9, 3) := by decide +kernel
theorem dL_isKept_153 : decode cL_isKept 153 = .ok (.iload 7, 2) := by decide +kernel
theorem dL_isKept_155 : decode cL_isKept 155 = .ok (.iload_n 3, 1) := by decide +kernel
theorem dL_isKept_156 : decode cL_isKept 156 = .ok (.if_icmp .lt 36, 3) := by decide +kernel
theorem dL_isKept_159 : decode cL_isKept 159 = .ok (.iload 7, 2) := by decide +kernel
theorem dL_isKept_161 : decode cL_isKept 161 = .ok (.aload_n 0, 1) := by decide +kernel
theorem dL_isKept_162 : decode cL_isKept 162 = .ok (.iload 4, 2) := by decide +kernel
theorem dL_isKept_164 : decode cL_isKept 164 = .ok (.iconst 4, 1) := by decide +kernel
theorem dL_isKept_165 : decode cL_isKept 165 = .ok (.invokevirtual 23, 3) := by decide +kernel
theorem dL_isKept_168 : decode cL_isKept 168 = .ok (.iadd, 1) := by decide +kernel
theorem dL_isKept_169 : decode cL_isKept 169 = .ok (.aload_n 0, 1) := by decide +kernel
theorem dL_isKept_170 : decode cL_isKept 170 = .ok (.iconst 0, 1) := by decide +kernel
theorem dL_isKept_171 : decode cL_isKept 171 = .ok (.invokevirtual 13, 3) := by decide +kernel
theorem dL_isKept_174 : decode cL_isKept 174 = .ok (.aload_n 0, 1) := by decide +kernel
theorem dL_isKept_175 : decode cL_isKept 175 = .ok (.iload 4, 2) := by decide +kernel
theorem dL_isKept_177 : decode cL_isKept 177 = .ok (.iconst 5, 1) := by decide +kernel
theorem dL_isKept_178 : decode cL_isKept 178 = .ok (.invokevirtual 23, 3) := by decide +kernel
theorem dL_isKept_181 : decode cL_isKept 181 = .ok (.isub, 1) := by decide +kernel
theorem dL_isKept_182 : decode cL_isKept 182 = .ok (.iload 6, 2) := by decide +kernel
theorem dL_isKept_184 : decode cL_isKept 184 = .ok (.isub, 1) := by decide +kernel
theorem dL_isKept_185 : decode cL_isKept 185 = .ok (.if_icmp .ne 7, 3) := by decide +kernel
theorem dL_isKept_188 : decode cL_isKept 188 = .ok (.iconst 1, 1) := by decide +kernel
theorem dL_isKept_189 : decode cL_isKept 189 = .ok (.goto 4, 3) := by decide +kernel
theorem dL_isKept_192 : decode cL_isKept 192 = .ok (.iconst 0, 1) := by decide +kernel
theorem dL_isKept_193 : decode cL_isKept 193 = .ok (.ireturn, 1) := by decide +kernel
set_option maxRecDepth 20000 in
theorem ggL_refusesAny_X5_count : GoodIn wsL_refusesAny wsX5_count := goodIn_r _ [6, 7, 8, 9, 10, 11, 12, 13, 14, 15, 16, 17, 18, 19, 20, 21, 22, 23, 5, 24, 25, 26, 27, 28, 29, 30, 31, 32, 33, 34, 35, 36, 37, 38, 39, 40, 41, 42, 43, 44, 45, 46, 47, 48, 49, 50, 51, 52, 53, 54, 55, 56, 57, 58, 59, 60, 61, 62, 63, 64, 350, 351, 352, 353, 354, 355, 356, 357, 358, 359, 360, 361, 362, 363, 364, 365, 366, 367, 368, 369, 370, 371, 372, 373, 374, 375, 376, 377, 378, 379, 380] (by decide +kernel) (by decide +kernel)
set_option maxRecDepth 20000 in
theorem gL_refusesAny_X5_count : GoodIn wsL_refusesAny (wsV RL 13 RX5 yX5_count wsX5_count) := goodIn_app (goodIn_of _ (by decide +kernel)) ggL_refusesAny_X5_count
set_option maxRecDepth 20000 in
theorem ggL_refusesAny_X5_set : GoodIn wsL_refusesAny wsX5_set := goodIn_r _ [68, 12, 7, 8, 69, 70, 5, 71, 72, 73, 74, 75, 76, 77, 78, 79, 80, 81, 82, 83, 84, 85, 86, 87, 17, 88, 89, 19, 20, 90, 91, 92, 93, 94, 25, 95, 96, 97, 32, 98, 43, 34, 99, 100, 101, 102, 103, 104, 105, 106, 107, 108, 109, 110, 111, 112, 113, 114, 115, 116, 59, 117, 118, 119, 120, 121, 122, 123, 124, 44, 125, 50, 45, 126, 127, 128, 129, 60, 130, 131, 132, 133, 134, 135, 136, 137, 138, 139, 140, 141, 142, 143, 144, 145, 146, 147, 148, 149, 150, 151, 152, 153, 154, 155, 156, 157, 158, 159, 160, 161, 350, 351, 352, 353, 354, 355, 356, 357, 358, 359, 360, 361, 364, 365, 366, 367, 368, 369, 370, 371, 372, 373, 374, 375, 376, 377, 378, 379, 380] (by decide +kernel) (by decide +kernel)
set_option maxRecDepth 20000 in
theorem gL_refusesAny_X5_set : GoodIn wsL_refusesAny (wsV RL 28 RX5 yX5_set wsX5_set) := goodIn_app (goodIn_of _ (by decide +kernel)) ggL_refusesAny_X5_set
set_option maxRecDepth 20000 in
theorem ggL_refusesAny_X5_change : GoodIn wsL_refusesAny wsX5_change := goodIn_r _ [165, 7, 12, 166, 167, 154, 155, 17, 156, 19, 74, 75, 76, 77, 78, 79, 80, 81, 82, 83, 84, 85, 86, 87, 88, 89, 20, 90, 91, 92, 93, 5, 94, 25, 8, 95, 96, 97, 32, 98, 43, 34, 99, 100, 101, 102, 103, 104, 105, 106, 107, 108, 109, 110, 111, 112, 113, 114, 115, 116, 59, 117, 118, 119, 120, 121, 122, 123, 124, 44, 125, 50, 45, 126, 127, 128, 129, 60, 130, 131, 132, 133, 134, 135, 136, 137, 138, 139, 140, 141, 142, 143, 144, 145, 146, 147, 148, 149, 150, 151, 152, 153, 157, 158, 159, 160, 161, 350, 351, 352, 353, 354, 355, 356, 357, 358, 359, 360, 361, 364, 365, 366, 367, 368, 369, 370, 371, 372, 373, 374, 375, 376, 377, 378, 379, 380] (by decide +kernel) (by decide +kernel)
set_option maxRecDepth 20000 in
theorem gL_refusesAny_X5_change : GoodIn wsL_refusesAny (wsV RL 31 RX5 yX5_change wsX5_change) := goodIn_app (goodIn_of _ (by decide +kernel)) ggL_refusesAny_X5_change
set_option maxRecDepth 20000 in
theorem ggL_refusesAny_X5_drop : GoodIn wsL_refusesAny wsX5_drop := goodIn_r _ [171, 7, 12, 166, 167, 154, 155, 17, 156, 19, 74, 75, 76, 77, 78, 79, 80, 81, 82, 83, 84, 85, 86, 87, 88, 89, 20, 90, 172, 173, 174, 175, 153, 91, 92, 93, 5, 94, 25, 8, 95, 96, 97, 32, 98, 43, 34, 99, 100, 101, 102, 103, 104, 105, 106, 107, 108, 109, 110, 111, 112, 113, 114, 115, 116, 59, 117, 118, 119, 120, 121, 122, 123, 124, 44, 125, 50, 45, 126, 127, 128, 129, 60, 130, 131, 132, 133, 134, 135, 136, 137, 138, 139, 140, 141, 142, 143, 144, 145, 146, 147, 148, 149, 150, 151, 152, 157, 158, 159, 160, 161, 350, 351, 352, 353, 354, 355, 356, 357, 358, 359, 360, 361, 364, 365, 366, 367, 368, 369, 370, 371, 372, 373, 374, 375, 376, 377, 378, 379, 380] (by decide +kernel) (by decide +kernel)
set_option maxRecDepth 20000 in
theorem gL_refusesAny_X5_drop : GoodIn wsL_refusesAny (wsV RL 34 RX5 yX5_drop wsX5_drop) := goodIn_app (goodIn_of _ (by decide +kernel)) ggL_refusesAny_X5_drop
set_option maxRecDepth 20000 in
theorem ggL_refusesAny_X5_join : GoodIn wsL_refusesAny wsX5_join := goodIn_r _ [179, 7, 166, 12, 167, 154, 155, 17, 156, 19, 74, 75, 76, 77, 78, 79, 80, 81, 82, 83, 84, 85, 86, 87, 88, 89, 20, 90, 172, 173, 174, 175, 153, 91, 92, 93, 5, 94, 25, 8, 95, 96, 97, 32, 98, 43, 34, 99, 100, 101, 102, 103, 104, 105, 106, 107, 108, 109, 110, 111, 112, 113, 114, 115, 116, 59, 117, 118, 119, 120, 121, 122, 123, 124, 44, 125, 50, 45, 126, 127, 128, 129, 60, 130, 131, 132, 133, 134, 135, 136, 137, 138, 139, 140, 141, 142, 143, 144, 145, 146, 147, 148, 149, 150, 151, 152, 157, 158, 159, 160, 161, 350, 351, 352, 353, 354, 355, 356, 357, 358, 359, 360, 361, 364, 365, 366, 367, 368, 369, 370, 371, 372, 373, 374, 375, 376, 377, 378, 379, 380] (by decide +kernel) (by decide +kernel)
set_option maxRecDepth 20000 in
theorem gL_refusesAny_X5_join : GoodIn wsL_refusesAny (wsV RL 37 RX5 yX5_join wsX5_join) := goodIn_app (goodIn_of _ (by decide +kernel)) ggL_refusesAny_X5_join
set_option maxRecDepth 20000 in
theorem ggL_refusesAny_X5_wipe : GoodIn wsL_refusesAny wsX5_wipe := goodIn_r _ [183, 10, 11, 184, 185, 186, 187, 188, 189, 350, 351, 352, 353, 354, 355, 356, 357, 362, 363] (by decide +kernel) (by decide +kernel)
set_option maxRecDepth 20000 in
theorem gL_refusesAny_X5_wipe : GoodIn wsL_refusesAny (wsV RL 40 RX5 yX5_wipe wsX5_wipe) := goodIn_app (goodIn_of _ (by decide +kernel)) ggL_refusesAny_X5_wipe
set_option maxRecDepth 20000 in
theorem ggL_refusesAny_X5_read : GoodIn wsL_refusesAny wsX5_read := goodIn_r _ [193, 10, 194, 7, 12, 9, 195, 196, 197, 187, 198, 189, 199, 200, 201, 202, 203, 204, 205, 206, 207, 208, 209, 210, 211, 212, 86, 87, 17, 88, 89, 19, 20, 90, 213, 214, 215, 216, 217, 218, 159, 219, 220, 158, 160, 161, 221, 222, 223, 224, 225, 226, 227, 228, 229, 230, 231, 153, 154, 155, 156, 232, 233, 234, 235, 74, 75, 76, 77, 78, 79, 80, 81, 82, 83, 84, 85, 184, 185, 186, 188, 91, 92, 93, 5, 94, 25, 8, 95, 96, 97, 32, 98, 43, 34, 99, 100, 101, 102, 103, 104, 105, 106, 107, 108, 109, 110, 111, 112, 113, 114, 115, 116, 59, 117, 118, 119, 120, 121, 122, 123, 124, 44, 125, 50, 45, 126, 127, 128, 129, 60, 130, 131, 132, 133, 134, 135, 136, 137, 138, 139, 140, 141, 142, 143, 144, 145, 146, 147, 148, 149, 150, 151, 152, 157, 350, 351, 352, 353, 354, 355, 356, 357, 358, 359, 360, 361, 362, 363, 364, 365, 366, 367, 368, 369, 370, 371, 372, 373, 374, 375, 376, 377, 378, 379, 380] (by decide +kernel) (by decide +kernel)
set_option maxRecDepth 20000 in
theorem gL_refusesAny_X5_read : GoodIn wsL_refusesAny (wsV RL 44 RX5 yX5_read wsX5_read) := goodIn_app (goodIn_of _ (by decide +kernel)) ggL_refusesAny_X5_read
set_option maxRecDepth 20000 in
theorem ggL_refusesAny_X5_rename : GoodIn wsL_refusesAny wsX5_rename := goodIn_r _ [239, 7, 10, 12, 166, 167, 154, 155, 17, 156, 19, 240, 241, 242, 187, 243, 189, 199, 203, 204, 205, 244, 245, 246, 247, 217, 218, 159, 219, 220, 158, 160, 161, 221, 222, 223, 248, 249, 250, 251, 90, 228, 229, 230, 231, 153, 74, 75, 76, 77, 78, 79, 80, 81, 82, 83, 84, 85, 86, 87, 88, 89, 20, 172, 173, 174, 175, 252, 225, 226, 227, 232, 233, 234, 235, 184, 185, 186, 188, 91, 92, 93, 5, 94, 25, 8, 95, 96, 97, 32, 98, 43, 34, 99, 100, 101, 102, 103, 104, 105, 106, 107, 108, 109, 110, 111, 112, 113, 114, 115, 116, 59, 117, 118, 119, 120, 121, 122, 123, 124, 44, 125, 50, 45, 126, 127, 128, 129, 60, 130, 131, 132, 133, 134, 135, 136, 137, 138, 139, 140, 141, 142, 143, 144, 145, 146, 147, 148, 149, 150, 151, 152, 157, 350, 351, 352, 353, 354, 355, 356, 357, 358, 359, 360, 361, 362, 363, 364, 365, 366, 367, 368, 369, 370, 371, 372, 373, 374, 375, 376, 377, 378, 379, 380] (by decide +kernel) (by decide +kernel)
set_option maxRecDepth 20000 in
theorem gL_refusesAny_X5_rename : GoodIn wsL_refusesAny (wsV RL 47 RX5 yX5_rename wsX5_rename) := goodIn_app (goodIn_of _ (by decide +kernel)) ggL_refusesAny_X5_rename
set_option maxRecDepth 20000 in
theorem ggL_refusesAny_X5_put : GoodIn wsL_refusesAny wsX5_put := goodIn_r _ [256, 10, 11, 257, 258, 5, 259, 260, 261, 262, 263, 264, 265, 187, 266, 189, 199, 350, 351, 352, 353, 354, 355, 356, 357, 362, 363] (by decide +kernel) (by decide +kernel)
set_option maxRecDepth 20000 in
theorem gL_refusesAny_X5_put : GoodIn wsL_refusesAny (wsV RL 52 RX5 yX5_put wsX5_put) := goodIn_app (goodIn_of _ (by decide +kernel)) ggL_refusesAny_X5_put
set_option maxRecDepth 20000 in
theorem ggL_refusesAny_X5_find : GoodIn wsL_refusesAny wsX5_find := goodIn_r _ [270, 10, 7, 240, 241, 242, 187, 243, 189, 199, 203, 204, 205, 244, 245, 246, 247, 217, 218, 159, 219, 220, 158, 160, 161, 221, 222, 223, 248, 249, 250, 17, 251, 90, 228, 229, 230, 231, 19, 153, 154, 155, 156, 350, 351, 352, 353, 354, 355, 356, 357, 362, 363, 358, 359, 360, 361] (by decide +kernel) (by decide +kernel)
set_option maxRecDepth 20000 in
theorem gL_refusesAny_X5_find : GoodIn wsL_refusesAny (wsV RL 56 RX5 yX5_find wsX5_find) := goodIn_app (goodIn_of _ (by decide +kernel)) ggL_refusesAny_X5_find
set_option maxRecDepth 20000 in
theorem ggL_refusesAny_X5_lookFor : GoodIn wsL_refusesAny wsX5_lookFor := goodIn_r _ [274, 10, 25, 26, 7, 275, 240, 241, 242, 187, 243, 189, 199, 203, 204, 205, 244, 245, 246, 247, 217, 218, 159, 219, 220, 158, 160, 161, 221, 222, 223, 276, 150, 151, 17, 152, 90, 153, 154, 155, 156, 19, 350, 351, 352, 353, 354, 355, 356, 357, 366, 367, 368, 369, 370, 371, 372, 373, 374, 375, 376, 377, 378, 379, 380, 362, 363, 358, 359, 360, 361] (by decide +kernel) (by decide +kernel)
set_option maxRecDepth 20000 in
theorem gL_refusesAny_X5_lookFor : GoodIn wsL_refusesAny (wsV RL 59 RX5 yX5_lookFor wsX5_lookFor) := goodIn_app (goodIn_of _ (by decide +kernel)) ggL_refusesAny_X5_lookFor
set_option maxRecDepth 20000 in
theorem ggL_refusesAny_X5_entry : GoodIn wsL_refusesAny wsX5_entry := goodIn_r _ [280, 7, 166, 25, 281, 282, 283, 167, 154, 155, 17, 156, 19, 284, 56, 57, 32, 58, 59, 60, 276, 150, 151, 152, 90, 153, 285, 158, 159, 160, 161, 286, 287, 288, 220, 221, 222, 223, 289, 290, 5, 291, 350, 351, 352, 353, 354, 355, 356, 357, 358, 359, 360, 361, 366, 367, 368, 369, 370, 371, 372, 373, 374, 375, 376, 377, 378, 379, 380] (by decide +kernel) (by decide +kernel)
set_option maxRecDepth 20000 in
theorem gL_refusesAny_X5_entry : GoodIn wsL_refusesAny (wsV RL 19 RX5 yX5_entry wsX5_entry) := goodIn_app (goodIn_of _ (by decide +kernel)) ggL_refusesAny_X5_entry
set_option maxRecDepth 20000 in
theorem ggL_refusesAny_X5_page : GoodIn wsL_refusesAny wsX5_page := goodIn_r _ [295, 25, 296, 275, 297, 298, 299, 7, 300, 132, 133, 32, 134, 34, 301, 40, 41, 42, 43, 44, 45, 302, 146, 147, 148, 139, 140, 149, 150, 151, 17, 152, 90, 153, 154, 155, 156, 19, 157, 158, 159, 160, 161, 303, 304, 305, 306, 307, 287, 288, 220, 221, 222, 223, 289, 290, 5, 291, 350, 351, 352, 353, 354, 355, 356, 357, 366, 367, 368, 369, 370, 371, 372, 373, 374, 375, 376, 377, 378, 379, 380, 358, 359, 360, 361] (by decide +kernel) (by decide +kernel)
set_option maxRecDepth 20000 in
theorem gL_refusesAny_X5_page : GoodIn wsL_refusesAny (wsV RL 23 RX5 yX5_page wsX5_page) := goodIn_app (goodIn_of _ (by decide +kernel)) ggL_refusesAny_X5_page
set_option maxRecDepth 20000 in
theorem ggL_refusesAny_X5_fold : GoodIn wsL_refusesAny wsX5_fold := goodIn_r _ [311, 25, 29, 30, 31, 32, 33, 34, 312, 313, 314, 315, 140, 300, 132, 133, 134, 316, 317, 318, 319, 50, 139, 350, 351, 352, 353, 354, 355, 356, 357, 366, 367, 368, 369, 370, 371, 372, 373, 374, 375, 376, 377, 378, 379, 380] (by decide +kernel) (by decide +kernel)
set_option maxRecDepth 20000 in
theorem gL_refusesAny_X5_fold : GoodIn wsL_refusesAny (wsV RL 62 RX5 yX5_fold wsX5_fold) := goodIn_app (goodIn_of _ (by decide +kernel)) ggL_refusesAny_X5_fold
set_option maxRecDepth 20000 in
theorem ggL_refusesAny_X5_ifSet : GoodIn wsL_refusesAny wsX5_ifSet := goodIn_r _ [323, 7, 8, 324, 26, 69, 70, 5, 71, 72, 73, 95, 96, 97, 32, 98, 43, 34, 99, 100, 101, 102, 103, 104, 105, 106, 107, 108, 109, 110, 111, 112, 113, 114, 115, 116, 59, 117, 118, 119, 120, 121, 122, 123, 124, 44, 125, 50, 45, 126, 127, 128, 129, 60, 130, 131, 132, 133, 134, 135, 136, 137, 138, 139, 140, 141, 142, 143, 144, 145, 146, 147, 148, 149, 150, 151, 17, 152, 90, 153, 154, 155, 156, 19, 157, 158, 159, 160, 161, 350, 351, 352, 353, 354, 355, 356, 357, 358, 359, 360, 361, 366, 367, 368, 369, 370, 371, 372, 373, 374, 375, 376, 377, 378, 379, 380] (by decide +kernel) (by decide +kernel)
set_option maxRecDepth 20000 in
theorem gL_refusesAny_X5_ifSet : GoodIn wsL_refusesAny (wsV RL 66 RX5 yX5_ifSet wsX5_ifSet) := goodIn_app (goodIn_of _ (by decide +kernel)) ggL_refusesAny_X5_ifSet
set_option maxRecDepth 20000 in
theorem ggL_refusesAny_X5_leastLines : GoodIn wsL_refusesAny wsX5_leastLines := goodIn_r _ [328, 72, 73, 324, 26, 329, 330, 331, 5, 332, 7, 8, 95, 96, 97, 32, 98, 43, 34, 99, 100, 101, 102, 103, 104, 105, 106, 107, 108, 109, 110, 111, 112, 113, 114, 115, 116, 59, 117, 118, 119, 120, 121, 122, 123, 124, 44, 125, 50, 45, 126, 127, 128, 129, 60, 130, 131, 132, 133, 134, 135, 136, 137, 138, 139, 140, 141, 142, 143, 144, 145, 146, 147, 148, 149, 150, 151, 17, 152, 90, 153, 154, 155, 156, 19, 157, 158, 159, 160, 161, 350, 351, 352, 353, 354, 355, 356, 357, 366, 367, 368, 369, 370, 371, 372, 373, 374, 375, 376, 377, 378, 379, 380, 358, 359, 360, 361] (by decide +kernel) (by decide +kernel)
set_option maxRecDepth 20000 in
theorem gL_refusesAny_X5_leastLines : GoodIn wsL_refusesAny (wsV RL 69 RX5 yX5_leastLines wsX5_leastLines) := goodIn_app (goodIn_of _ (by decide +kernel)) ggL_refusesAny_X5_leastLines
set_option maxRecDepth 20000 in
theorem ggL_refusesAny_X5_bestLines : GoodIn wsL_refusesAny wsX5_bestLines := goodIn_r _ [336, 72, 324, 73, 329, 330, 331, 5, 332, 7, 8, 95, 96, 97, 32, 98, 43, 34, 99, 100, 101, 102, 103, 104, 105, 106, 107, 108, 109, 110, 111, 112, 113, 114, 115, 116, 59, 117, 118, 119, 120, 121, 122, 123, 124, 44, 125, 50, 45, 126, 127, 128, 129, 60, 130, 131, 132, 133, 134, 135, 136, 137, 138, 139, 140, 141, 142, 143, 144, 145, 146, 147, 148, 149, 150, 151, 17, 152, 90, 153, 154, 155, 156, 19, 157, 158, 159, 160, 161, 35, 36, 37, 38, 39, 40, 41, 42, 350, 351, 352, 353, 354, 355, 356, 357, 358, 359, 360, 361, 366, 367, 368, 369, 370, 371, 372, 373, 374, 375, 376, 377, 378, 379, 380] (by decide +kernel) (by decide +kernel)
set_option maxRecDepth 20000 in
theorem gL_refusesAny_X5_bestLines : GoodIn wsL_refusesAny (wsV RL 72 RX5 yX5_bestLines wsX5_bestLines) := goodIn_app (goodIn_of _ (by decide +kernel)) ggL_refusesAny_X5_bestLines
set_option maxRecDepth 20000 in
theorem ggL_refusesAny_X5_save : GoodIn wsL_refusesAny wsX5_save := goodIn_r _ [340, 341, 7, 342, 9, 343, 344, 5, 345, 212, 86, 87, 17, 88, 89, 19, 20, 90, 350, 351, 352, 353, 354, 355, 356, 357, 358, 359, 360, 361] (by decide +kernel) (by decide +kernel)
set_option maxRecDepth 20000 in
theorem gL_refusesAny_X5_save : GoodIn wsL_refusesAny (wsV RL 75 RX5 yX5_save wsX5_save) := goodIn_app (goodIn_of _ (by decide +kernel)) ggL_refusesAny_X5_save
set_option maxRecDepth 20000 in
theorem ggL_refusesAny_X5_restore : GoodIn wsL_refusesAny wsX5_restore := goodIn_r _ [349, 342, 12, 7, 341, 9, 343, 344, 5, 345, 74, 75, 76, 77, 78, 79, 80, 81, 82, 83, 84, 85, 86, 87, 17, 88, 89, 19, 20, 90, 212, 91, 92, 93, 94, 25, 8, 95, 96, 97, 32, 98, 43, 34, 99, 100, 101, 102, 103, 104, 105, 106, 107, 108, 109, 110, 111, 112, 113, 114, 115, 116, 59, 117, 118, 119, 120, 121, 122, 123, 124, 44, 125, 50, 45, 126, 127, 128, 129, 60, 130, 131, 132, 133, 134, 135, 136, 137, 138, 139, 140, 141, 142, 143, 144, 145, 146, 147, 148, 149, 150, 151, 152, 153, 154, 155, 156, 157, 158, 159, 160, 161, 350, 351, 352, 353, 354, 355, 356, 357, 358, 359, 360, 361, 364, 365, 366, 367, 368, 369, 370, 371, 372, 373, 374, 375, 376, 377, 378, 379, 380] (by decide +kernel) (by decide +kernel)
set_option maxRecDepth 20000 in
theorem gL_refusesAny_X5_restore : GoodIn wsL_refusesAny (wsV RL 78 RX5 yX5_restore wsX5_restore) := goodIn_app (goodIn_of _ (by decide +kernel)) ggL_refusesAny_X5_restore
theorem dL_refusesAny_0 : decode cL_refusesAny 0 = .ok (.iload_n 1, 1) := by decide +kernel
theorem dL_refusesAny_1 : decode cL_refusesAny 1 = .ok (.iconst 2, 1) := by decide +kernel
theorem dL_refusesAny_2 : decode cL_refusesAny 2 = .ok (.irem, 1) := by decide +kernel
theorem dL_refusesAny_3 : decode cL_refusesAny 3 = .ok (.ifCond .ne 12, 3) := by decide +kernel
theorem dL_refusesAny_6 : decode cL_refusesAny 6 = .ok (.iconst (-1), 1) := by decide +kernel
theorem dL_refusesAny_7 : decode cL_refusesAny 7 = .ok (.iload_n 1, 1) := by decide +kernel
theorem dL_refusesAny_8 : decode cL_refusesAny 8 = .ok (.bipush 99, 2) := by decide +kernel
theorem dL_refusesAny_10 : decode cL_refusesAny 10 = .ok (.irem, 1) := by decide +kernel
theorem dL_refusesAny_11 : decode cL_refusesAny 11 = .ok (.isub, 1) := by decide +kernel
theorem dL_refusesAny_12 : decode cL_refusesAny 12 = .ok (.goto 13, 3) := by decide +kernel
theorem dL_refusesAny_15 : decode cL_refusesAny 15 = .ok (.aload_n 0, 1) := by decide +kernel
theorem dL_refusesAny_16 : decode cL_refusesAny 16 = .ok (.iconst 3, 1) := by decide +kernel
theorem dL_refusesAny_17 : decode cL_refusesAny 17 = .ok (.invokevirtual 13, 3) := by decide +kernel
theorem dL_refusesAny_20 : decode cL_refusesAny 20 = .ok (.iload_n 1, 1) := by decide +kernel
theorem dL_refusesAny_21 : decode cL_refusesAny 21 = .ok (.bipush 99, 2) := by decide +kernel
theorem dL_refusesAny_23 : decode cL_refusesAny 23 = .ok (.irem, 1) := by decide +kernel
theorem dL_refusesAny_24 : decode cL_refusesAny 24 = .ok (.iadd, 1) := by decide +kernel
theorem dL_refusesAny_25 : decode cL_refusesAny 25 = .ok (.istore_n 2, 1) := by decide +kernel
theorem dL_refusesAny_26 : decode cL_refusesAny 26 = .ok (.aload_n 0, 1) := by decide +kernel
theorem dL_refusesAny_27 : decode cL_refusesAny 27 = .ok (.iload_n 1, 1) := by decide +kernel
theorem dL_refusesAny_28 : decode cL_refusesAny 28 = .ok (.iconst 2, 1) := by decide +kernel
theorem dL_refusesAny_29 : decode cL_refusesAny 29 = .ok (.irem, 1) := by decide +kernel
theorem dL_refusesAny_30 : decode cL_refusesAny 30 = .ok (.ifCond .ne 7, 3) := by decide +kernel
theorem dL_refusesAny_33 : decode cL_refusesAny 33 = .ok (.iconst (-1), 1) := by decide +kernel
theorem dL_refusesAny_34 : decode cL_refusesAny 34 = .ok (.goto 4, 3) := by decide +kernel
theorem dL_refusesAny_37 : decode cL_refusesAny 37 = .ok (.iconst 3, 1) := by decide +kernel
theorem dL_refusesAny_38 : decode cL_refusesAny 38 = .ok (.bipush 6, 2) := by decide +kernel
theorem dL_refusesAny_40 : decode cL_refusesAny 40 = .ok (.invokevirtual 28, 3) := by decide +kernel
theorem dL_refusesAny_43 : decode cL_refusesAny 43 = .ok (.bipush (-2), 2) := by decide +kernel
theorem dL_refusesAny_45 : decode cL_refusesAny 45 = .ok (.if_icmp .ne 244, 3) := by decide +kernel
theorem dL_refusesAny_48 : decode cL_refusesAny 48 = .ok (.aload_n 0, 1) := by decide +kernel
theorem dL_refusesAny_49 : decode cL_refusesAny 49 = .ok (.iconst 0, 1) := by decide +kernel
theorem dL_refusesAny_50 : decode cL_refusesAny 50 = .ok (.iload_n 1, 1) := by decide +kernel
theorem dL_refusesAny_51 : decode cL_refusesAny 51 = .ok (.iconst 2, 1) := by decide +kernel
theorem dL_refusesAny_52 : decode cL_refusesAny 52 = .ok (.irem, 1) := by decide +kernel
theorem dL_refusesAny_53 : decode cL_refusesAny 53 = .ok (.ifCond .ne 7, 3) := by decide +kernel
theorem dL_refusesAny_56 : decode cL_refusesAny 56 = .ok (.iconst 5, 1) := by decide +kernel
theorem dL_refusesAny_57 : decode cL_refusesAny 57 = .ok (.goto 5, 3) := by decide +kernel
theorem dL_refusesAny_60 : decode cL_refusesAny 60 = .ok (.bipush 41, 2) := by decide +kernel
theorem dL_refusesAny_62 : decode cL_refusesAny 62 = .ok (.invokevirtual 28, 3) := by decide +kernel
theorem dL_refusesAny_65 : decode cL_refusesAny 65 = .ok (.bipush (-2), 2) := by decide +kernel
theorem dL_refusesAny_67 : decode cL_refusesAny 67 = .ok (.if_icmp .ne 222, 3) := by decide +kernel
theorem dL_refusesAny_70 : decode cL_refusesAny 70 = .ok (.aload_n 0, 1) := by decide +kernel
theorem dL_refusesAny_71 : decode cL_refusesAny 71 = .ok (.iconst 1, 1) := by decide +kernel
theorem dL_refusesAny_72 : decode cL_refusesAny 72 = .ok (.iload_n 1, 1) := by decide +kernel
theorem dL_refusesAny_73 : decode cL_refusesAny 73 = .ok (.iconst 2, 1) := by decide +kernel
theorem dL_refusesAny_74 : decode cL_refusesAny 74 = .ok (.irem, 1) := by decide +kernel
theorem dL_refusesAny_75 : decode cL_refusesAny 75 = .ok (.ifCond .ne 7, 3) := by decide +kernel
theorem dL_refusesAny_78 : decode cL_refusesAny 78 = .ok (.iconst 3, 1) := by decide +kernel
theorem dL_refusesAny_79 : decode cL_refusesAny 79 = .ok (.goto 5, 3) := by decide +kernel
theorem dL_refusesAny_82 : decode cL_refusesAny 82 = .ok (.bipush 31, 2) := by decide +kernel
theorem dL_refusesAny_84 : decode cL_refusesAny 84 = .ok (.invokevirtual 28, 3) := by decide +kernel
theorem dL_refusesAny_87 : decode cL_refusesAny 87 = .ok (.bipush (-2), 2) := by decide +kernel
theorem dL_refusesAny_89 : decode cL_refusesAny 89 = .ok (.if_icmp .ne 200, 3) := by decide +kernel
theorem dL_refusesAny_92 : decode cL_refusesAny 92 = .ok (.aload_n 0, 1) := by decide +kernel
theorem dL_refusesAny_93 : decode cL_refusesAny 93 = .ok (.iconst 2, 1) := by decide +kernel
theorem dL_refusesAny_94 : decode cL_refusesAny 94 = .ok (.iload_n 1, 1) := by decide +kernel
theorem dL_refusesAny_95 : decode cL_refusesAny 95 = .ok (.iconst 2, 1) := by decide +kernel
theorem dL_refusesAny_96 : decode cL_refusesAny 96 = .ok (.irem, 1) := by decide +kernel
theorem dL_refusesAny_97 : decode cL_refusesAny 97 = .ok (.ifCond .ne 7, 3) := by decide +kernel
theorem dL_refusesAny_100 : decode cL_refusesAny 100 = .ok (.iconst 0, 1) := by decide +kernel
theorem dL_refusesAny_101 : decode cL_refusesAny 101 = .ok (.goto 4, 3) := by decide +kernel
theorem dL_refusesAny_104 : decode cL_refusesAny 104 = .ok (.iconst 4, 1) := by decide +kernel
theorem dL_refusesAny_105 : decode cL_refusesAny 105 = .ok (.invokevirtual 28, 3) := by decide +kernel
theorem dL_refusesAny_108 : decode cL_refusesAny 108 = .ok (.bipush (-2), 2) := by decide +kernel
theorem dL_refusesAny_110 : decode cL_refusesAny 110 = .ok (.if_icmp .ne 179, 3) := by decide +kernel

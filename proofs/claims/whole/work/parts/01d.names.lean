set_option maxRecDepth 20000 in
theorem ggX5_leastLines_X5_layTrial : GoodIn wsX5_leastLines wsX5_layTrial := goodIn_r _ [9, 3, 10, 11, 12, 13, 14, 15, 16, 17, 18, 19, 20, 21, 22, 23, 24, 25, 26, 27, 28, 29, 30, 31, 32, 33, 34, 35, 36, 37, 38, 39, 40, 41, 42, 43, 44, 45, 46, 47, 48, 49, 50, 51, 52, 53, 54, 55, 56, 57, 58, 59, 60, 61, 62, 63, 64, 65, 66, 67, 68, 69, 70, 71, 72, 73, 74, 75, 76, 77, 78, 79, 80, 81, 82, 83, 84, 85, 86, 87, 88, 89, 90, 91, 92, 93, 94, 95, 96, 97, 113, 114, 115, 116, 98, 99, 100, 101, 102, 103, 104, 105, 106, 107, 108, 109, 110, 111, 112] (by decide +kernel) (by decide +kernel)
set_option maxRecDepth 20000 in
theorem gX5_leastLines_X5_layTrial : GoodIn wsX5_leastLines (wsV RX5 222 RX5 yX5_layTrial wsX5_layTrial) := goodIn_app (goodIn_of _ (by decide +kernel)) ggX5_leastLines_X5_layTrial
theorem dX5_leastLines_0 : decode cX5_leastLines 0 = .ok (.iload_n 1, 1) := by decide +kernel
theorem dX5_leastLines_1 : decode cX5_leastLines 1 = .ok (.iconst 1, 1) := by decide +kernel
theorem dX5_leastLines_2 : decode cX5_leastLines 2 = .ok (.if_icmp .lt 10, 3) := by decide +kernel
theorem dX5_leastLines_5 : decode cX5_leastLines 5 = .ok (.iload_n 1, 1) := by decide +kernel
theorem dX5_leastLines_6 : decode cX5_leastLines 6 = .ok (.sipush 200, 3) := by decide +kernel
theorem dX5_leastLines_9 : decode cX5_leastLines 9 = .ok (.if_icmp .le 6, 3) := by decide +kernel
theorem dX5_leastLines_12 : decode cX5_leastLines 12 = .ok (.bipush (-2), 2) := by decide +kernel
theorem dX5_leastLines_14 : decode cX5_leastLines 14 = .ok (.ireturn, 1) := by decide +kernel
theorem dX5_leastLines_15 : decode cX5_leastLines 15 = .ok (.getstatic 216, 3) := by decide +kernel
theorem dX5_leastLines_18 : decode cX5_leastLines 18 = .ok (.iconst 0, 1) := by decide +kernel
theorem dX5_leastLines_19 : decode cX5_leastLines 19 = .ok (.iaload, 1) := by decide +kernel
theorem dX5_leastLines_20 : decode cX5_leastLines 20 = .ok (.istore_n 2, 1) := by decide +kernel
theorem dX5_leastLines_21 : decode cX5_leastLines 21 = .ok (.iload_n 2, 1) := by decide +kernel
theorem dX5_leastLines_22 : decode cX5_leastLines 22 = .ok (.getstatic 219, 3) := by decide +kernel
theorem dX5_leastLines_25 : decode cX5_leastLines 25 = .ok (.iconst 0, 1) := by decide +kernel
theorem dX5_leastLines_26 : decode cX5_leastLines 26 = .ok (.iaload, 1) := by decide +kernel
theorem dX5_leastLines_27 : decode cX5_leastLines 27 = .ok (.if_icmp .gt 27, 3) := by decide +kernel
theorem dX5_leastLines_30 : decode cX5_leastLines 30 = .ok (.aload_n 0, 1) := by decide +kernel
theorem dX5_leastLines_31 : decode cX5_leastLines 31 = .ok (.iload_n 2, 1) := by decide +kernel
theorem dX5_leastLines_32 : decode cX5_leastLines 32 = .ok (.invokevirtual 222, 3) := by decide +kernel
theorem dX5_leastLines_35 : decode cX5_leastLines 35 = .ok (.aload_n 0, 1) := by decide +kernel
theorem dX5_leastLines_36 : decode cX5_leastLines 36 = .ok (.getfield 26, 3) := by decide +kernel
theorem dX5_leastLines_39 : decode cX5_leastLines 39 = .ok (.getfield 190, 3) := by decide +kernel
theorem dX5_leastLines_42 : decode cX5_leastLines 42 = .ok (.iload_n 1, 1) := by decide +kernel
theorem dX5_leastLines_43 : decode cX5_leastLines 43 = .ok (.if_icmp .gt 5, 3) := by decide +kernel
theorem dX5_leastLines_46 : decode cX5_leastLines 46 = .ok (.iload_n 2, 1) := by decide +kernel
theorem dX5_leastLines_47 : decode cX5_leastLines 47 = .ok (.ireturn, 1) := by decide +kernel
theorem dX5_leastLines_48 : decode cX5_leastLines 48 = .ok (.iinc 2 1, 3) := by decide +kernel
theorem dX5_leastLines_51 : decode cX5_leastLines 51 = .ok (.goto (-30), 3) := by decide +kernel
theorem dX5_leastLines_54 : decode cX5_leastLines 54 = .ok (.bipush (-6), 2) := by decide +kernel
theorem dX5_leastLines_56 : decode cX5_leastLines 56 = .ok (.ireturn, 1) := by decide +kernel
set_option maxRecDepth 20000 in
theorem ggX5_bestLines_X5_layTrial : GoodIn wsX5_bestLines wsX5_layTrial := goodIn_r _ [8, 2, 9, 10, 11, 12, 13, 14, 15, 16, 17, 18, 19, 20, 21, 22, 23, 24, 25, 26, 27, 28, 29, 30, 31, 32, 33, 34, 35, 36, 37, 38, 39, 40, 41, 42, 43, 44, 45, 46, 47, 48, 49, 50, 51, 52, 53, 54, 55, 56, 57, 58, 59, 60, 61, 62, 63, 64, 65, 66, 67, 68, 69, 70, 71, 72, 73, 74, 75, 76, 77, 78, 79, 80, 81, 82, 83, 84, 85, 86, 87, 88, 97, 98, 99, 100, 101, 102, 103, 104, 105, 106, 107, 108, 109, 110, 111, 112, 113, 114, 115, 116, 117, 118, 119, 120, 121, 122, 123] (by decide +kernel) (by decide +kernel)
set_option maxRecDepth 20000 in
theorem gX5_bestLines_X5_layTrial : GoodIn wsX5_bestLines (wsV RX5 222 RX5 yX5_layTrial wsX5_layTrial) := goodIn_app (goodIn_of _ (by decide +kernel)) ggX5_bestLines_X5_layTrial
set_option maxRecDepth 20000 in
theorem ggX5_bestLines_X0_blankLines : GoodIn wsX5_bestLines wsX0_blankLines := goodIn_r _ [92, 17, 93, 94, 95, 14, 96, 16, 45, 48, 109, 110, 111, 112, 113, 114, 115, 116, 117, 118, 119, 120, 121, 122, 123] (by decide +kernel) (by decide +kernel)
set_option maxRecDepth 20000 in
theorem gX5_bestLines_X0_blankLines : GoodIn wsX5_bestLines (wsV RX5 193 RX0 yX0_blankLines wsX0_blankLines) := goodIn_app (goodIn_of _ (by decide +kernel)) ggX5_bestLines_X0_blankLines
theorem dX5_bestLines_0 : decode cX5_bestLines 0 = .ok (.iload_n 1, 1) := by decide +kernel
theorem dX5_bestLines_1 : decode cX5_bestLines 1 = .ok (.ifCond .eq 11, 3) := by decide +kernel
theorem dX5_bestLines_4 : decode cX5_bestLines 4 = .ok (.iload_n 1, 1) := by decide +kernel
theorem dX5_bestLines_5 : decode cX5_bestLines 5 = .ok (.iconst 1, 1) := by decide +kernel
theorem dX5_bestLines_6 : decode cX5_bestLines 6 = .ok (.if_icmp .eq 6, 3) := by decide +kernel
theorem dX5_bestLines_9 : decode cX5_bestLines 9 = .ok (.bipush (-2), 2) := by decide +kernel
theorem dX5_bestLines_11 : decode cX5_bestLines 11 = .ok (.ireturn, 1) := by decide +kernel
theorem dX5_bestLines_12 : decode cX5_bestLines 12 = .ok (.getstatic 216, 3) := by decide +kernel
theorem dX5_bestLines_15 : decode cX5_bestLines 15 = .ok (.iconst 0, 1) := by decide +kernel
theorem dX5_bestLines_16 : decode cX5_bestLines 16 = .ok (.iaload, 1) := by decide +kernel
theorem dX5_bestLines_17 : decode cX5_bestLines 17 = .ok (.istore_n 2, 1) := by decide +kernel
theorem dX5_bestLines_18 : decode cX5_bestLines 18 = .ok (.aload_n 0, 1) := by decide +kernel
theorem dX5_bestLines_19 : decode cX5_bestLines 19 = .ok (.iload_n 2, 1) := by decide +kernel
theorem dX5_bestLines_20 : decode cX5_bestLines 20 = .ok (.invokevirtual 222, 3) := by decide +kernel
theorem dX5_bestLines_23 : decode cX5_bestLines 23 = .ok (.aload_n 0, 1) := by decide +kernel
theorem dX5_bestLines_24 : decode cX5_bestLines 24 = .ok (.getfield 26, 3) := by decide +kernel
theorem dX5_bestLines_27 : decode cX5_bestLines 27 = .ok (.invokevirtual 193, 3) := by decide +kernel
theorem dX5_bestLines_30 : decode cX5_bestLines 30 = .ok (.istore_n 3, 1) := by decide +kernel
theorem dX5_bestLines_31 : decode cX5_bestLines 31 = .ok (.iload_n 2, 1) := by decide +kernel
theorem dX5_bestLines_32 : decode cX5_bestLines 32 = .ok (.iconst 1, 1) := by decide +kernel
theorem dX5_bestLines_33 : decode cX5_bestLines 33 = .ok (.iadd, 1) := by decide +kernel
theorem dX5_bestLines_34 : decode cX5_bestLines 34 = .ok (.istore 4, 2) := by decide +kernel
theorem dX5_bestLines_36 : decode cX5_bestLines 36 = .ok (.iload 4, 2) := by decide +kernel
theorem dX5_bestLines_38 : decode cX5_bestLines 38 = .ok (.getstatic 219, 3) := by decide +kernel
theorem dX5_bestLines_41 : decode cX5_bestLines 41 = .ok (.iconst 0, 1) := by decide +kernel
theorem dX5_bestLines_42 : decode cX5_bestLines 42 = .ok (.iaload, 1) := by decide +kernel
theorem dX5_bestLines_43 : decode cX5_bestLines 43 = .ok (.if_icmp .gt 36, 3) := by decide +kernel
theorem dX5_bestLines_46 : decode cX5_bestLines 46 = .ok (.aload_n 0, 1) := by decide +kernel
theorem dX5_bestLines_47 : decode cX5_bestLines 47 = .ok (.iload 4, 2) := by decide +kernel
theorem dX5_bestLines_49 : decode cX5_bestLines 49 = .ok (.invokevirtual 222, 3) := by decide +kernel
theorem dX5_bestLines_52 : decode cX5_bestLines 52 = .ok (.aload_n 0, 1) := by decide +kernel
theorem dX5_bestLines_53 : decode cX5_bestLines 53 = .ok (.getfield 26, 3) := by decide +kernel
theorem dX5_bestLines_56 : decode cX5_bestLines 56 = .ok (.invokevirtual 193, 3) := by decide +kernel
theorem dX5_bestLines_59 : decode cX5_bestLines 59 = .ok (.istore 5, 2) := by decide +kernel
theorem dX5_bestLines_61 : decode cX5_bestLines 61 = .ok (.iload 5, 2) := by decide +kernel
theorem dX5_bestLines_63 : decode cX5_bestLines 63 = .ok (.iload_n 3, 1) := by decide +kernel
theorem dX5_bestLines_64 : decode cX5_bestLines 64 = .ok (.if_icmp .ge 9, 3) := by decide +kernel
theorem dX5_bestLines_67 : decode cX5_bestLines 67 = .ok (.iload 4, 2) := by decide +kernel
theorem dX5_bestLines_69 : decode cX5_bestLines 69 = .ok (.istore_n 2, 1) := by decide +kernel
theorem dX5_bestLines_70 : decode cX5_bestLines 70 = .ok (.iload 5, 2) := by decide +kernel
theorem dX5_bestLines_72 : decode cX5_bestLines 72 = .ok (.istore_n 3, 1) := by decide +kernel
theorem dX5_bestLines_73 : decode cX5_bestLines 73 = .ok (.iinc 4 1, 3) := by decide +kernel
theorem dX5_bestLines_76 : decode cX5_bestLines 76 = .ok (.goto (-40), 3) := by decide +kernel
theorem dX5_bestLines_79 : decode cX5_bestLines 79 = .ok (.iload_n 1, 1) := by decide +kernel
theorem dX5_bestLines_80 : decode cX5_bestLines 80 = .ok (.ifCond .ne 7, 3) := by decide +kernel
theorem dX5_bestLines_83 : decode cX5_bestLines 83 = .ok (.iload_n 2, 1) := by decide +kernel
theorem dX5_bestLines_84 : decode cX5_bestLines 84 = .ok (.goto 4, 3) := by decide +kernel
theorem dX5_bestLines_87 : decode cX5_bestLines 87 = .ok (.iload_n 3, 1) := by decide +kernel
theorem dX5_bestLines_88 : decode cX5_bestLines 88 = .ok (.ireturn, 1) := by decide +kernel
set_option maxRecDepth 20000 in
theorem ggX5_put_X5_charactersIn : GoodIn wsX5_put wsX5_charactersIn := goodIn_r _ [6, 7, 8, 9] (by decide +kernel) (by decide +kernel)
set_option maxRecDepth 20000 in
theorem gX5_put_X5_charactersIn : GoodIn wsX5_put (va_wsS RX5 225 yX5_charactersIn wsX5_charactersIn) := goodIn_app (goodIn_of _ (by decide +kernel)) ggX5_put_X5_charactersIn
set_option maxRecDepth 20000 in
theorem ggX5_put_X2_append : GoodIn wsX5_put wsX2_append := goodIn_r _ [14, 15, 16, 25, 26] (by decide +kernel) (by decide +kernel)
set_option maxRecDepth 20000 in
theorem gX5_put_X2_append : GoodIn wsX5_put (wsV RX5 228 RX2 yX2_append wsX2_append) := goodIn_app (goodIn_of _ (by decide +kernel)) ggX5_put_X2_append
theorem dX5_put_0 : decode cX5_put 0 = .ok (.lload_n 1, 1) := by decide +kernel
theorem dX5_put_1 : decode cX5_put 1 = .ok (.invokestatic 225, 3) := by decide +kernel
theorem dX5_put_4 : decode cX5_put 4 = .ok (.istore_n 3, 1) := by decide +kernel
theorem dX5_put_5 : decode cX5_put 5 = .ok (.iload_n 3, 1) := by decide +kernel
theorem dX5_put_6 : decode cX5_put 6 = .ok (.ifCond .ne 6, 3) := by decide +kernel
theorem dX5_put_9 : decode cX5_put 9 = .ok (.bipush (-2), 2) := by decide +kernel
theorem dX5_put_11 : decode cX5_put 11 = .ok (.ireturn, 1) := by decide +kernel
theorem dX5_put_12 : decode cX5_put 12 = .ok (.aload_n 0, 1) := by decide +kernel
theorem dX5_put_13 : decode cX5_put 13 = .ok (.getfield 32, 3) := by decide +kernel
theorem dX5_put_16 : decode cX5_put 16 = .ok (.getfield 181, 3) := by decide +kernel
theorem dX5_put_19 : decode cX5_put 19 = .ok (.iload_n 3, 1) := by decide +kernel
theorem dX5_put_20 : decode cX5_put 20 = .ok (.iadd, 1) := by decide +kernel
theorem dX5_put_21 : decode cX5_put 21 = .ok (.bipush 60, 2) := by decide +kernel
theorem dX5_put_23 : decode cX5_put 23 = .ok (.if_icmp .le 6, 3) := by decide +kernel
theorem dX5_put_26 : decode cX5_put 26 = .ok (.bipush (-4), 2) := by decide +kernel
theorem dX5_put_28 : decode cX5_put 28 = .ok (.ireturn, 1) := by decide +kernel
theorem dX5_put_29 : decode cX5_put 29 = .ok (.iload_n 3, 1) := by decide +kernel
theorem dX5_put_30 : decode cX5_put 30 = .ok (.iconst 1, 1) := by decide +kernel
theorem dX5_put_31 : decode cX5_put 31 = .ok (.isub, 1) := by decide +kernel
theorem dX5_put_32 : decode cX5_put 32 = .ok (.istore 4, 2) := by decide +kernel
theorem dX5_put_34 : decode cX5_put 34 = .ok (.iload 4, 2) := by decide +kernel
theorem dX5_put_36 : decode cX5_put 36 = .ok (.ifCond .lt 28, 3) := by decide +kernel
theorem dX5_put_39 : decode cX5_put 39 = .ok (.aload_n 0, 1) := by decide +kernel
theorem dX5_put_40 : decode cX5_put 40 = .ok (.getfield 32, 3) := by decide +kernel
theorem dX5_put_43 : decode cX5_put 43 = .ok (.lload_n 1, 1) := by decide +kernel
theorem dX5_put_44 : decode cX5_put 44 = .ok (.bipush 8, 2) := by decide +kernel
theorem dX5_put_46 : decode cX5_put 46 = .ok (.iload 4, 2) := by decide +kernel
theorem dX5_put_48 : decode cX5_put 48 = .ok (.imul, 1) := by decide +kernel
theorem dX5_put_49 : decode cX5_put 49 = .ok (.lushr, 1) := by decide +kernel
theorem dX5_put_50 : decode cX5_put 50 = .ok (.l2i, 1) := by decide +kernel
theorem dX5_put_51 : decode cX5_put 51 = .ok (.sipush 255, 3) := by decide +kernel
theorem dX5_put_54 : decode cX5_put 54 = .ok (.iand, 1) := by decide +kernel
theorem dX5_put_55 : decode cX5_put 55 = .ok (.invokevirtual 228, 3) := by decide +kernel
theorem dX5_put_58 : decode cX5_put 58 = .ok (.iinc 4 (-1), 3) := by decide +kernel
theorem dX5_put_61 : decode cX5_put 61 = .ok (.goto (-27), 3) := by decide +kernel
theorem dX5_put_64 : decode cX5_put 64 = .ok (.aload_n 0, 1) := by decide +kernel
theorem dX5_put_65 : decode cX5_put 65 = .ok (.getfield 32, 3) := by decide +kernel
theorem dX5_put_68 : decode cX5_put 68 = .ok (.getfield 181, 3) := by decide +kernel
theorem dX5_put_71 : decode cX5_put 71 = .ok (.ireturn, 1) := by decide +kernel
set_option maxRecDepth 20000 in
theorem ggX5_wipe_X2_empty : GoodIn wsX5_wipe wsX2_empty := goodIn_r _ [7, 8, 17, 18] (by decide +kernel) (by decide +kernel)
set_option maxRecDepth 20000 in
theorem gX5_wipe_X2_empty : GoodIn wsX5_wipe (wsV RX5 77 RX2 yX2_empty wsX2_empty) := goodIn_app (goodIn_of _ (by decide +kernel)) ggX5_wipe_X2_empty
theorem dX5_wipe_0 : decode cX5_wipe 0 = .ok (.aload_n 0, 1) := by decide +kernel
theorem dX5_wipe_1 : decode cX5_wipe 1 = .ok (.getfield 32, 3) := by decide +kernel
theorem dX5_wipe_4 : decode cX5_wipe 4 = .ok (.getfield 181, 3) := by decide +kernel
theorem dX5_wipe_7 : decode cX5_wipe 7 = .ok (.istore_n 1, 1) := by decide +kernel
theorem dX5_wipe_8 : decode cX5_wipe 8 = .ok (.aload_n 0, 1) := by decide +kernel
theorem dX5_wipe_9 : decode cX5_wipe 9 = .ok (.getfield 32, 3) := by decide +kernel
theorem dX5_wipe_12 : decode cX5_wipe 12 = .ok (.invokevirtual 77, 3) := by decide +kernel
theorem dX5_wipe_15 : decode cX5_wipe 15 = .ok (.iload_n 1, 1) := by decide +kernel
theorem dX5_wipe_16 : decode cX5_wipe 16 = .ok (.ireturn, 1) := by decide +kernel
set_option maxRecDepth 20000 in
theorem ggX5_fault_X2_firstFault : GoodIn wsX5_fault wsX2_firstFault := goodIn_r _ [6, 7, 8, 9, 10, 5, 11, 12, 13, 14, 15, 16, 17, 18, 19, 20, 29, 30] (by decide +kernel) (by decide +kernel)
set_option maxRecDepth 20000 in
theorem gX5_fault_X2_firstFault : GoodIn wsX5_fault (wsV RX5 66 RX2 yX2_firstFault wsX2_firstFault) := goodIn_app (goodIn_of _ (by decide +kernel)) ggX5_fault_X2_firstFault
theorem dX5_fault_0 : decode cX5_fault 0 = .ok (.aload_n 0, 1) := by decide +kernel
theorem dX5_fault_1 : decode cX5_fault 1 = .ok (.getfield 32, 3) := by decide +kernel
theorem dX5_fault_4 : decode cX5_fault 4 = .ok (.invokevirtual 66, 3) := by decide +kernel
theorem dX5_fault_7 : decode cX5_fault 7 = .ok (.ireturn, 1) := by decide +kernel
set_option maxRecDepth 20000 in
theorem ggX5_undo_X3_goBack : GoodIn wsX5_undo wsX3_goBack := goodIn_r _ [8, 9, 10, 11, 12, 13, 14, 15, 16, 17, 18, 19, 110, 111, 112, 113, 114, 115] (by decide +kernel) (by decide +kernel)
set_option maxRecDepth 20000 in
theorem gX5_undo_X3_goBack : GoodIn wsX5_undo (wsV RX5 231 RX3 yX3_goBack wsX3_goBack) := goodIn_app (goodIn_of _ (by decide +kernel)) ggX5_undo_X3_goBack
set_option maxRecDepth 20000 in
theorem ggX5_undo_X5_layPages : GoodIn wsX5_undo wsX5_layPages := goodIn_r _ [24, 25, 3, 26, 27, 28, 29, 30, 31, 32, 33, 34, 35, 36, 37, 38, 39, 40, 41, 42, 43, 44, 45, 46, 47, 48, 49, 50, 51, 52, 53, 54, 55, 56, 57, 58, 59, 60, 61, 62, 63, 64, 65, 66, 67, 68, 69, 70, 71, 72, 73, 74, 75, 76, 77, 78, 79, 80, 81, 82, 83, 84, 85, 86, 87, 88, 89, 90, 91, 14, 92, 19, 93, 94, 95, 96, 17, 97, 98, 99, 100, 101, 102, 103, 104, 105, 106, 107, 108, 109, 112, 113, 114, 115, 116, 117, 118, 119, 120, 121, 122, 123, 124, 125, 126, 127, 128, 129, 130] (by decide +kernel) (by decide +kernel)
set_option maxRecDepth 20000 in
theorem gX5_undo_X5_layPages : GoodIn wsX5_undo (wsV RX5 51 RX5 yX5_layPages wsX5_layPages) := goodIn_app (goodIn_of _ (by decide +kernel)) ggX5_undo_X5_layPages
theorem dX5_undo_0 : decode cX5_undo 0 = .ok (.aload_n 0, 1) := by decide +kernel
theorem dX5_undo_1 : decode cX5_undo 1 = .ok (.getfield 39, 3) := by decide +kernel
theorem dX5_undo_4 : decode cX5_undo 4 = .ok (.getfield 184, 3) := by decide +kernel
theorem dX5_undo_7 : decode cX5_undo 7 = .ok (.ifCond .ne 6, 3) := by decide +kernel
theorem dX5_undo_10 : decode cX5_undo 10 = .ok (.bipush (-5), 2) := by decide +kernel
theorem dX5_undo_12 : decode cX5_undo 12 = .ok (.ireturn, 1) := by decide +kernel
theorem dX5_undo_13 : decode cX5_undo 13 = .ok (.aload_n 0, 1) := by decide +kernel
theorem dX5_undo_14 : decode cX5_undo 14 = .ok (.getfield 39, 3) := by decide +kernel
theorem dX5_undo_17 : decode cX5_undo 17 = .ok (.aload_n 0, 1) := by decide +kernel
theorem dX5_undo_18 : decode cX5_undo 18 = .ok (.getfield 12, 3) := by decide +kernel
theorem dX5_undo_21 : decode cX5_undo 21 = .ok (.invokevirtual 231, 3) := by decide +kernel
theorem dX5_undo_24 : decode cX5_undo 24 = .ok (.aload_n 0, 1) := by decide +kernel
theorem dX5_undo_25 : decode cX5_undo 25 = .ok (.invokevirtual 51, 3) := by decide +kernel
theorem dX5_undo_28 : decode cX5_undo 28 = .ok (.aload_n 0, 1) := by decide +kernel
theorem dX5_undo_29 : decode cX5_undo 29 = .ok (.getfield 39, 3) := by decide +kernel
theorem dX5_undo_32 : decode cX5_undo 32 = .ok (.getfield 184, 3) := by decide +kernel
theorem dX5_undo_35 : decode cX5_undo 35 = .ok (.ireturn, 1) := by decide +kernel
set_option maxRecDepth 20000 in
theorem ggX5_save_X5_isSlot : GoodIn wsX5_save wsX5_isSlot := goodIn_r _ [8] (by decide +kernel) (by decide +kernel)
set_option maxRecDepth 20000 in
theorem gX5_save_X5_isSlot : GoodIn wsX5_save (va_wsS RX5 234 yX5_isSlot wsX5_isSlot) := goodIn_app (goodIn_of _ (by decide +kernel)) ggX5_save_X5_isSlot
set_option maxRecDepth 20000 in
theorem ggX5_save_X1_copyOf : GoodIn wsX5_save wsX1_copyOf := goodIn_r _ [13, 14, 15, 16, 17, 26, 27, 28, 29] (by decide +kernel) (by decide +kernel)
set_option maxRecDepth 20000 in
theorem gX5_save_X1_copyOf : GoodIn wsX5_save (wsV RX5 70 RX1 yX1_copyOf wsX1_copyOf) := goodIn_app (goodIn_of _ (by decide +kernel)) ggX5_save_X1_copyOf
theorem dX5_save_0 : decode cX5_save 0 = .ok (.iload_n 1, 1) := by decide +kernel
theorem dX5_save_1 : decode cX5_save 1 = .ok (.invokestatic 234, 3) := by decide +kernel
theorem dX5_save_4 : decode cX5_save 4 = .ok (.ifCond .ne 6, 3) := by decide +kernel
theorem dX5_save_7 : decode cX5_save 7 = .ok (.bipush (-2), 2) := by decide +kernel
theorem dX5_save_9 : decode cX5_save 9 = .ok (.ireturn, 1) := by decide +kernel
theorem dX5_save_10 : decode cX5_save 10 = .ok (.aload_n 0, 1) := by decide +kernel
theorem dX5_save_11 : decode cX5_save 11 = .ok (.getfield 43, 3) := by decide +kernel
theorem dX5_save_14 : decode cX5_save 14 = .ok (.iload_n 1, 1) := by decide +kernel
theorem dX5_save_15 : decode cX5_save 15 = .ok (.aaload, 1) := by decide +kernel
theorem dX5_save_16 : decode cX5_save 16 = .ok (.aload_n 0, 1) := by decide +kernel
theorem dX5_save_17 : decode cX5_save 17 = .ok (.getfield 12, 3) := by decide +kernel
theorem dX5_save_20 : decode cX5_save 20 = .ok (.invokevirtual 70, 3) := by decide +kernel
theorem dX5_save_23 : decode cX5_save 23 = .ok (.aload_n 0, 1) := by decide +kernel
theorem dX5_save_24 : decode cX5_save 24 = .ok (.getfield 47, 3) := by decide +kernel
theorem dX5_save_27 : decode cX5_save 27 = .ok (.iload_n 1, 1) := by decide +kernel
theorem dX5_save_28 : decode cX5_save 28 = .ok (.iconst 1, 1) := by decide +kernel
theorem dX5_save_29 : decode cX5_save 29 = .ok (.bastore, 1) := by decide +kernel
theorem dX5_save_30 : decode cX5_save 30 = .ok (.aload_n 0, 1) := by decide +kernel
theorem dX5_save_31 : decode cX5_save 31 = .ok (.getfield 12, 3) := by decide +kernel
theorem dX5_save_34 : decode cX5_save 34 = .ok (.getfield 80, 3) := by decide +kernel
theorem dX5_save_37 : decode cX5_save 37 = .ok (.ireturn, 1) := by decide +kernel
set_option maxRecDepth 20000 in
theorem ggX5_restore_X5_isSlot : GoodIn wsX5_restore wsX5_isSlot := goodIn_r _ [9] (by decide +kernel) (by decide +kernel)
set_option maxRecDepth 20000 in
theorem gX5_restore_X5_isSlot : GoodIn wsX5_restore (va_wsS RX5 234 yX5_isSlot wsX5_isSlot) := goodIn_app (goodIn_of _ (by decide +kernel)) ggX5_restore_X5_isSlot
set_option maxRecDepth 20000 in
theorem ggX5_restore_X3_remember : GoodIn wsX5_restore wsX3_remember := goodIn_r _ [14, 15, 16, 17, 18, 19, 13, 20, 21, 22, 23, 24, 25, 26, 27, 28, 29, 124, 125, 120, 121, 122, 123] (by decide +kernel) (by decide +kernel)
set_option maxRecDepth 20000 in
theorem gX5_restore_X3_remember : GoodIn wsX5_restore (wsV RX5 58 RX3 yX3_remember wsX3_remember) := goodIn_app (goodIn_of _ (by decide +kernel)) ggX5_restore_X3_remember
set_option maxRecDepth 20000 in
theorem ggX5_restore_X1_copyOf : GoodIn wsX5_restore wsX1_copyOf := goodIn_r _ [25, 26, 27, 28, 29, 120, 121, 122, 123] (by decide +kernel) (by decide +kernel)
set_option maxRecDepth 20000 in
theorem gX5_restore_X1_copyOf : GoodIn wsX5_restore (wsV RX5 70 RX1 yX1_copyOf wsX1_copyOf) := goodIn_app (goodIn_of _ (by decide +kernel)) ggX5_restore_X1_copyOf
set_option maxRecDepth 20000 in
theorem ggX5_restore_X5_layPages : GoodIn wsX5_restore wsX5_layPages := goodIn_r _ [34, 35, 3, 36, 37, 38, 39, 40, 41, 42, 43, 44, 45, 46, 47, 48, 49, 50, 51, 52, 53, 54, 55, 56, 57, 58, 59, 60, 61, 62, 63, 64, 65, 66, 67, 68, 69, 70, 71, 72, 73, 74, 75, 76, 77, 78, 79, 80, 81, 82, 83, 84, 85, 86, 87, 88, 89, 90, 91, 92, 93, 94, 95, 96, 97, 98, 99, 100, 101, 24, 102, 29, 103, 104, 105, 106, 27, 107, 108, 109, 110, 111, 112, 113, 114, 115, 116, 117, 118, 119, 120, 121, 122, 123, 126, 127, 128, 129, 130, 131, 132, 133, 134, 135, 136, 137, 138, 139, 140] (by decide +kernel) (by decide +kernel)
set_option maxRecDepth 20000 in
theorem gX5_restore_X5_layPages : GoodIn wsX5_restore (wsV RX5 51 RX5 yX5_layPages wsX5_layPages) := goodIn_app (goodIn_of _ (by decide +kernel)) ggX5_restore_X5_layPages
theorem dX5_restore_0 : decode cX5_restore 0 = .ok (.iload_n 1, 1) := by decide +kernel
theorem dX5_restore_1 : decode cX5_restore 1 = .ok (.invokestatic 234, 3) := by decide +kernel
theorem dX5_restore_4 : decode cX5_restore 4 = .ok (.ifCond .ne 6, 3) := by decide +kernel
theorem dX5_restore_7 : decode cX5_restore 7 = .ok (.bipush (-2), 2) := by decide +kernel
theorem dX5_restore_9 : decode cX5_restore 9 = .ok (.ireturn, 1) := by decide +kernel
theorem dX5_restore_10 : decode cX5_restore 10 = .ok (.aload_n 0, 1) := by decide +kernel
theorem dX5_restore_11 : decode cX5_restore 11 = .ok (.getfield 47, 3) := by decide +kernel
theorem dX5_restore_14 : decode cX5_restore 14 = .ok (.iload_n 1, 1) := by decide +kernel
theorem dX5_restore_15 : decode cX5_restore 15 = .ok (.baload, 1) := by decide +kernel
theorem dX5_restore_16 : decode cX5_restore 16 = .ok (.ifCond .ne 6, 3) := by decide +kernel
theorem dX5_restore_19 : decode cX5_restore 19 = .ok (.bipush (-5), 2) := by decide +kernel
theorem dX5_restore_21 : decode cX5_restore 21 = .ok (.ireturn, 1) := by decide +kernel
theorem dX5_restore_22 : decode cX5_restore 22 = .ok (.aload_n 0, 1) := by decide +kernel
theorem dX5_restore_23 : decode cX5_restore 23 = .ok (.getfield 39, 3) := by decide +kernel
theorem dX5_restore_26 : decode cX5_restore 26 = .ok (.aload_n 0, 1) := by decide +kernel
theorem dX5_restore_27 : decode cX5_restore 27 = .ok (.getfield 12, 3) := by decide +kernel
theorem dX5_restore_30 : decode cX5_restore 30 = .ok (.invokevirtual 58, 3) := by decide +kernel
theorem dX5_restore_33 : decode cX5_restore 33 = .ok (.aload_n 0, 1) := by decide +kernel
theorem dX5_restore_34 : decode cX5_restore 34 = .ok (.getfield 12, 3) := by decide +kernel
theorem dX5_restore_37 : decode cX5_restore 37 = .ok (.aload_n 0, 1) := by decide +kernel
theorem dX5_restore_38 : decode cX5_restore 38 = .ok (.getfield 43, 3) := by decide +kernel
theorem dX5_restore_41 : decode cX5_restore 41 = .ok (.iload_n 1, 1) := by decide +kernel
theorem dX5_restore_42 : decode cX5_restore 42 = .ok (.aaload, 1) := by decide +kernel
theorem dX5_restore_43 : decode cX5_restore 43 = .ok (.invokevirtual 70, 3) := by decide +kernel
theorem dX5_restore_46 : decode cX5_restore 46 = .ok (.aload_n 0, 1) := by decide +kernel
theorem dX5_restore_47 : decode cX5_restore 47 = .ok (.invokevirtual 51, 3) := by decide +kernel
theorem dX5_restore_50 : decode cX5_restore 50 = .ok (.aload_n 0, 1) := by decide +kernel
theorem dX5_restore_51 : decode cX5_restore 51 = .ok (.getfield 12, 3) := by decide +kernel
theorem dX5_restore_54 : decode cX5_restore 54 = .ok (.getfield 80, 3) := by decide +kernel
theorem dX5_restore_57 : decode cX5_restore 57 = .ok (.ireturn, 1) := by decide +kernel
set_option maxRecDepth 20000 in
theorem ggX5_layPages_X0_lay : GoodIn wsX5_layPages wsX0_lay := goodIn_r _ [8, 9, 10, 11, 12, 13, 14, 15, 16, 7, 17, 18, 19, 20, 21, 22, 23, 24, 25, 26, 27, 28, 29, 30, 31, 32, 33, 34, 35, 36, 37, 38, 39, 40, 41, 42, 43, 44, 45, 46, 47, 48, 49, 50, 51, 52, 53, 54, 55, 56, 57, 58, 59, 60, 61, 62, 63, 64, 65, 66, 67, 68, 69, 70, 71, 72, 73, 74, 75, 76, 77, 78, 79, 80, 81, 94, 95, 96, 97, 98, 99, 100, 101, 102, 103, 104, 105, 106, 107, 108, 90, 91, 92, 93] (by decide +kernel) (by decide +kernel)
set_option maxRecDepth 20000 in
theorem gX5_layPages_X0_lay : GoodIn wsX5_layPages (wsV RX5 212 RX0 yX0_lay wsX0_lay) := goodIn_app (goodIn_of _ (by decide +kernel)) ggX5_layPages_X0_lay
theorem dX5_layPages_0 : decode cX5_layPages 0 = .ok (.aload_n 0, 1) := by decide +kernel
theorem dX5_layPages_1 : decode cX5_layPages 1 = .ok (.getfield 22, 3) := by decide +kernel
theorem dX5_layPages_4 : decode cX5_layPages 4 = .ok (.aload_n 0, 1) := by decide +kernel
theorem dX5_layPages_5 : decode cX5_layPages 5 = .ok (.getfield 12, 3) := by decide +kernel
theorem dX5_layPages_8 : decode cX5_layPages 8 = .ok (.aload_n 0, 1) := by decide +kernel
theorem dX5_layPages_9 : decode cX5_layPages 9 = .ok (.getfield 12, 3) := by decide +kernel
theorem dX5_layPages_12 : decode cX5_layPages 12 = .ok (.getfield 62, 3) := by decide +kernel
theorem dX5_layPages_15 : decode cX5_layPages 15 = .ok (.iconst 0, 1) := by decide +kernel
theorem dX5_layPages_16 : decode cX5_layPages 16 = .ok (.iaload, 1) := by decide +kernel
theorem dX5_layPages_17 : decode cX5_layPages 17 = .ok (.aload_n 0, 1) := by decide +kernel
theorem dX5_layPages_18 : decode cX5_layPages 18 = .ok (.getfield 12, 3) := by decide +kernel
theorem dX5_layPages_21 : decode cX5_layPages 21 = .ok (.getfield 62, 3) := by decide +kernel
theorem dX5_layPages_24 : decode cX5_layPages 24 = .ok (.iconst 1, 1) := by decide +kernel
theorem dX5_layPages_25 : decode cX5_layPages 25 = .ok (.iaload, 1) := by decide +kernel
theorem dX5_layPages_26 : decode cX5_layPages 26 = .ok (.aload_n 0, 1) := by decide +kernel
theorem dX5_layPages_27 : decode cX5_layPages 27 = .ok (.getfield 12, 3) := by decide +kernel
theorem dX5_layPages_30 : decode cX5_layPages 30 = .ok (.getfield 62, 3) := by decide +kernel
theorem dX5_layPages_33 : decode cX5_layPages 33 = .ok (.iconst 2, 1) := by decide +kernel
theorem dX5_layPages_34 : decode cX5_layPages 34 = .ok (.iaload, 1) := by decide +kernel
theorem dX5_layPages_35 : decode cX5_layPages 35 = .ok (.invokevirtual 212, 3) := by decide +kernel
theorem dX5_layPages_38 : decode cX5_layPages 38 = .ok (.return_, 1) := by decide +kernel
set_option maxRecDepth 20000 in
theorem ggX5_layTrial_X0_lay : GoodIn wsX5_layTrial wsX0_lay := goodIn_r _ [8, 9, 10, 11, 12, 13, 14, 15, 16, 7, 17, 18, 19, 20, 21, 22, 23, 24, 25, 26, 27, 28, 29, 30, 31, 32, 33, 34, 35, 36, 37, 38, 39, 40, 41, 42, 43, 44, 45, 46, 47, 48, 49, 50, 51, 52, 53, 54, 55, 56, 57, 58, 59, 60, 61, 62, 63, 64, 65, 66, 67, 68, 69, 70, 71, 72, 73, 74, 75, 76, 77, 78, 79, 80, 81, 94, 95, 96, 97, 98, 99, 100, 101, 102, 103, 104, 105, 106, 107, 108, 90, 91, 92, 93] (by decide +kernel) (by decide +kernel)
set_option maxRecDepth 20000 in
theorem gX5_layTrial_X0_lay : GoodIn wsX5_layTrial (wsV RX5 212 RX0 yX0_lay wsX0_lay) := goodIn_app (goodIn_of _ (by decide +kernel)) ggX5_layTrial_X0_lay
theorem dX5_layTrial_0 : decode cX5_layTrial 0 = .ok (.aload_n 0, 1) := by decide +kernel
theorem dX5_layTrial_1 : decode cX5_layTrial 1 = .ok (.getfield 26, 3) := by decide +kernel
theorem dX5_layTrial_4 : decode cX5_layTrial 4 = .ok (.aload_n 0, 1) := by decide +kernel
theorem dX5_layTrial_5 : decode cX5_layTrial 5 = .ok (.getfield 12, 3) := by decide +kernel
theorem dX5_layTrial_8 : decode cX5_layTrial 8 = .ok (.iload_n 1, 1) := by decide +kernel
theorem dX5_layTrial_9 : decode cX5_layTrial 9 = .ok (.aload_n 0, 1) := by decide +kernel
theorem dX5_layTrial_10 : decode cX5_layTrial 10 = .ok (.getfield 12, 3) := by decide +kernel
theorem dX5_layTrial_13 : decode cX5_layTrial 13 = .ok (.getfield 62, 3) := by decide +kernel
theorem dX5_layTrial_16 : decode cX5_layTrial 16 = .ok (.iconst 1, 1) := by decide +kernel
theorem dX5_layTrial_17 : decode cX5_layTrial 17 = .ok (.iaload, 1) := by decide +kernel
theorem dX5_layTrial_18 : decode cX5_layTrial 18 = .ok (.aload_n 0, 1) := by decide +kernel
theorem dX5_layTrial_19 : decode cX5_layTrial 19 = .ok (.getfield 12, 3) := by decide +kernel
theorem dX5_layTrial_22 : decode cX5_layTrial 22 = .ok (.getfield 62, 3) := by decide +kernel
theorem dX5_layTrial_25 : decode cX5_layTrial 25 = .ok (.iconst 2, 1) := by decide +kernel
theorem dX5_layTrial_26 : decode cX5_layTrial 26 = .ok (.iaload, 1) := by decide +kernel
theorem dX5_layTrial_27 : decode cX5_layTrial 27 = .ok (.invokevirtual 212, 3) := by decide +kernel
theorem dX5_layTrial_30 : decode cX5_layTrial 30 = .ok (.return_, 1) := by decide +kernel
theorem dX5_isSettingValue_0 : decode cX5_isSettingValue 0 = .ok (.iload_n 0, 1) := by decide +kernel
theorem dX5_isSettingValue_1 : decode cX5_isSettingValue 1 = .ok (.ifCond .lt 30, 3) := by decide +kernel
theorem dX5_isSettingValue_4 : decode cX5_isSettingValue 4 = .ok (.iload_n 0, 1) := by decide +kernel
theorem dX5_isSettingValue_5 : decode cX5_isSettingValue 5 = .ok (.iconst 3, 1) := by decide +kernel
theorem dX5_isSettingValue_6 : decode cX5_isSettingValue 6 = .ok (.if_icmp .ge 25, 3) := by decide +kernel
theorem dX5_isSettingValue_9 : decode cX5_isSettingValue 9 = .ok (.iload_n 1, 1) := by decide +kernel
theorem dX5_isSettingValue_10 : decode cX5_isSettingValue 10 = .ok (.getstatic 216, 3) := by decide +kernel
theorem dX5_isSettingValue_13 : decode cX5_isSettingValue 13 = .ok (.iload_n 0, 1) := by decide +kernel
theorem dX5_isSettingValue_14 : decode cX5_isSettingValue 14 = .ok (.iaload, 1) := by decide +kernel
theorem dX5_isSettingValue_15 : decode cX5_isSettingValue 15 = .ok (.if_icmp .lt 16, 3) := by decide +kernel
theorem dX5_isSettingValue_18 : decode cX5_isSettingValue 18 = .ok (.iload_n 1, 1) := by decide +kernel
theorem dX5_isSettingValue_19 : decode cX5_isSettingValue 19 = .ok (.getstatic 219, 3) := by decide +kernel
theorem dX5_isSettingValue_22 : decode cX5_isSettingValue 22 = .ok (.iload_n 0, 1) := by decide +kernel
theorem dX5_isSettingValue_23 : decode cX5_isSettingValue 23 = .ok (.iaload, 1) := by decide +kernel
theorem dX5_isSettingValue_24 : decode cX5_isSettingValue 24 = .ok (.if_icmp .gt 7, 3) := by decide +kernel
theorem dX5_isSettingValue_27 : decode cX5_isSettingValue 27 = .ok (.iconst 1, 1) := by decide +kernel
theorem dX5_isSettingValue_28 : decode cX5_isSettingValue 28 = .ok (.goto 4, 3) := by decide +kernel
theorem dX5_isSettingValue_31 : decode cX5_isSettingValue 31 = .ok (.iconst 0, 1) := by decide +kernel
theorem dX5_isSettingValue_32 : decode cX5_isSettingValue 32 = .ok (.ireturn, 1) := by decide +kernel
theorem dX5_isSlot_0 : decode cX5_isSlot 0 = .ok (.iload_n 0, 1) := by decide +kernel
theorem dX5_isSlot_1 : decode cX5_isSlot 1 = .ok (.ifCond .lt 12, 3) := by decide +kernel
theorem dX5_isSlot_4 : decode cX5_isSlot 4 = .ok (.iload_n 0, 1) := by decide +kernel
theorem dX5_isSlot_5 : decode cX5_isSlot 5 = .ok (.iconst 2, 1) := by decide +kernel
theorem dX5_isSlot_6 : decode cX5_isSlot 6 = .ok (.if_icmp .ge 7, 3) := by decide +kernel
theorem dX5_isSlot_9 : decode cX5_isSlot 9 = .ok (.iconst 1, 1) := by decide +kernel
theorem dX5_isSlot_10 : decode cX5_isSlot 10 = .ok (.goto 4, 3) := by decide +kernel
theorem dX5_isSlot_13 : decode cX5_isSlot 13 = .ok (.iconst 0, 1) := by decide +kernel
theorem dX5_isSlot_14 : decode cX5_isSlot 14 = .ok (.ireturn, 1) := by decide +kernel
theorem dX5_codeOrNone_0 : decode cX5_codeOrNone 0 = .ok (.iload_n 0, 1) := by decide +kernel
theorem dX5_codeOrNone_1 : decode cX5_codeOrNone 1 = .ok (.ifCond .ne 8, 3) := by decide +kernel
theorem dX5_codeOrNone_4 : decode cX5_codeOrNone 4 = .ok (.bipush (-6), 2) := by decide +kernel
theorem dX5_codeOrNone_6 : decode cX5_codeOrNone 6 = .ok (.goto 4, 3) := by decide +kernel
theorem dX5_codeOrNone_9 : decode cX5_codeOrNone 9 = .ok (.iload_n 0, 1) := by decide +kernel
theorem dX5_codeOrNone_10 : decode cX5_codeOrNone 10 = .ok (.ireturn, 1) := by decide +kernel
theorem dX5_charactersIn_0 : decode cX5_charactersIn 0 = .ok (.iconst 0, 1) := by decide +kernel
theorem dX5_charactersIn_1 : decode cX5_charactersIn 1 = .ok (.istore_n 2, 1) := by decide +kernel
theorem dX5_charactersIn_2 : decode cX5_charactersIn 2 = .ok (.iload_n 2, 1) := by decide +kernel
theorem dX5_charactersIn_3 : decode cX5_charactersIn 3 = .ok (.bipush 8, 2) := by decide +kernel
theorem dX5_charactersIn_5 : decode cX5_charactersIn 5 = .ok (.if_icmp .ge 51, 3) := by decide +kernel
theorem dX5_charactersIn_8 : decode cX5_charactersIn 8 = .ok (.lload_n 0, 1) := by decide +kernel
theorem dX5_charactersIn_9 : decode cX5_charactersIn 9 = .ok (.bipush 8, 2) := by decide +kernel
theorem dX5_charactersIn_11 : decode cX5_charactersIn 11 = .ok (.iload_n 2, 1) := by decide +kernel
theorem dX5_charactersIn_12 : decode cX5_charactersIn 12 = .ok (.imul, 1) := by decide +kernel
theorem dX5_charactersIn_13 : decode cX5_charactersIn 13 = .ok (.lushr, 1) := by decide +kernel
theorem dX5_charactersIn_14 : decode cX5_charactersIn 14 = .ok (.lstore_n 3, 1) := by decide +kernel
theorem dX5_charactersIn_15 : decode cX5_charactersIn 15 = .ok (.lload_n 3, 1) := by decide +kernel
theorem dX5_charactersIn_16 : decode cX5_charactersIn 16 = .ok (.lconst 0, 1) := by decide +kernel
theorem dX5_charactersIn_17 : decode cX5_charactersIn 17 = .ok (.lcmp, 1) := by decide +kernel
theorem dX5_charactersIn_18 : decode cX5_charactersIn 18 = .ok (.ifCond .ne 5, 3) := by decide +kernel
theorem dX5_charactersIn_21 : decode cX5_charactersIn 21 = .ok (.iload_n 2, 1) := by decide +kernel
theorem dX5_charactersIn_22 : decode cX5_charactersIn 22 = .ok (.ireturn, 1) := by decide +kernel
theorem dX5_charactersIn_23 : decode cX5_charactersIn 23 = .ok (.lload_n 3, 1) := by decide +kernel
theorem dX5_charactersIn_24 : decode cX5_charactersIn 24 = .ok (.ldc2_w 237, 3) := by decide +kernel
theorem dX5_charactersIn_27 : decode cX5_charactersIn 27 = .ok (.land, 1) := by decide +kernel
theorem dX5_charactersIn_28 : decode cX5_charactersIn 28 = .ok (.lstore 5, 2) := by decide +kernel
theorem dX5_charactersIn_30 : decode cX5_charactersIn 30 = .ok (.lload 5, 2) := by decide +kernel
theorem dX5_charactersIn_32 : decode cX5_charactersIn 32 = .ok (.ldc2_w 239, 3) := by decide +kernel
theorem dX5_charactersIn_35 : decode cX5_charactersIn 35 = .ok (.lcmp, 1) := by decide +kernel
theorem dX5_charactersIn_36 : decode cX5_charactersIn 36 = .ok (.ifCond .lt 12, 3) := by decide +kernel
theorem dX5_charactersIn_39 : decode cX5_charactersIn 39 = .ok (.lload 5, 2) := by decide +kernel
theorem dX5_charactersIn_41 : decode cX5_charactersIn 41 = .ok (.ldc2_w 241, 3) := by decide +kernel
theorem dX5_charactersIn_44 : decode cX5_charactersIn 44 = .ok (.lcmp, 1) := by decide +kernel
theorem dX5_charactersIn_45 : decode cX5_charactersIn 45 = .ok (.ifCond .le 5, 3) := by decide +kernel
theorem dX5_charactersIn_48 : decode cX5_charactersIn 48 = .ok (.iconst 0, 1) := by decide +kernel
theorem dX5_charactersIn_49 : decode cX5_charactersIn 49 = .ok (.ireturn, 1) := by decide +kernel
theorem dX5_charactersIn_50 : decode cX5_charactersIn 50 = .ok (.iinc 2 1, 3) := by decide +kernel
theorem dX5_charactersIn_53 : decode cX5_charactersIn 53 = .ok (.goto (-51), 3) := by decide +kernel
theorem dX5_charactersIn_56 : decode cX5_charactersIn 56 = .ok (.bipush 8, 2) := by decide +kernel
theorem dX5_charactersIn_58 : decode cX5_charactersIn 58 = .ok (.ireturn, 1) := by decide +kernel
theorem dX6_init_0 : decode cX6_init 0 = .ok (.aload_n 0, 1) := by decide +kernel
theorem dX6_init_1 : decode cX6_init 1 = .ok (.invokespecial 1, 3) := by decide +kernel
theorem dX6_init_4 : decode cX6_init 4 = .ok (.aload_n 0, 1) := by decide +kernel
theorem dX6_init_5 : decode cX6_init 5 = .ok (.bipush 64, 2) := by decide +kernel
theorem dX6_init_7 : decode cX6_init 7 = .ok (.newarray .long, 2) := by decide +kernel
theorem dX6_init_9 : decode cX6_init 9 = .ok (.putfield 7, 3) := by decide +kernel
theorem dX6_init_12 : decode cX6_init 12 = .ok (.aload_n 0, 1) := by decide +kernel
theorem dX6_init_13 : decode cX6_init 13 = .ok (.bipush 64, 2) := by decide +kernel
theorem dX6_init_15 : decode cX6_init 15 = .ok (.newarray .long, 2) := by decide +kernel
theorem dX6_init_17 : decode cX6_init 17 = .ok (.putfield 13, 3) := by decide +kernel
theorem dX6_init_20 : decode cX6_init 20 = .ok (.aload_n 0, 1) := by decide +kernel
theorem dX6_init_21 : decode cX6_init 21 = .ok (.sipush 384, 3) := by decide +kernel
theorem dX6_init_24 : decode cX6_init 24 = .ok (.newarray .long, 2) := by decide +kernel
theorem dX6_init_26 : decode cX6_init 26 = .ok (.putfield 16, 3) := by decide +kernel
theorem dX6_init_29 : decode cX6_init 29 = .ok (.aload_n 0, 1) := by decide +kernel
theorem dX6_init_30 : decode cX6_init 30 = .ok (.sipush 128, 3) := by decide +kernel
theorem dX6_init_33 : decode cX6_init 33 = .ok (.newarray .long, 2) := by decide +kernel
theorem dX6_init_35 : decode cX6_init 35 = .ok (.putfield 19, 3) := by decide +kernel
theorem dX6_init_38 : decode cX6_init 38 = .ok (.aload_n 0, 1) := by decide +kernel
theorem dX6_init_39 : decode cX6_init 39 = .ok (.iconst 2, 1) := by decide +kernel
theorem dX6_init_40 : decode cX6_init 40 = .ok (.newarray .boolean, 2) := by decide +kernel
theorem dX6_init_42 : decode cX6_init 42 = .ok (.putfield 22, 3) := by decide +kernel
theorem dX6_init_45 : decode cX6_init 45 = .ok (.aload_n 0, 1) := by decide +kernel
theorem dX6_init_46 : decode cX6_init 46 = .ok (.bipush 60, 2) := by decide +kernel
theorem dX6_init_48 : decode cX6_init 48 = .ok (.newarray .int, 2) := by decide +kernel
theorem dX6_init_50 : decode cX6_init 50 = .ok (.putfield 26, 3) := by decide +kernel
theorem dX6_init_53 : decode cX6_init 53 = .ok (.aload_n 0, 1) := by decide +kernel
theorem dX6_init_54 : decode cX6_init 54 = .ok (.bipush 20, 2) := by decide +kernel
theorem dX6_init_56 : decode cX6_init 56 = .ok (.newarray .long, 2) := by decide +kernel
theorem dX6_init_58 : decode cX6_init 58 = .ok (.putfield 30, 3) := by decide +kernel
theorem dX6_init_61 : decode cX6_init 61 = .ok (.aload_n 0, 1) := by decide +kernel
theorem dX6_init_62 : decode cX6_init 62 = .ok (.bipush 20, 2) := by decide +kernel
theorem dX6_init_64 : decode cX6_init 64 = .ok (.newarray .long, 2) := by decide +kernel
theorem dX6_init_66 : decode cX6_init 66 = .ok (.putfield 33, 3) := by decide +kernel
theorem dX6_init_69 : decode cX6_init 69 = .ok (.aload_n 0, 1) := by decide +kernel
theorem dX6_init_70 : decode cX6_init 70 = .ok (.sipush 400, 3) := by decide +kernel
theorem dX6_init_73 : decode cX6_init 73 = .ok (.newarray .int, 2) := by decide +kernel
theorem dX6_init_75 : decode cX6_init 75 = .ok (.putfield 36, 3) := by decide +kernel
theorem dX6_init_78 : decode cX6_init 78 = .ok (.aload_n 0, 1) := by decide +kernel
theorem dX6_init_79 : decode cX6_init 79 = .ok (.sipush 400, 3) := by decide +kernel
theorem dX6_init_82 : decode cX6_init 82 = .ok (.newarray .int, 2) := by decide +kernel
theorem dX6_init_84 : decode cX6_init 84 = .ok (.putfield 39, 3) := by decide +kernel
theorem dX6_init_87 : decode cX6_init 87 = .ok (.aload_n 0, 1) := by decide +kernel
theorem dX6_init_88 : decode cX6_init 88 = .ok (.sipush 400, 3) := by decide +kernel
theorem dX6_init_91 : decode cX6_init 91 = .ok (.newarray .int, 2) := by decide +kernel
theorem dX6_init_93 : decode cX6_init 93 = .ok (.putfield 42, 3) := by decide +kernel
theorem dX6_init_96 : decode cX6_init 96 = .ok (.aload_n 0, 1) := by decide +kernel
theorem dX6_init_97 : decode cX6_init 97 = .ok (.sipush 400, 3) := by decide +kernel
theorem dX6_init_100 : decode cX6_init 100 = .ok (.newarray .int, 2) := by decide +kernel
theorem dX6_init_102 : decode cX6_init 102 = .ok (.putfield 45, 3) := by decide +kernel
theorem dX6_init_105 : decode cX6_init 105 = .ok (.aload_n 0, 1) := by decide +kernel
theorem dX6_init_106 : decode cX6_init 106 = .ok (.bipush 30, 2) := by decide +kernel
theorem dX6_init_108 : decode cX6_init 108 = .ok (.newarray .int, 2) := by decide +kernel
theorem dX6_init_110 : decode cX6_init 110 = .ok (.putfield 48, 3) := by decide +kernel
theorem dX6_init_113 : decode cX6_init 113 = .ok (.aload_n 0, 1) := by decide +kernel
theorem dX6_init_114 : decode cX6_init 114 = .ok (.bipush 30, 2) := by decide +kernel
theorem dX6_init_116 : decode cX6_init 116 = .ok (.newarray .int, 2) := by decide +kernel
theorem dX6_init_118 : decode cX6_init 118 = .ok (.putfield 51, 3) := by decide +kernel
theorem dX6_init_121 : decode cX6_init 121 = .ok (.aload_n 0, 1) := by decide +kernel
theorem dX6_init_122 : decode cX6_init 122 = .ok (.bipush 30, 2) := by decide +kernel
theorem dX6_init_124 : decode cX6_init 124 = .ok (.newarray .int, 2) := by decide +kernel
theorem dX6_init_126 : decode cX6_init 126 = .ok (.putfield 54, 3) := by decide +kernel
theorem dX6_init_129 : decode cX6_init 129 = .ok (.aload_n 0, 1) := by decide +kernel
theorem dX6_init_130 : decode cX6_init 130 = .ok (.getfield 7, 3) := by decide +kernel
theorem dX6_init_133 : decode cX6_init 133 = .ok (.iconst 0, 1) := by decide +kernel
theorem dX6_init_134 : decode cX6_init 134 = .ok (.ldc2_w 57, 3) := by decide +kernel
theorem dX6_init_137 : decode cX6_init 137 = .ok (.lastore, 1) := by decide +kernel
theorem dX6_init_138 : decode cX6_init 138 = .ok (.aload_n 0, 1) := by decide +kernel
theorem dX6_init_139 : decode cX6_init 139 = .ok (.getfield 7, 3) := by decide +kernel
theorem dX6_init_142 : decode cX6_init 142 = .ok (.iconst 1, 1) := by decide +kernel
theorem dX6_init_143 : decode cX6_init 143 = .ok (.ldc2_w 57, 3) := by decide +kernel
theorem dX6_init_146 : decode cX6_init 146 = .ok (.lastore, 1) := by decide +kernel
theorem dX6_init_147 : decode cX6_init 147 = .ok (.aload_n 0, 1) := by decide +kernel
theorem dX6_init_148 : decode cX6_init 148 = .ok (.getfield 7, 3) := by decide +kernel
theorem dX6_init_151 : decode cX6_init 151 = .ok (.iconst 2, 1) := by decide +kernel
theorem dX6_init_152 : decode cX6_init 152 = .ok (.ldc2_w 59, 3) := by decide +kernel
theorem dX6_init_155 : decode cX6_init 155 = .ok (.lastore, 1) := by decide +kernel
theorem dX6_init_156 : decode cX6_init 156 = .ok (.return_, 1) := by decide +kernel
theorem dX6_in_0 : decode cX6_in 0 = .ok (.lload_n 0, 1) := by decide +kernel
theorem dX6_in_1 : decode cX6_in 1 = .ok (.lload_n 2, 1) := by decide +kernel
theorem dX6_in_2 : decode cX6_in 2 = .ok (.lcmp, 1) := by decide +kernel
theorem dX6_in_3 : decode cX6_in 3 = .ok (.ifCond .lt 14, 3) := by decide +kernel
theorem dX6_in_6 : decode cX6_in 6 = .ok (.lload_n 0, 1) := by decide +kernel
theorem dX6_in_7 : decode cX6_in 7 = .ok (.lload 4, 2) := by decide +kernel
theorem dX6_in_9 : decode cX6_in 9 = .ok (.lcmp, 1) := by decide +kernel
theorem dX6_in_10 : decode cX6_in 10 = .ok (.ifCond .gt 7, 3) := by decide +kernel
theorem dX6_in_13 : decode cX6_in 13 = .ok (.iconst 1, 1) := by decide +kernel
theorem dX6_in_14 : decode cX6_in 14 = .ok (.goto 4, 3) := by decide +kernel
theorem dX6_in_17 : decode cX6_in 17 = .ok (.iconst 0, 1) := by decide +kernel
theorem dX6_in_18 : decode cX6_in 18 = .ok (.ireturn, 1) := by decide +kernel
theorem dX6_many_0 : decode cX6_many 0 = .ok (.aload_n 0, 1) := by decide +kernel
theorem dX6_many_1 : decode cX6_many 1 = .ok (.getfield 7, 3) := by decide +kernel
theorem dX6_many_4 : decode cX6_many 4 = .ok (.iconst 3, 1) := by decide +kernel
theorem dX6_many_5 : decode cX6_many 5 = .ok (.laload, 1) := by decide +kernel
theorem dX6_many_6 : decode cX6_many 6 = .ok (.l2i, 1) := by decide +kernel
theorem dX6_many_7 : decode cX6_many 7 = .ok (.ireturn, 1) := by decide +kernel
set_option maxRecDepth 20000 in
theorem ggX6_isEntry_X6_in : GoodIn wsX6_isEntry wsX6_in := goodIn_r _ [5] (by decide +kernel) (by decide +kernel)
set_option maxRecDepth 20000 in
theorem gX6_isEntry_X6_in : GoodIn wsX6_isEntry (va_wsS RX6 61 yX6_in wsX6_in) := goodIn_app (goodIn_of _ (by decide +kernel)) ggX6_isEntry_X6_in
theorem dX6_isEntry_0 : decode cX6_isEntry 0 = .ok (.iload_n 1, 1) := by decide +kernel
theorem dX6_isEntry_1 : decode cX6_isEntry 1 = .ok (.i2l, 1) := by decide +kernel
theorem dX6_isEntry_2 : decode cX6_isEntry 2 = .ok (.lconst 0, 1) := by decide +kernel
theorem dX6_isEntry_3 : decode cX6_isEntry 3 = .ok (.aload_n 0, 1) := by decide +kernel
theorem dX6_isEntry_4 : decode cX6_isEntry 4 = .ok (.getfield 7, 3) := by decide +kernel
theorem dX6_isEntry_7 : decode cX6_isEntry 7 = .ok (.iconst 3, 1) := by decide +kernel
theorem dX6_isEntry_8 : decode cX6_isEntry 8 = .ok (.laload, 1) := by decide +kernel
theorem dX6_isEntry_9 : decode cX6_isEntry 9 = .ok (.lconst 1, 1) := by decide +kernel
theorem dX6_isEntry_10 : decode cX6_isEntry 10 = .ok (.lsub, 1) := by decide +kernel
theorem dX6_isEntry_11 : decode cX6_isEntry 11 = .ok (.invokestatic 61, 3) := by decide +kernel
theorem dX6_isEntry_14 : decode cX6_isEntry 14 = .ok (.ireturn, 1) := by decide +kernel
theorem dX6_lines_0 : decode cX6_lines 0 = .ok (.aload_n 0, 1) := by decide +kernel
theorem dX6_lines_1 : decode cX6_lines 1 = .ok (.getfield 7, 3) := by decide +kernel
theorem dX6_lines_4 : decode cX6_lines 4 = .ok (.bipush 34, 2) := by decide +kernel
theorem dX6_lines_6 : decode cX6_lines 6 = .ok (.iload_n 1, 1) := by decide +kernel
theorem dX6_lines_7 : decode cX6_lines 7 = .ok (.iadd, 1) := by decide +kernel
theorem dX6_lines_8 : decode cX6_lines 8 = .ok (.laload, 1) := by decide +kernel
theorem dX6_lines_9 : decode cX6_lines 9 = .ok (.l2i, 1) := by decide +kernel
theorem dX6_lines_10 : decode cX6_lines 10 = .ok (.ireturn, 1) := by decide +kernel
theorem dX6_copyState_0 : decode cX6_copyState 0 = .ok (.iconst 0, 1) := by decide +kernel
theorem dX6_copyState_1 : decode cX6_copyState 1 = .ok (.istore 4, 2) := by decide +kernel
theorem dX6_copyState_3 : decode cX6_copyState 3 = .ok (.iload 4, 2) := by decide +kernel
theorem dX6_copyState_5 : decode cX6_copyState 5 = .ok (.bipush 64, 2) := by decide +kernel
theorem dX6_copyState_7 : decode cX6_copyState 7 = .ok (.if_icmp .ge 21, 3) := by decide +kernel
theorem dX6_copyState_10 : decode cX6_copyState 10 = .ok (.aload_n 2, 1) := by decide +kernel
theorem dX6_copyState_11 : decode cX6_copyState 11 = .ok (.iload_n 3, 1) := by decide +kernel
theorem dX6_copyState_12 : decode cX6_copyState 12 = .ok (.iload 4, 2) := by decide +kernel
theorem dX6_copyState_14 : decode cX6_copyState 14 = .ok (.iadd, 1) := by decide +kernel
theorem dX6_copyState_15 : decode cX6_copyState 15 = .ok (.aload_n 0, 1) := by decide +kernel
theorem dX6_copyState_16 : decode cX6_copyState 16 = .ok (.iload_n 1, 1) := by decide +kernel
theorem dX6_copyState_17 : decode cX6_copyState 17 = .ok (.iload 4, 2) := by decide +kernel
theorem dX6_copyState_19 : decode cX6_copyState 19 = .ok (.iadd, 1) := by decide +kernel
theorem dX6_copyState_20 : decode cX6_copyState 20 = .ok (.laload, 1) := by decide +kernel
theorem dX6_copyState_21 : decode cX6_copyState 21 = .ok (.lastore, 1) := by decide +kernel
theorem dX6_copyState_22 : decode cX6_copyState 22 = .ok (.iinc 4 1, 3) := by decide +kernel
theorem dX6_copyState_25 : decode cX6_copyState 25 = .ok (.goto (-22), 3) := by decide +kernel
theorem dX6_copyState_28 : decode cX6_copyState 28 = .ok (.return_, 1) := by decide +kernel
set_option maxRecDepth 20000 in
theorem ggX6_record_X6_copyState : GoodIn wsX6_record wsX6_copyState := goodIn_r _ [7] (by decide +kernel) (by decide +kernel)
set_option maxRecDepth 20000 in
theorem gX6_record_X6_copyState : GoodIn wsX6_record (va_wsS RX6 69 yX6_copyState wsX6_copyState) := goodIn_app (goodIn_of _ (by decide +kernel)) ggX6_record_X6_copyState
theorem dX6_record_0 : decode cX6_record 0 = .ok (.aload_n 0, 1) := by decide +kernel
theorem dX6_record_1 : decode cX6_record 1 = .ok (.getfield 65, 3) := by decide +kernel
theorem dX6_record_4 : decode cX6_record 4 = .ok (.bipush 6, 2) := by decide +kernel
theorem dX6_record_6 : decode cX6_record 6 = .ok (.if_icmp .ne 43, 3) := by decide +kernel
theorem dX6_record_9 : decode cX6_record 9 = .ok (.iconst 0, 1) := by decide +kernel
theorem dX6_record_10 : decode cX6_record 10 = .ok (.istore_n 1, 1) := by decide +kernel
theorem dX6_record_11 : decode cX6_record 11 = .ok (.iload_n 1, 1) := by decide +kernel
theorem dX6_record_12 : decode cX6_record 12 = .ok (.sipush 320, 3) := by decide +kernel
theorem dX6_record_15 : decode cX6_record 15 = .ok (.if_icmp .ge 24, 3) := by decide +kernel
theorem dX6_record_18 : decode cX6_record 18 = .ok (.aload_n 0, 1) := by decide +kernel
theorem dX6_record_19 : decode cX6_record 19 = .ok (.getfield 16, 3) := by decide +kernel
theorem dX6_record_22 : decode cX6_record 22 = .ok (.iload_n 1, 1) := by decide +kernel
theorem dX6_record_23 : decode cX6_record 23 = .ok (.aload_n 0, 1) := by decide +kernel
theorem dX6_record_24 : decode cX6_record 24 = .ok (.getfield 16, 3) := by decide +kernel
theorem dX6_record_27 : decode cX6_record 27 = .ok (.iload_n 1, 1) := by decide +kernel
theorem dX6_record_28 : decode cX6_record 28 = .ok (.bipush 64, 2) := by decide +kernel
theorem dX6_record_30 : decode cX6_record 30 = .ok (.iadd, 1) := by decide +kernel
theorem dX6_record_31 : decode cX6_record 31 = .ok (.laload, 1) := by decide +kernel
theorem dX6_record_32 : decode cX6_record 32 = .ok (.lastore, 1) := by decide +kernel
theorem dX6_record_33 : decode cX6_record 33 = .ok (.iinc 1 1, 3) := by decide +kernel
theorem dX6_record_36 : decode cX6_record 36 = .ok (.goto (-25), 3) := by decide +kernel
theorem dX6_record_39 : decode cX6_record 39 = .ok (.aload_n 0, 1) := by decide +kernel
theorem dX6_record_40 : decode cX6_record 40 = .ok (.dup, 1) := by decide +kernel
theorem dX6_record_41 : decode cX6_record 41 = .ok (.getfield 65, 3) := by decide +kernel
theorem dX6_record_44 : decode cX6_record 44 = .ok (.iconst 1, 1) := by decide +kernel
theorem dX6_record_45 : decode cX6_record 45 = .ok (.isub, 1) := by decide +kernel
theorem dX6_record_46 : decode cX6_record 46 = .ok (.putfield 65, 3) := by decide +kernel
theorem dX6_record_49 : decode cX6_record 49 = .ok (.aload_n 0, 1) := by decide +kernel
theorem dX6_record_50 : decode cX6_record 50 = .ok (.getfield 7, 3) := by decide +kernel
theorem dX6_record_53 : decode cX6_record 53 = .ok (.iconst 0, 1) := by decide +kernel
theorem dX6_record_54 : decode cX6_record 54 = .ok (.aload_n 0, 1) := by decide +kernel
theorem dX6_record_55 : decode cX6_record 55 = .ok (.getfield 16, 3) := by decide +kernel
theorem dX6_record_58 : decode cX6_record 58 = .ok (.bipush 64, 2) := by decide +kernel
theorem dX6_record_60 : decode cX6_record 60 = .ok (.aload_n 0, 1) := by decide +kernel
theorem dX6_record_61 : decode cX6_record 61 = .ok (.getfield 65, 3) := by decide +kernel
theorem dX6_record_64 : decode cX6_record 64 = .ok (.imul, 1) := by decide +kernel
theorem dX6_record_65 : decode cX6_record 65 = .ok (.invokestatic 69, 3) := by decide +kernel
theorem dX6_record_68 : decode cX6_record 68 = .ok (.aload_n 0, 1) := by decide +kernel
theorem dX6_record_69 : decode cX6_record 69 = .ok (.dup, 1) := by decide +kernel
theorem dX6_record_70 : decode cX6_record 70 = .ok (.getfield 65, 3) := by decide +kernel
theorem dX6_record_73 : decode cX6_record 73 = .ok (.iconst 1, 1) := by decide +kernel
theorem dX6_record_74 : decode cX6_record 74 = .ok (.iadd, 1) := by decide +kernel
theorem dX6_record_75 : decode cX6_record 75 = .ok (.putfield 65, 3) := by decide +kernel
theorem dX6_record_78 : decode cX6_record 78 = .ok (.return_, 1) := by decide +kernel
set_option maxRecDepth 20000 in
theorem ggX6_undo_X6_copyState : GoodIn wsX6_undo wsX6_copyState := goodIn_r _ [7] (by decide +kernel) (by decide +kernel)
set_option maxRecDepth 20000 in
theorem gX6_undo_X6_copyState : GoodIn wsX6_undo (va_wsS RX6 69 yX6_copyState wsX6_copyState) := goodIn_app (goodIn_of _ (by decide +kernel)) ggX6_undo_X6_copyState
theorem dX6_undo_0 : decode cX6_undo 0 = .ok (.aload_n 0, 1) := by decide +kernel
theorem dX6_undo_1 : decode cX6_undo 1 = .ok (.getfield 65, 3) := by decide +kernel
theorem dX6_undo_4 : decode cX6_undo 4 = .ok (.ifCond .ne 6, 3) := by decide +kernel
theorem dX6_undo_7 : decode cX6_undo 7 = .ok (.bipush (-5), 2) := by decide +kernel
theorem dX6_undo_9 : decode cX6_undo 9 = .ok (.ireturn, 1) := by decide +kernel
theorem dX6_undo_10 : decode cX6_undo 10 = .ok (.aload_n 0, 1) := by decide +kernel
theorem dX6_undo_11 : decode cX6_undo 11 = .ok (.dup, 1) := by decide +kernel
theorem dX6_undo_12 : decode cX6_undo 12 = .ok (.getfield 65, 3) := by decide +kernel
theorem dX6_undo_15 : decode cX6_undo 15 = .ok (.iconst 1, 1) := by decide +kernel
theorem dX6_undo_16 : decode cX6_undo 16 = .ok (.isub, 1) := by decide +kernel
theorem dX6_undo_17 : decode cX6_undo 17 = .ok (.putfield 65, 3) := by decide +kernel
theorem dX6_undo_20 : decode cX6_undo 20 = .ok (.aload_n 0, 1) := by decide +kernel
theorem dX6_undo_21 : decode cX6_undo 21 = .ok (.getfield 16, 3) := by decide +kernel
theorem dX6_undo_24 : decode cX6_undo 24 = .ok (.bipush 64, 2) := by decide +kernel
theorem dX6_undo_26 : decode cX6_undo 26 = .ok (.aload_n 0, 1) := by decide +kernel
theorem dX6_undo_27 : decode cX6_undo 27 = .ok (.getfield 65, 3) := by decide +kernel
theorem dX6_undo_30 : decode cX6_undo 30 = .ok (.imul, 1) := by decide +kernel
theorem dX6_undo_31 : decode cX6_undo 31 = .ok (.aload_n 0, 1) := by decide +kernel
theorem dX6_undo_32 : decode cX6_undo 32 = .ok (.getfield 7, 3) := by decide +kernel
theorem dX6_undo_35 : decode cX6_undo 35 = .ok (.iconst 0, 1) := by decide +kernel
theorem dX6_undo_36 : decode cX6_undo 36 = .ok (.invokestatic 69, 3) := by decide +kernel
theorem dX6_undo_39 : decode cX6_undo 39 = .ok (.aload_n 0, 1) := by decide +kernel
theorem dX6_undo_40 : decode cX6_undo 40 = .ok (.getfield 65, 3) := by decide +kernel
theorem dX6_undo_43 : decode cX6_undo 43 = .ok (.ireturn, 1) := by decide +kernel
set_option maxRecDepth 20000 in
theorem ggX6_save_X6_in : GoodIn wsX6_save wsX6_in := goodIn_r _ [7] (by decide +kernel) (by decide +kernel)
set_option maxRecDepth 20000 in
theorem gX6_save_X6_in : GoodIn wsX6_save (va_wsS RX6 61 yX6_in wsX6_in) := goodIn_app (goodIn_of _ (by decide +kernel)) ggX6_save_X6_in
set_option maxRecDepth 20000 in
theorem ggX6_save_X6_copyState : GoodIn wsX6_save wsX6_copyState := goodIn_r _ [10] (by decide +kernel) (by decide +kernel)
set_option maxRecDepth 20000 in
theorem gX6_save_X6_copyState : GoodIn wsX6_save (va_wsS RX6 69 yX6_copyState wsX6_copyState) := goodIn_app (goodIn_of _ (by decide +kernel)) ggX6_save_X6_copyState
set_option maxRecDepth 20000 in
theorem ggX6_save_X6_many : GoodIn wsX6_save wsX6_many := goodIn_r _ [14, 1, 15, 16, 17, 18, 19, 20, 21, 22, 23, 24, 25, 26, 27, 28, 29, 30, 31, 32, 33, 34, 35, 36] (by decide +kernel) (by decide +kernel)
set_option maxRecDepth 20000 in
theorem gX6_save_X6_many : GoodIn wsX6_save (wsV RX6 73 RX6 yX6_many wsX6_many) := goodIn_app (goodIn_of _ (by decide +kernel)) ggX6_save_X6_many
theorem dX6_save_0 : decode cX6_save 0 = .ok (.iload_n 1, 1) := by decide +kernel
theorem dX6_save_1 : decode cX6_save 1 = .ok (.i2l, 1) := by decide +kernel
theorem dX6_save_2 : decode cX6_save 2 = .ok (.lconst 0, 1) := by decide +kernel
theorem dX6_save_3 : decode cX6_save 3 = .ok (.lconst 1, 1) := by decide +kernel
theorem dX6_save_4 : decode cX6_save 4 = .ok (.invokestatic 61, 3) := by decide +kernel
theorem dX6_save_7 : decode cX6_save 7 = .ok (.ifCond .ne 6, 3) := by decide +kernel
theorem dX6_save_10 : decode cX6_save 10 = .ok (.bipush (-2), 2) := by decide +kernel
theorem dX6_save_12 : decode cX6_save 12 = .ok (.ireturn, 1) := by decide +kernel
theorem dX6_save_13 : decode cX6_save 13 = .ok (.aload_n 0, 1) := by decide +kernel
theorem dX6_save_14 : decode cX6_save 14 = .ok (.getfield 7, 3) := by decide +kernel
theorem dX6_save_17 : decode cX6_save 17 = .ok (.iconst 0, 1) := by decide +kernel
theorem dX6_save_18 : decode cX6_save 18 = .ok (.aload_n 0, 1) := by decide +kernel
theorem dX6_save_19 : decode cX6_save 19 = .ok (.getfield 19, 3) := by decide +kernel
theorem dX6_save_22 : decode cX6_save 22 = .ok (.bipush 64, 2) := by decide +kernel
theorem dX6_save_24 : decode cX6_save 24 = .ok (.iload_n 1, 1) := by decide +kernel
theorem dX6_save_25 : decode cX6_save 25 = .ok (.imul, 1) := by decide +kernel
theorem dX6_save_26 : decode cX6_save 26 = .ok (.invokestatic 69, 3) := by decide +kernel
theorem dX6_save_29 : decode cX6_save 29 = .ok (.aload_n 0, 1) := by decide +kernel
theorem dX6_save_30 : decode cX6_save 30 = .ok (.getfield 22, 3) := by decide +kernel
theorem dX6_save_33 : decode cX6_save 33 = .ok (.iload_n 1, 1) := by decide +kernel
theorem dX6_save_34 : decode cX6_save 34 = .ok (.iconst 1, 1) := by decide +kernel
theorem dX6_save_35 : decode cX6_save 35 = .ok (.bastore, 1) := by decide +kernel
theorem dX6_save_36 : decode cX6_save 36 = .ok (.aload_n 0, 1) := by decide +kernel
theorem dX6_save_37 : decode cX6_save 37 = .ok (.invokevirtual 73, 3) := by decide +kernel
theorem dX6_save_40 : decode cX6_save 40 = .ok (.ireturn, 1) := by decide +kernel
set_option maxRecDepth 20000 in
theorem ggX6_restore_X6_in : GoodIn wsX6_restore wsX6_in := goodIn_r _ [7] (by decide +kernel) (by decide +kernel)
set_option maxRecDepth 20000 in
theorem gX6_restore_X6_in : GoodIn wsX6_restore (va_wsS RX6 61 yX6_in wsX6_in) := goodIn_app (goodIn_of _ (by decide +kernel)) ggX6_restore_X6_in
set_option maxRecDepth 20000 in
theorem ggX6_restore_X6_record : GoodIn wsX6_restore wsX6_record := goodIn_r _ [11, 12, 13, 3, 14, 15, 6, 16, 21, 22, 23, 24, 25, 26, 27, 28, 29, 30, 31, 32, 33, 34, 35, 36, 37, 38, 39, 40, 41, 42] (by decide +kernel) (by decide +kernel)
set_option maxRecDepth 20000 in
theorem gX6_restore_X6_record : GoodIn wsX6_restore (wsV RX6 77 RX6 yX6_record wsX6_record) := goodIn_app (goodIn_of _ (by decide +kernel)) ggX6_restore_X6_record
set_option maxRecDepth 20000 in
theorem ggX6_restore_X6_copyState : GoodIn wsX6_restore wsX6_copyState := goodIn_r _ [16] (by decide +kernel) (by decide +kernel)
set_option maxRecDepth 20000 in
theorem gX6_restore_X6_copyState : GoodIn wsX6_restore (va_wsS RX6 69 yX6_copyState wsX6_copyState) := goodIn_app (goodIn_of _ (by decide +kernel)) ggX6_restore_X6_copyState
set_option maxRecDepth 20000 in
theorem ggX6_restore_X6_many : GoodIn wsX6_restore wsX6_many := goodIn_r _ [20, 3, 21, 22, 23, 24, 25, 26, 27, 28, 29, 30, 31, 32, 33, 34, 35, 36, 37, 38, 39, 40, 41, 42] (by decide +kernel) (by decide +kernel)
set_option maxRecDepth 20000 in
theorem gX6_restore_X6_many : GoodIn wsX6_restore (wsV RX6 73 RX6 yX6_many wsX6_many) := goodIn_app (goodIn_of _ (by decide +kernel)) ggX6_restore_X6_many
theorem dX6_restore_0 : decode cX6_restore 0 = .ok (.iload_n 1, 1) := by decide +kernel
theorem dX6_restore_1 : decode cX6_restore 1 = .ok (.i2l, 1) := by decide +kernel
theorem dX6_restore_2 : decode cX6_restore 2 = .ok (.lconst 0, 1) := by decide +kernel
theorem dX6_restore_3 : decode cX6_restore 3 = .ok (.lconst 1, 1) := by decide +kernel
theorem dX6_restore_4 : decode cX6_restore 4 = .ok (.invokestatic 61, 3) := by decide +kernel
theorem dX6_restore_7 : decode cX6_restore 7 = .ok (.ifCond .ne 6, 3) := by decide +kernel
theorem dX6_restore_10 : decode cX6_restore 10 = .ok (.bipush (-2), 2) := by decide +kernel
theorem dX6_restore_12 : decode cX6_restore 12 = .ok (.ireturn, 1) := by decide +kernel
theorem dX6_restore_13 : decode cX6_restore 13 = .ok (.aload_n 0, 1) := by decide +kernel
theorem dX6_restore_14 : decode cX6_restore 14 = .ok (.getfield 22, 3) := by decide +kernel
theorem dX6_restore_17 : decode cX6_restore 17 = .ok (.iload_n 1, 1) := by decide +kernel
theorem dX6_restore_18 : decode cX6_restore 18 = .ok (.baload, 1) := by decide +kernel
theorem dX6_restore_19 : decode cX6_restore 19 = .ok (.ifCond .ne 6, 3) := by decide +kernel
theorem dX6_restore_22 : decode cX6_restore 22 = .ok (.bipush (-5), 2) := by decide +kernel
theorem dX6_restore_24 : decode cX6_restore 24 = .ok (.ireturn, 1) := by decide +kernel
theorem dX6_restore_25 : decode cX6_restore 25 = .ok (.aload_n 0, 1) := by decide +kernel
theorem dX6_restore_26 : decode cX6_restore 26 = .ok (.invokevirtual 77, 3) := by decide +kernel
theorem dX6_restore_29 : decode cX6_restore 29 = .ok (.aload_n 0, 1) := by decide +kernel
theorem dX6_restore_30 : decode cX6_restore 30 = .ok (.getfield 19, 3) := by decide +kernel
theorem dX6_restore_33 : decode cX6_restore 33 = .ok (.bipush 64, 2) := by decide +kernel
theorem dX6_restore_35 : decode cX6_restore 35 = .ok (.iload_n 1, 1) := by decide +kernel
theorem dX6_restore_36 : decode cX6_restore 36 = .ok (.imul, 1) := by decide +kernel
theorem dX6_restore_37 : decode cX6_restore 37 = .ok (.aload_n 0, 1) := by decide +kernel
theorem dX6_restore_38 : decode cX6_restore 38 = .ok (.getfield 7, 3) := by decide +kernel
theorem dX6_restore_41 : decode cX6_restore 41 = .ok (.iconst 0, 1) := by decide +kernel
theorem dX6_restore_42 : decode cX6_restore 42 = .ok (.invokestatic 69, 3) := by decide +kernel
theorem dX6_restore_45 : decode cX6_restore 45 = .ok (.aload_n 0, 1) := by decide +kernel
theorem dX6_restore_46 : decode cX6_restore 46 = .ok (.invokevirtual 73, 3) := by decide +kernel
theorem dX6_restore_49 : decode cX6_restore 49 = .ok (.ireturn, 1) := by decide +kernel
set_option maxRecDepth 20000 in
theorem ggX6_isValue_X6_in : GoodIn wsX6_isValue wsX6_in := goodIn_r _ [9] (by decide +kernel) (by decide +kernel)
set_option maxRecDepth 20000 in
theorem gX6_isValue_X6_in : GoodIn wsX6_isValue (va_wsS RX6 61 yX6_in wsX6_in) := goodIn_app (goodIn_of _ (by decide +kernel)) ggX6_isValue_X6_in
theorem dX6_isValue_0 : decode cX6_isValue 0 = .ok (.iload_n 0, 1) := by decide +kernel
theorem dX6_isValue_1 : decode cX6_isValue 1 = .ok (.ifCond .ne 17, 3) := by decide +kernel
theorem dX6_isValue_4 : decode cX6_isValue 4 = .ok (.iload_n 1, 1) := by decide +kernel
theorem dX6_isValue_5 : decode cX6_isValue 5 = .ok (.i2l, 1) := by decide +kernel
theorem dX6_isValue_6 : decode cX6_isValue 6 = .ok (.ldc2_w 80, 3) := by decide +kernel
theorem dX6_isValue_9 : decode cX6_isValue 9 = .ok (.ldc2_w 82, 3) := by decide +kernel
theorem dX6_isValue_12 : decode cX6_isValue 12 = .ok (.invokestatic 61, 3) := by decide +kernel
theorem dX6_isValue_15 : decode cX6_isValue 15 = .ok (.goto 44, 3) := by decide +kernel
theorem dX6_isValue_18 : decode cX6_isValue 18 = .ok (.iload_n 0, 1) := by decide +kernel
theorem dX6_isValue_19 : decode cX6_isValue 19 = .ok (.iconst 1, 1) := by decide +kernel
theorem dX6_isValue_20 : decode cX6_isValue 20 = .ok (.if_icmp .ne 17, 3) := by decide +kernel
theorem dX6_isValue_23 : decode cX6_isValue 23 = .ok (.iload_n 1, 1) := by decide +kernel
theorem dX6_isValue_24 : decode cX6_isValue 24 = .ok (.i2l, 1) := by decide +kernel
theorem dX6_isValue_25 : decode cX6_isValue 25 = .ok (.ldc2_w 84, 3) := by decide +kernel
theorem dX6_isValue_28 : decode cX6_isValue 28 = .ok (.ldc2_w 86, 3) := by decide +kernel
theorem dX6_isValue_31 : decode cX6_isValue 31 = .ok (.invokestatic 61, 3) := by decide +kernel
theorem dX6_isValue_34 : decode cX6_isValue 34 = .ok (.goto 25, 3) := by decide +kernel
theorem dX6_isValue_37 : decode cX6_isValue 37 = .ok (.iload_n 0, 1) := by decide +kernel
theorem dX6_isValue_38 : decode cX6_isValue 38 = .ok (.iconst 2, 1) := by decide +kernel
theorem dX6_isValue_39 : decode cX6_isValue 39 = .ok (.if_icmp .ne 19, 3) := by decide +kernel
theorem dX6_isValue_42 : decode cX6_isValue 42 = .ok (.iload_n 1, 1) := by decide +kernel
theorem dX6_isValue_43 : decode cX6_isValue 43 = .ok (.i2l, 1) := by decide +kernel
theorem dX6_isValue_44 : decode cX6_isValue 44 = .ok (.lconst 1, 1) := by decide +kernel
theorem dX6_isValue_45 : decode cX6_isValue 45 = .ok (.ldc2_w 88, 3) := by decide +kernel
theorem dX6_isValue_48 : decode cX6_isValue 48 = .ok (.invokestatic 61, 3) := by decide +kernel
theorem dX6_isValue_51 : decode cX6_isValue 51 = .ok (.ifCond .eq 7, 3) := by decide +kernel
theorem dX6_isValue_54 : decode cX6_isValue 54 = .ok (.iconst 1, 1) := by decide +kernel
theorem dX6_isValue_55 : decode cX6_isValue 55 = .ok (.goto 4, 3) := by decide +kernel
theorem dX6_isValue_58 : decode cX6_isValue 58 = .ok (.iconst 0, 1) := by decide +kernel
theorem dX6_isValue_59 : decode cX6_isValue 59 = .ok (.ireturn, 1) := by decide +kernel
set_option maxRecDepth 20000 in
theorem ggX6_set_X6_isValue : GoodIn wsX6_set wsX6_isValue := goodIn_r _ [5, 6, 7, 8, 9, 10, 11, 12, 4, 13] (by decide +kernel) (by decide +kernel)
set_option maxRecDepth 20000 in
theorem gX6_set_X6_isValue : GoodIn wsX6_set (va_wsS RX6 90 yX6_isValue wsX6_isValue) := goodIn_app (goodIn_of _ (by decide +kernel)) ggX6_set_X6_isValue
set_option maxRecDepth 20000 in
theorem ggX6_set_X6_record : GoodIn wsX6_set wsX6_record := goodIn_r _ [17, 18, 19, 1, 20, 21, 4, 22, 23, 24, 25, 26, 27, 28, 29, 30, 31, 32, 33, 34, 35, 36, 37, 38, 39, 40, 41, 42, 43, 44] (by decide +kernel) (by decide +kernel)
set_option maxRecDepth 20000 in
theorem gX6_set_X6_record : GoodIn wsX6_set (wsV RX6 77 RX6 yX6_record wsX6_record) := goodIn_app (goodIn_of _ (by decide +kernel)) ggX6_set_X6_record
theorem dX6_set_0 : decode cX6_set 0 = .ok (.iload_n 1, 1) := by decide +kernel
theorem dX6_set_1 : decode cX6_set 1 = .ok (.iload_n 2, 1) := by decide +kernel
theorem dX6_set_2 : decode cX6_set 2 = .ok (.invokestatic 90, 3) := by decide +kernel
theorem dX6_set_5 : decode cX6_set 5 = .ok (.ifCond .ne 6, 3) := by decide +kernel
theorem dX6_set_8 : decode cX6_set 8 = .ok (.bipush (-2), 2) := by decide +kernel
theorem dX6_set_10 : decode cX6_set 10 = .ok (.ireturn, 1) := by decide +kernel
theorem dX6_set_11 : decode cX6_set 11 = .ok (.aload_n 0, 1) := by decide +kernel
theorem dX6_set_12 : decode cX6_set 12 = .ok (.invokevirtual 77, 3) := by decide +kernel
theorem dX6_set_15 : decode cX6_set 15 = .ok (.aload_n 0, 1) := by decide +kernel
theorem dX6_set_16 : decode cX6_set 16 = .ok (.getfield 7, 3) := by decide +kernel
theorem dX6_set_19 : decode cX6_set 19 = .ok (.iload_n 1, 1) := by decide +kernel
theorem dX6_set_20 : decode cX6_set 20 = .ok (.laload, 1) := by decide +kernel
theorem dX6_set_21 : decode cX6_set 21 = .ok (.l2i, 1) := by decide +kernel
theorem dX6_set_22 : decode cX6_set 22 = .ok (.istore_n 3, 1) := by decide +kernel
theorem dX6_set_23 : decode cX6_set 23 = .ok (.aload_n 0, 1) := by decide +kernel
theorem dX6_set_24 : decode cX6_set 24 = .ok (.getfield 7, 3) := by decide +kernel
theorem dX6_set_27 : decode cX6_set 27 = .ok (.iload_n 1, 1) := by decide +kernel
theorem dX6_set_28 : decode cX6_set 28 = .ok (.iload_n 2, 1) := by decide +kernel
theorem dX6_set_29 : decode cX6_set 29 = .ok (.i2l, 1) := by decide +kernel
theorem dX6_set_30 : decode cX6_set 30 = .ok (.lastore, 1) := by decide +kernel
theorem dX6_set_31 : decode cX6_set 31 = .ok (.iload_n 3, 1) := by decide +kernel
theorem dX6_set_32 : decode cX6_set 32 = .ok (.ireturn, 1) := by decide +kernel
theorem dX6_unit_0 : decode cX6_unit 0 = .ok (.lconst 1, 1) := by decide +kernel
theorem dX6_unit_1 : decode cX6_unit 1 = .ok (.lstore_n 1, 1) := by decide +kernel
theorem dX6_unit_2 : decode cX6_unit 2 = .ok (.iload_n 0, 1) := by decide +kernel
theorem dX6_unit_3 : decode cX6_unit 3 = .ok (.istore_n 3, 1) := by decide +kernel
theorem dX6_unit_4 : decode cX6_unit 4 = .ok (.iload_n 3, 1) := by decide +kernel
theorem dX6_unit_5 : decode cX6_unit 5 = .ok (.bipush 6, 2) := by decide +kernel
theorem dX6_unit_7 : decode cX6_unit 7 = .ok (.if_icmp .ge 15, 3) := by decide +kernel
theorem dX6_unit_10 : decode cX6_unit 10 = .ok (.lload_n 1, 1) := by decide +kernel
theorem dX6_unit_11 : decode cX6_unit 11 = .ok (.ldc2_w 94, 3) := by decide +kernel
theorem dX6_unit_14 : decode cX6_unit 14 = .ok (.lmul, 1) := by decide +kernel
theorem dX6_unit_15 : decode cX6_unit 15 = .ok (.lstore_n 1, 1) := by decide +kernel
theorem dX6_unit_16 : decode cX6_unit 16 = .ok (.iinc 3 1, 3) := by decide +kernel
theorem dX6_unit_19 : decode cX6_unit 19 = .ok (.goto (-15), 3) := by decide +kernel
theorem dX6_unit_22 : decode cX6_unit 22 = .ok (.lload_n 1, 1) := by decide +kernel
theorem dX6_unit_23 : decode cX6_unit 23 = .ok (.lreturn, 1) := by decide +kernel
set_option maxRecDepth 20000 in
theorem ggX6_letter_X6_unit : GoodIn wsX6_letter wsX6_unit := goodIn_r _ [5, 1] (by decide +kernel) (by decide +kernel)
set_option maxRecDepth 20000 in
theorem gX6_letter_X6_unit : GoodIn wsX6_letter (va_wsS RX6 96 yX6_unit wsX6_unit) := goodIn_app (goodIn_of _ (by decide +kernel)) ggX6_letter_X6_unit
theorem dX6_letter_0 : decode cX6_letter 0 = .ok (.iload_n 2, 1) := by decide +kernel
theorem dX6_letter_1 : decode cX6_letter 1 = .ok (.bipush 7, 2) := by decide +kernel
theorem dX6_letter_3 : decode cX6_letter 3 = .ok (.if_icmp .ge 17, 3) := by decide +kernel
theorem dX6_letter_6 : decode cX6_letter 6 = .ok (.lload_n 0, 1) := by decide +kernel
theorem dX6_letter_7 : decode cX6_letter 7 = .ok (.iload_n 2, 1) := by decide +kernel
theorem dX6_letter_8 : decode cX6_letter 8 = .ok (.invokestatic 96, 3) := by decide +kernel
theorem dX6_letter_11 : decode cX6_letter 11 = .ok (.ldiv, 1) := by decide +kernel
theorem dX6_letter_12 : decode cX6_letter 12 = .ok (.ldc2_w 94, 3) := by decide +kernel
theorem dX6_letter_15 : decode cX6_letter 15 = .ok (.lrem, 1) := by decide +kernel
theorem dX6_letter_16 : decode cX6_letter 16 = .ok (.l2i, 1) := by decide +kernel
theorem dX6_letter_17 : decode cX6_letter 17 = .ok (.goto 4, 3) := by decide +kernel
theorem dX6_letter_20 : decode cX6_letter 20 = .ok (.iconst 0, 1) := by decide +kernel
theorem dX6_letter_21 : decode cX6_letter 21 = .ok (.istore_n 3, 1) := by decide +kernel
theorem dX6_letter_22 : decode cX6_letter 22 = .ok (.iload_n 3, 1) := by decide +kernel
theorem dX6_letter_23 : decode cX6_letter 23 = .ok (.ifCond .ne 8, 3) := by decide +kernel
theorem dX6_letter_26 : decode cX6_letter 26 = .ok (.bipush (-6), 2) := by decide +kernel
theorem dX6_letter_28 : decode cX6_letter 28 = .ok (.goto 7, 3) := by decide +kernel
theorem dX6_letter_31 : decode cX6_letter 31 = .ok (.bipush 96, 2) := by decide +kernel
theorem dX6_letter_33 : decode cX6_letter 33 = .ok (.iload_n 3, 1) := by decide +kernel
theorem dX6_letter_34 : decode cX6_letter 34 = .ok (.iadd, 1) := by decide +kernel
theorem dX6_letter_35 : decode cX6_letter 35 = .ok (.ireturn, 1) := by decide +kernel
set_option maxRecDepth 20000 in
theorem ggX6_size_X6_letter : GoodIn wsX6_size wsX6_letter := goodIn_r _ [4, 5, 6, 7, 3, 8] (by decide +kernel) (by decide +kernel)
set_option maxRecDepth 20000 in
theorem gX6_size_X6_letter : GoodIn wsX6_size (va_wsS RX6 100 yX6_letter wsX6_letter) := goodIn_app (goodIn_of _ (by decide +kernel)) ggX6_size_X6_letter
theorem dX6_size_0 : decode cX6_size 0 = .ok (.iconst 0, 1) := by decide +kernel
theorem dX6_size_1 : decode cX6_size 1 = .ok (.istore_n 2, 1) := by decide +kernel
theorem dX6_size_2 : decode cX6_size 2 = .ok (.lload_n 0, 1) := by decide +kernel
theorem dX6_size_3 : decode cX6_size 3 = .ok (.iload_n 2, 1) := by decide +kernel
theorem dX6_size_4 : decode cX6_size 4 = .ok (.invokestatic 100, 3) := by decide +kernel
theorem dX6_size_7 : decode cX6_size 7 = .ok (.bipush (-6), 2) := by decide +kernel
theorem dX6_size_9 : decode cX6_size 9 = .ok (.if_icmp .eq 9, 3) := by decide +kernel
theorem dX6_size_12 : decode cX6_size 12 = .ok (.iinc 2 1, 3) := by decide +kernel
theorem dX6_size_15 : decode cX6_size 15 = .ok (.goto (-13), 3) := by decide +kernel
theorem dX6_size_18 : decode cX6_size 18 = .ok (.iload_n 2, 1) := by decide +kernel
theorem dX6_size_19 : decode cX6_size 19 = .ok (.ireturn, 1) := by decide +kernel
set_option maxRecDepth 20000 in
theorem ggX6_entryWith_X6_many : GoodIn wsX6_entryWith wsX6_many := goodIn_r _ [6, 1, 7, 8, 9, 10, 11, 12, 13, 14, 15, 16, 17, 18, 19, 20, 21, 22, 23, 24, 25, 26, 27, 28] (by decide +kernel) (by decide +kernel)
set_option maxRecDepth 20000 in
theorem gX6_entryWith_X6_many : GoodIn wsX6_entryWith (wsV RX6 73 RX6 yX6_many wsX6_many) := goodIn_app (goodIn_of _ (by decide +kernel)) ggX6_entryWith_X6_many
theorem dX6_entryWith_0 : decode cX6_entryWith 0 = .ok (.bipush (-6), 2) := by decide +kernel
theorem dX6_entryWith_2 : decode cX6_entryWith 2 = .ok (.istore_n 3, 1) := by decide +kernel
theorem dX6_entryWith_3 : decode cX6_entryWith 3 = .ok (.iconst 0, 1) := by decide +kernel
theorem dX6_entryWith_4 : decode cX6_entryWith 4 = .ok (.istore 4, 2) := by decide +kernel
theorem dX6_entryWith_6 : decode cX6_entryWith 6 = .ok (.iload 4, 2) := by decide +kernel
theorem dX6_entryWith_8 : decode cX6_entryWith 8 = .ok (.aload_n 0, 1) := by decide +kernel
theorem dX6_entryWith_9 : decode cX6_entryWith 9 = .ok (.invokevirtual 73, 3) := by decide +kernel
theorem dX6_entryWith_12 : decode cX6_entryWith 12 = .ok (.if_icmp .ge 30, 3) := by decide +kernel
theorem dX6_entryWith_15 : decode cX6_entryWith 15 = .ok (.aload_n 0, 1) := by decide +kernel
theorem dX6_entryWith_16 : decode cX6_entryWith 16 = .ok (.getfield 7, 3) := by decide +kernel
theorem dX6_entryWith_19 : decode cX6_entryWith 19 = .ok (.iconst 4, 1) := by decide +kernel
theorem dX6_entryWith_20 : decode cX6_entryWith 20 = .ok (.iload 4, 2) := by decide +kernel
theorem dX6_entryWith_22 : decode cX6_entryWith 22 = .ok (.iadd, 1) := by decide +kernel
theorem dX6_entryWith_23 : decode cX6_entryWith 23 = .ok (.laload, 1) := by decide +kernel
theorem dX6_entryWith_24 : decode cX6_entryWith 24 = .ok (.lload_n 1, 1) := by decide +kernel
theorem dX6_entryWith_25 : decode cX6_entryWith 25 = .ok (.lcmp, 1) := by decide +kernel
theorem dX6_entryWith_26 : decode cX6_entryWith 26 = .ok (.ifCond .ne 8, 3) := by decide +kernel
theorem dX6_entryWith_29 : decode cX6_entryWith 29 = .ok (.iload 4, 2) := by decide +kernel
theorem dX6_entryWith_31 : decode cX6_entryWith 31 = .ok (.goto 4, 3) := by decide +kernel
theorem dX6_entryWith_34 : decode cX6_entryWith 34 = .ok (.iload_n 3, 1) := by decide +kernel
theorem dX6_entryWith_35 : decode cX6_entryWith 35 = .ok (.istore_n 3, 1) := by decide +kernel
theorem dX6_entryWith_36 : decode cX6_entryWith 36 = .ok (.iinc 4 1, 3) := by decide +kernel
theorem dX6_entryWith_39 : decode cX6_entryWith 39 = .ok (.goto (-33), 3) := by decide +kernel
theorem dX6_entryWith_42 : decode cX6_entryWith 42 = .ok (.iload_n 3, 1) := by decide +kernel
theorem dX6_entryWith_43 : decode cX6_entryWith 43 = .ok (.ireturn, 1) := by decide +kernel
set_option maxRecDepth 20000 in
theorem ggX6_insert_X6_many : GoodIn wsX6_insert wsX6_many := goodIn_r _ [6, 1, 7, 8, 9, 10, 11, 12, 13, 14, 15, 16, 17, 18, 19, 20, 21, 22, 23, 24, 25, 26, 27, 28] (by decide +kernel) (by decide +kernel)
set_option maxRecDepth 20000 in
theorem gX6_insert_X6_many : GoodIn wsX6_insert (wsV RX6 73 RX6 yX6_many wsX6_many) := goodIn_app (goodIn_of _ (by decide +kernel)) ggX6_insert_X6_many
theorem dX6_insert_0 : decode cX6_insert 0 = .ok (.aload_n 0, 1) := by decide +kernel
theorem dX6_insert_1 : decode cX6_insert 1 = .ok (.invokevirtual 73, 3) := by decide +kernel
theorem dX6_insert_4 : decode cX6_insert 4 = .ok (.istore 5, 2) := by decide +kernel
theorem dX6_insert_6 : decode cX6_insert 6 = .ok (.iload 5, 2) := by decide +kernel
theorem dX6_insert_8 : decode cX6_insert 8 = .ok (.ifCond .le 67, 3) := by decide +kernel
theorem dX6_insert_11 : decode cX6_insert 11 = .ok (.aload_n 0, 1) := by decide +kernel
theorem dX6_insert_12 : decode cX6_insert 12 = .ok (.getfield 7, 3) := by decide +kernel
theorem dX6_insert_15 : decode cX6_insert 15 = .ok (.iconst 4, 1) := by decide +kernel
theorem dX6_insert_16 : decode cX6_insert 16 = .ok (.iload 5, 2) := by decide +kernel
theorem dX6_insert_18 : decode cX6_insert 18 = .ok (.iadd, 1) := by decide +kernel
theorem dX6_insert_19 : decode cX6_insert 19 = .ok (.iconst 1, 1) := by decide +kernel
theorem dX6_insert_20 : decode cX6_insert 20 = .ok (.isub, 1) := by decide +kernel
theorem dX6_insert_21 : decode cX6_insert 21 = .ok (.laload, 1) := by decide +kernel
theorem dX6_insert_22 : decode cX6_insert 22 = .ok (.lload_n 1, 1) := by decide +kernel
theorem dX6_insert_23 : decode cX6_insert 23 = .ok (.lcmp, 1) := by decide +kernel
theorem dX6_insert_24 : decode cX6_insert 24 = .ok (.ifCond .le 51, 3) := by decide +kernel
theorem dX6_insert_27 : decode cX6_insert 27 = .ok (.aload_n 0, 1) := by decide +kernel
theorem dX6_insert_28 : decode cX6_insert 28 = .ok (.getfield 7, 3) := by decide +kernel
theorem dX6_insert_31 : decode cX6_insert 31 = .ok (.iconst 4, 1) := by decide +kernel
theorem dX6_insert_32 : decode cX6_insert 32 = .ok (.iload 5, 2) := by decide +kernel
theorem dX6_insert_34 : decode cX6_insert 34 = .ok (.iadd, 1) := by decide +kernel
theorem dX6_insert_35 : decode cX6_insert 35 = .ok (.aload_n 0, 1) := by decide +kernel
theorem dX6_insert_36 : decode cX6_insert 36 = .ok (.getfield 7, 3) := by decide +kernel
theorem dX6_insert_39 : decode cX6_insert 39 = .ok (.iconst 4, 1) := by decide +kernel
theorem dX6_insert_40 : decode cX6_insert 40 = .ok (.iload 5, 2) := by decide +kernel
theorem dX6_insert_42 : decode cX6_insert 42 = .ok (.iadd, 1) := by decide +kernel
theorem dX6_insert_43 : decode cX6_insert 43 = .ok (.iconst 1, 1) := by decide +kernel
theorem dX6_insert_44 : decode cX6_insert 44 = .ok (.isub, 1) := by decide +kernel
theorem dX6_insert_45 : decode cX6_insert 45 = .ok (.laload, 1) := by decide +kernel
theorem dX6_insert_46 : decode cX6_insert 46 = .ok (.lastore, 1) := by decide +kernel
theorem dX6_insert_47 : decode cX6_insert 47 = .ok (.aload_n 0, 1) := by decide +kernel
theorem dX6_insert_48 : decode cX6_insert 48 = .ok (.getfield 7, 3) := by decide +kernel
theorem dX6_insert_51 : decode cX6_insert 51 = .ok (.bipush 34, 2) := by decide +kernel
theorem dX6_insert_53 : decode cX6_insert 53 = .ok (.iload 5, 2) := by decide +kernel
theorem dX6_insert_55 : decode cX6_insert 55 = .ok (.iadd, 1) := by decide +kernel
theorem dX6_insert_56 : decode cX6_insert 56 = .ok (.aload_n 0, 1) := by decide +kernel
theorem dX6_insert_57 : decode cX6_insert 57 = .ok (.getfield 7, 3) := by decide +kernel
theorem dX6_insert_60 : decode cX6_insert 60 = .ok (.bipush 34, 2) := by decide +kernel
theorem dX6_insert_62 : decode cX6_insert 62 = .ok (.iload 5, 2) := by decide +kernel
theorem dX6_insert_64 : decode cX6_insert 64 = .ok (.iadd, 1) := by decide +kernel
theorem dX6_insert_65 : decode cX6_insert 65 = .ok (.iconst 1, 1) := by decide +kernel
theorem dX6_insert_66 : decode cX6_insert 66 = .ok (.isub, 1) := by decide +kernel
theorem dX6_insert_67 : decode cX6_insert 67 = .ok (.laload, 1) := by decide +kernel
theorem dX6_insert_68 : decode cX6_insert 68 = .ok (.lastore, 1) := by decide +kernel
theorem dX6_insert_69 : decode cX6_insert 69 = .ok (.iinc 5 (-1), 3) := by decide +kernel
theorem dX6_insert_72 : decode cX6_insert 72 = .ok (.goto (-66), 3) := by decide +kernel
theorem dX6_insert_75 : decode cX6_insert 75 = .ok (.aload_n 0, 1) := by decide +kernel
theorem dX6_insert_76 : decode cX6_insert 76 = .ok (.getfield 7, 3) := by decide +kernel
theorem dX6_insert_79 : decode cX6_insert 79 = .ok (.iconst 4, 1) := by decide +kernel
theorem dX6_insert_80 : decode cX6_insert 80 = .ok (.iload 5, 2) := by decide +kernel
theorem dX6_insert_82 : decode cX6_insert 82 = .ok (.iadd, 1) := by decide +kernel
theorem dX6_insert_83 : decode cX6_insert 83 = .ok (.lload_n 1, 1) := by decide +kernel
theorem dX6_insert_84 : decode cX6_insert 84 = .ok (.lastore, 1) := by decide +kernel
theorem dX6_insert_85 : decode cX6_insert 85 = .ok (.aload_n 0, 1) := by decide +kernel
theorem dX6_insert_86 : decode cX6_insert 86 = .ok (.getfield 7, 3) := by decide +kernel
theorem dX6_insert_89 : decode cX6_insert 89 = .ok (.bipush 34, 2) := by decide +kernel
theorem dX6_insert_91 : decode cX6_insert 91 = .ok (.iload 5, 2) := by decide +kernel
theorem dX6_insert_93 : decode cX6_insert 93 = .ok (.iadd, 1) := by decide +kernel
theorem dX6_insert_94 : decode cX6_insert 94 = .ok (.lload_n 3, 1) := by decide +kernel
theorem dX6_insert_95 : decode cX6_insert 95 = .ok (.lastore, 1) := by decide +kernel
theorem dX6_insert_96 : decode cX6_insert 96 = .ok (.aload_n 0, 1) := by decide +kernel
theorem dX6_insert_97 : decode cX6_insert 97 = .ok (.getfield 7, 3) := by decide +kernel
theorem dX6_insert_100 : decode cX6_insert 100 = .ok (.iconst 3, 1) := by decide +kernel
theorem dX6_insert_101 : decode cX6_insert 101 = .ok (.dup2, 1) := by decide +kernel
theorem dX6_insert_102 : decode cX6_insert 102 = .ok (.laload, 1) := by decide +kernel
theorem dX6_insert_103 : decode cX6_insert 103 = .ok (.lconst 1, 1) := by decide +kernel
theorem dX6_insert_104 : decode cX6_insert 104 = .ok (.ladd, 1) := by decide +kernel
theorem dX6_insert_105 : decode cX6_insert 105 = .ok (.lastore, 1) := by decide +kernel
theorem dX6_insert_106 : decode cX6_insert 106 = .ok (.iload 5, 2) := by decide +kernel
theorem dX6_insert_108 : decode cX6_insert 108 = .ok (.ireturn, 1) := by decide +kernel
set_option maxRecDepth 20000 in
theorem ggX6_remove_X6_many : GoodIn wsX6_remove wsX6_many := goodIn_r _ [6, 1, 7, 8, 9, 10, 11, 12, 13, 14, 15, 16, 17, 18, 19, 20, 21, 22, 23, 24, 25, 26, 27, 28] (by decide +kernel) (by decide +kernel)
set_option maxRecDepth 20000 in
theorem gX6_remove_X6_many : GoodIn wsX6_remove (wsV RX6 73 RX6 yX6_many wsX6_many) := goodIn_app (goodIn_of _ (by decide +kernel)) ggX6_remove_X6_many
theorem dX6_remove_0 : decode cX6_remove 0 = .ok (.aload_n 0, 1) := by decide +kernel
theorem dX6_remove_1 : decode cX6_remove 1 = .ok (.getfield 7, 3) := by decide +kernel
theorem dX6_remove_4 : decode cX6_remove 4 = .ok (.iconst 3, 1) := by decide +kernel
theorem dX6_remove_5 : decode cX6_remove 5 = .ok (.dup2, 1) := by decide +kernel
theorem dX6_remove_6 : decode cX6_remove 6 = .ok (.laload, 1) := by decide +kernel
theorem dX6_remove_7 : decode cX6_remove 7 = .ok (.lconst 1, 1) := by decide +kernel
theorem dX6_remove_8 : decode cX6_remove 8 = .ok (.lsub, 1) := by decide +kernel
theorem dX6_remove_9 : decode cX6_remove 9 = .ok (.lastore, 1) := by decide +kernel
theorem dX6_remove_10 : decode cX6_remove 10 = .ok (.iload_n 1, 1) := by decide +kernel
theorem dX6_remove_11 : decode cX6_remove 11 = .ok (.istore_n 2, 1) := by decide +kernel
theorem dX6_remove_12 : decode cX6_remove 12 = .ok (.iload_n 2, 1) := by decide +kernel
theorem dX6_remove_13 : decode cX6_remove 13 = .ok (.aload_n 0, 1) := by decide +kernel
theorem dX6_remove_14 : decode cX6_remove 14 = .ok (.invokevirtual 73, 3) := by decide +kernel
theorem dX6_remove_17 : decode cX6_remove 17 = .ok (.if_icmp .ge 47, 3) := by decide +kernel
theorem dX6_remove_20 : decode cX6_remove 20 = .ok (.aload_n 0, 1) := by decide +kernel
theorem dX6_remove_21 : decode cX6_remove 21 = .ok (.getfield 7, 3) := by decide +kernel
theorem dX6_remove_24 : decode cX6_remove 24 = .ok (.iconst 4, 1) := by decide +kernel
theorem dX6_remove_25 : decode cX6_remove 25 = .ok (.iload_n 2, 1) := by decide +kernel
theorem dX6_remove_26 : decode cX6_remove 26 = .ok (.iadd, 1) := by decide +kernel
theorem dX6_remove_27 : decode cX6_remove 27 = .ok (.aload_n 0, 1) := by decide +kernel
theorem dX6_remove_28 : decode cX6_remove 28 = .ok (.getfield 7, 3) := by decide +kernel
theorem dX6_remove_31 : decode cX6_remove 31 = .ok (.iconst 4, 1) := by decide +kernel
theorem dX6_remove_32 : decode cX6_remove 32 = .ok (.iload_n 2, 1) := by decide +kernel
theorem dX6_remove_33 : decode cX6_remove 33 = .ok (.iadd, 1) := by decide +kernel
theorem dX6_remove_34 : decode cX6_remove 34 = .ok (.iconst 1, 1) := by decide +kernel
theorem dX6_remove_35 : decode cX6_remove 35 = .ok (.iadd, 1) := by decide +kernel
theorem dX6_remove_36 : decode cX6_remove 36 = .ok (.laload, 1) := by decide +kernel
theorem dX6_remove_37 : decode cX6_remove 37 = .ok (.lastore, 1) := by decide +kernel
theorem dX6_remove_38 : decode cX6_remove 38 = .ok (.aload_n 0, 1) := by decide +kernel
theorem dX6_remove_39 : decode cX6_remove 39 = .ok (.getfield 7, 3) := by decide +kernel
theorem dX6_remove_42 : decode cX6_remove 42 = .ok (.bipush 34, 2) := by decide +kernel
theorem dX6_remove_44 : decode cX6_remove 44 = .ok (.iload_n 2, 1) := by decide +kernel
theorem dX6_remove_45 : decode cX6_remove 45 = .ok (.iadd, 1) := by decide +kernel
theorem dX6_remove_46 : decode cX6_remove 46 = .ok (.aload_n 0, 1) := by decide +kernel
theorem dX6_remove_47 : decode cX6_remove 47 = .ok (.getfield 7, 3) := by decide +kernel
theorem dX6_remove_50 : decode cX6_remove 50 = .ok (.bipush 34, 2) := by decide +kernel
theorem dX6_remove_52 : decode cX6_remove 52 = .ok (.iload_n 2, 1) := by decide +kernel
theorem dX6_remove_53 : decode cX6_remove 53 = .ok (.iadd, 1) := by decide +kernel
theorem dX6_remove_54 : decode cX6_remove 54 = .ok (.iconst 1, 1) := by decide +kernel
theorem dX6_remove_55 : decode cX6_remove 55 = .ok (.iadd, 1) := by decide +kernel
theorem dX6_remove_56 : decode cX6_remove 56 = .ok (.laload, 1) := by decide +kernel
theorem dX6_remove_57 : decode cX6_remove 57 = .ok (.lastore, 1) := by decide +kernel
theorem dX6_remove_58 : decode cX6_remove 58 = .ok (.iinc 2 1, 3) := by decide +kernel
theorem dX6_remove_61 : decode cX6_remove 61 = .ok (.goto (-49), 3) := by decide +kernel
theorem dX6_remove_64 : decode cX6_remove 64 = .ok (.aload_n 0, 1) := by decide +kernel
theorem dX6_remove_65 : decode cX6_remove 65 = .ok (.getfield 7, 3) := by decide +kernel
theorem dX6_remove_68 : decode cX6_remove 68 = .ok (.iconst 4, 1) := by decide +kernel
theorem dX6_remove_69 : decode cX6_remove 69 = .ok (.aload_n 0, 1) := by decide +kernel
theorem dX6_remove_70 : decode cX6_remove 70 = .ok (.invokevirtual 73, 3) := by decide +kernel
theorem dX6_remove_73 : decode cX6_remove 73 = .ok (.iadd, 1) := by decide +kernel
theorem dX6_remove_74 : decode cX6_remove 74 = .ok (.lconst 0, 1) := by decide +kernel
theorem dX6_remove_75 : decode cX6_remove 75 = .ok (.lastore, 1) := by decide +kernel
theorem dX6_remove_76 : decode cX6_remove 76 = .ok (.aload_n 0, 1) := by decide +kernel
theorem dX6_remove_77 : decode cX6_remove 77 = .ok (.getfield 7, 3) := by decide +kernel
theorem dX6_remove_80 : decode cX6_remove 80 = .ok (.bipush 34, 2) := by decide +kernel
theorem dX6_remove_82 : decode cX6_remove 82 = .ok (.aload_n 0, 1) := by decide +kernel
theorem dX6_remove_83 : decode cX6_remove 83 = .ok (.invokevirtual 73, 3) := by decide +kernel
theorem dX6_remove_86 : decode cX6_remove 86 = .ok (.iadd, 1) := by decide +kernel
theorem dX6_remove_87 : decode cX6_remove 87 = .ok (.lconst 0, 1) := by decide +kernel
theorem dX6_remove_88 : decode cX6_remove 88 = .ok (.lastore, 1) := by decide +kernel
theorem dX6_remove_89 : decode cX6_remove 89 = .ok (.return_, 1) := by decide +kernel
set_option maxRecDepth 20000 in
theorem ggX6_put_X6_in : GoodIn wsX6_put wsX6_in := goodIn_r _ [9] (by decide +kernel) (by decide +kernel)
set_option maxRecDepth 20000 in
theorem gX6_put_X6_in : GoodIn wsX6_put (va_wsS RX6 61 yX6_in wsX6_in) := goodIn_app (goodIn_of _ (by decide +kernel)) ggX6_put_X6_in
theorem dX6_put_0 : decode cX6_put 0 = .ok (.lload_n 1, 1) := by decide +kernel
theorem dX6_put_1 : decode cX6_put 1 = .ok (.lstore_n 3, 1) := by decide +kernel
theorem dX6_put_2 : decode cX6_put 2 = .ok (.iconst 0, 1) := by decide +kernel
theorem dX6_put_3 : decode cX6_put 3 = .ok (.istore 5, 2) := by decide +kernel
theorem dX6_put_5 : decode cX6_put 5 = .ok (.lload_n 3, 1) := by decide +kernel
theorem dX6_put_6 : decode cX6_put 6 = .ok (.lconst 0, 1) := by decide +kernel
theorem dX6_put_7 : decode cX6_put 7 = .ok (.lcmp, 1) := by decide +kernel
theorem dX6_put_8 : decode cX6_put 8 = .ok (.ifCond .eq 41, 3) := by decide +kernel
theorem dX6_put_11 : decode cX6_put 11 = .ok (.iload 5, 2) := by decide +kernel
theorem dX6_put_13 : decode cX6_put 13 = .ok (.bipush 8, 2) := by decide +kernel
theorem dX6_put_15 : decode cX6_put 15 = .ok (.if_icmp .ge 34, 3) := by decide +kernel
theorem dX6_put_18 : decode cX6_put 18 = .ok (.lload_n 3, 1) := by decide +kernel
theorem dX6_put_19 : decode cX6_put 19 = .ok (.ldc2_w 104, 3) := by decide +kernel
theorem dX6_put_22 : decode cX6_put 22 = .ok (.land, 1) := by decide +kernel
theorem dX6_put_23 : decode cX6_put 23 = .ok (.ldc2_w 106, 3) := by decide +kernel
theorem dX6_put_26 : decode cX6_put 26 = .ok (.ldc2_w 108, 3) := by decide +kernel
theorem dX6_put_29 : decode cX6_put 29 = .ok (.invokestatic 61, 3) := by decide +kernel
theorem dX6_put_32 : decode cX6_put 32 = .ok (.ifCond .ne 6, 3) := by decide +kernel
theorem dX6_put_35 : decode cX6_put 35 = .ok (.bipush (-2), 2) := by decide +kernel
theorem dX6_put_37 : decode cX6_put 37 = .ok (.ireturn, 1) := by decide +kernel
theorem dX6_put_38 : decode cX6_put 38 = .ok (.lload_n 3, 1) := by decide +kernel
theorem dX6_put_39 : decode cX6_put 39 = .ok (.bipush 8, 2) := by decide +kernel
theorem dX6_put_41 : decode cX6_put 41 = .ok (.lushr, 1) := by decide +kernel
theorem dX6_put_42 : decode cX6_put 42 = .ok (.lstore_n 3, 1) := by decide +kernel
theorem dX6_put_43 : decode cX6_put 43 = .ok (.iinc 5 1, 3) := by decide +kernel
theorem dX6_put_46 : decode cX6_put 46 = .ok (.goto (-41), 3) := by decide +kernel
theorem dX6_put_49 : decode cX6_put 49 = .ok (.iload 5, 2) := by decide +kernel
theorem dX6_put_51 : decode cX6_put 51 = .ok (.ifCond .ne 6, 3) := by decide +kernel
theorem dX6_put_54 : decode cX6_put 54 = .ok (.bipush (-2), 2) := by decide +kernel
theorem dX6_put_56 : decode cX6_put 56 = .ok (.ireturn, 1) := by decide +kernel
theorem dX6_put_57 : decode cX6_put 57 = .ok (.aload_n 0, 1) := by decide +kernel
theorem dX6_put_58 : decode cX6_put 58 = .ok (.getfield 110, 3) := by decide +kernel
theorem dX6_put_61 : decode cX6_put 61 = .ok (.iload 5, 2) := by decide +kernel
theorem dX6_put_63 : decode cX6_put 63 = .ok (.iadd, 1) := by decide +kernel
theorem dX6_put_64 : decode cX6_put 64 = .ok (.bipush 60, 2) := by decide +kernel
theorem dX6_put_66 : decode cX6_put 66 = .ok (.if_icmp .le 6, 3) := by decide +kernel
theorem dX6_put_69 : decode cX6_put 69 = .ok (.bipush (-4), 2) := by decide +kernel
theorem dX6_put_71 : decode cX6_put 71 = .ok (.ireturn, 1) := by decide +kernel
theorem dX6_put_72 : decode cX6_put 72 = .ok (.iload 5, 2) := by decide +kernel
theorem dX6_put_74 : decode cX6_put 74 = .ok (.iconst 1, 1) := by decide +kernel
theorem dX6_put_75 : decode cX6_put 75 = .ok (.isub, 1) := by decide +kernel
theorem dX6_put_76 : decode cX6_put 76 = .ok (.istore 6, 2) := by decide +kernel
theorem dX6_put_78 : decode cX6_put 78 = .ok (.iload 6, 2) := by decide +kernel
theorem dX6_put_80 : decode cX6_put 80 = .ok (.ifCond .lt 40, 3) := by decide +kernel
theorem dX6_put_83 : decode cX6_put 83 = .ok (.aload_n 0, 1) := by decide +kernel
theorem dX6_put_84 : decode cX6_put 84 = .ok (.getfield 26, 3) := by decide +kernel
theorem dX6_put_87 : decode cX6_put 87 = .ok (.aload_n 0, 1) := by decide +kernel
theorem dX6_put_88 : decode cX6_put 88 = .ok (.getfield 110, 3) := by decide +kernel
theorem dX6_put_91 : decode cX6_put 91 = .ok (.lload_n 1, 1) := by decide +kernel
theorem dX6_put_92 : decode cX6_put 92 = .ok (.bipush 8, 2) := by decide +kernel
theorem dX6_put_94 : decode cX6_put 94 = .ok (.iload 6, 2) := by decide +kernel
theorem dX6_put_96 : decode cX6_put 96 = .ok (.imul, 1) := by decide +kernel
theorem dX6_put_97 : decode cX6_put 97 = .ok (.lushr, 1) := by decide +kernel
theorem dX6_put_98 : decode cX6_put 98 = .ok (.ldc2_w 104, 3) := by decide +kernel
theorem dX6_put_101 : decode cX6_put 101 = .ok (.land, 1) := by decide +kernel
theorem dX6_put_102 : decode cX6_put 102 = .ok (.l2i, 1) := by decide +kernel
theorem dX6_put_103 : decode cX6_put 103 = .ok (.iastore, 1) := by decide +kernel
theorem dX6_put_104 : decode cX6_put 104 = .ok (.aload_n 0, 1) := by decide +kernel
theorem dX6_put_105 : decode cX6_put 105 = .ok (.dup, 1) := by decide +kernel
theorem dX6_put_106 : decode cX6_put 106 = .ok (.getfield 110, 3) := by decide +kernel
theorem dX6_put_109 : decode cX6_put 109 = .ok (.iconst 1, 1) := by decide +kernel
theorem dX6_put_110 : decode cX6_put 110 = .ok (.iadd, 1) := by decide +kernel
theorem dX6_put_111 : decode cX6_put 111 = .ok (.putfield 110, 3) := by decide +kernel
theorem dX6_put_114 : decode cX6_put 114 = .ok (.iinc 6 (-1), 3) := by decide +kernel
theorem dX6_put_117 : decode cX6_put 117 = .ok (.goto (-39), 3) := by decide +kernel
theorem dX6_put_120 : decode cX6_put 120 = .ok (.aload_n 0, 1) := by decide +kernel
theorem dX6_put_121 : decode cX6_put 121 = .ok (.getfield 110, 3) := by decide +kernel
theorem dX6_put_124 : decode cX6_put 124 = .ok (.ireturn, 1) := by decide +kernel
theorem dX6_wipe_0 : decode cX6_wipe 0 = .ok (.aload_n 0, 1) := by decide +kernel
theorem dX6_wipe_1 : decode cX6_wipe 1 = .ok (.getfield 110, 3) := by decide +kernel
theorem dX6_wipe_4 : decode cX6_wipe 4 = .ok (.istore_n 1, 1) := by decide +kernel
theorem dX6_wipe_5 : decode cX6_wipe 5 = .ok (.aload_n 0, 1) := by decide +kernel
theorem dX6_wipe_6 : decode cX6_wipe 6 = .ok (.iconst 0, 1) := by decide +kernel
theorem dX6_wipe_7 : decode cX6_wipe 7 = .ok (.putfield 110, 3) := by decide +kernel
theorem dX6_wipe_10 : decode cX6_wipe 10 = .ok (.iload_n 1, 1) := by decide +kernel
theorem dX6_wipe_11 : decode cX6_wipe 11 = .ok (.ireturn, 1) := by decide +kernel
set_option maxRecDepth 20000 in
theorem ggX6_sees_X6_in : GoodIn wsX6_sees wsX6_in := goodIn_r _ [7] (by decide +kernel) (by decide +kernel)
set_option maxRecDepth 20000 in
theorem gX6_sees_X6_in : GoodIn wsX6_sees (va_wsS RX6 61 yX6_in wsX6_in) := goodIn_app (goodIn_of _ (by decide +kernel)) ggX6_sees_X6_in
theorem dX6_sees_0 : decode cX6_sees 0 = .ok (.aload_n 0, 1) := by decide +kernel
theorem dX6_sees_1 : decode cX6_sees 1 = .ok (.getfield 113, 3) := by decide +kernel
theorem dX6_sees_4 : decode cX6_sees 4 = .ok (.aload_n 0, 1) := by decide +kernel
theorem dX6_sees_5 : decode cX6_sees 5 = .ok (.getfield 110, 3) := by decide +kernel
theorem dX6_sees_8 : decode cX6_sees 8 = .ok (.if_icmp .ge 27, 3) := by decide +kernel
theorem dX6_sees_11 : decode cX6_sees 11 = .ok (.aload_n 0, 1) := by decide +kernel
theorem dX6_sees_12 : decode cX6_sees 12 = .ok (.getfield 26, 3) := by decide +kernel
theorem dX6_sees_15 : decode cX6_sees 15 = .ok (.aload_n 0, 1) := by decide +kernel
theorem dX6_sees_16 : decode cX6_sees 16 = .ok (.getfield 113, 3) := by decide +kernel
theorem dX6_sees_19 : decode cX6_sees 19 = .ok (.iaload, 1) := by decide +kernel
theorem dX6_sees_20 : decode cX6_sees 20 = .ok (.i2l, 1) := by decide +kernel
theorem dX6_sees_21 : decode cX6_sees 21 = .ok (.iload_n 1, 1) := by decide +kernel
theorem dX6_sees_22 : decode cX6_sees 22 = .ok (.i2l, 1) := by decide +kernel
theorem dX6_sees_23 : decode cX6_sees 23 = .ok (.iload_n 2, 1) := by decide +kernel
theorem dX6_sees_24 : decode cX6_sees 24 = .ok (.i2l, 1) := by decide +kernel
theorem dX6_sees_25 : decode cX6_sees 25 = .ok (.invokestatic 61, 3) := by decide +kernel
theorem dX6_sees_28 : decode cX6_sees 28 = .ok (.ifCond .eq 7, 3) := by decide +kernel
theorem dX6_sees_31 : decode cX6_sees 31 = .ok (.iconst 1, 1) := by decide +kernel
theorem dX6_sees_32 : decode cX6_sees 32 = .ok (.goto 4, 3) := by decide +kernel
theorem dX6_sees_35 : decode cX6_sees 35 = .ok (.iconst 0, 1) := by decide +kernel
theorem dX6_sees_36 : decode cX6_sees 36 = .ok (.ireturn, 1) := by decide +kernel
set_option maxRecDepth 20000 in
theorem ggX6_takes_X6_sees : GoodIn wsX6_takes wsX6_sees := goodIn_r _ [6, 1, 7, 8, 9, 10, 5, 11, 12, 13, 14, 15, 16, 17, 18, 19, 20, 21, 22, 23, 24, 25, 26, 27, 28, 29, 30, 31, 32, 33] (by decide +kernel) (by decide +kernel)
set_option maxRecDepth 20000 in
theorem gX6_takes_X6_sees : GoodIn wsX6_takes (wsV RX6 116 RX6 yX6_sees wsX6_sees) := goodIn_app (goodIn_of _ (by decide +kernel)) ggX6_takes_X6_sees
theorem dX6_takes_0 : decode cX6_takes 0 = .ok (.aload_n 0, 1) := by decide +kernel
theorem dX6_takes_1 : decode cX6_takes 1 = .ok (.iload_n 1, 1) := by decide +kernel
theorem dX6_takes_2 : decode cX6_takes 2 = .ok (.iload_n 1, 1) := by decide +kernel
theorem dX6_takes_3 : decode cX6_takes 3 = .ok (.invokevirtual 116, 3) := by decide +kernel
theorem dX6_takes_6 : decode cX6_takes 6 = .ok (.istore_n 2, 1) := by decide +kernel
theorem dX6_takes_7 : decode cX6_takes 7 = .ok (.aload_n 0, 1) := by decide +kernel
theorem dX6_takes_8 : decode cX6_takes 8 = .ok (.dup, 1) := by decide +kernel
theorem dX6_takes_9 : decode cX6_takes 9 = .ok (.getfield 113, 3) := by decide +kernel
theorem dX6_takes_12 : decode cX6_takes 12 = .ok (.iload_n 2, 1) := by decide +kernel
theorem dX6_takes_13 : decode cX6_takes 13 = .ok (.ifCond .eq 7, 3) := by decide +kernel
theorem dX6_takes_16 : decode cX6_takes 16 = .ok (.iconst 1, 1) := by decide +kernel
theorem dX6_takes_17 : decode cX6_takes 17 = .ok (.goto 4, 3) := by decide +kernel
theorem dX6_takes_20 : decode cX6_takes 20 = .ok (.iconst 0, 1) := by decide +kernel
theorem dX6_takes_21 : decode cX6_takes 21 = .ok (.iadd, 1) := by decide +kernel
theorem dX6_takes_22 : decode cX6_takes 22 = .ok (.putfield 113, 3) := by decide +kernel
theorem dX6_takes_25 : decode cX6_takes 25 = .ok (.iload_n 2, 1) := by decide +kernel
theorem dX6_takes_26 : decode cX6_takes 26 = .ok (.ireturn, 1) := by decide +kernel
set_option maxRecDepth 20000 in
theorem ggX6_readWord_X6_sees : GoodIn wsX6_readWord wsX6_sees := goodIn_r _ [7, 2, 8, 1, 9, 10, 6, 11, 16, 17, 18, 19, 20, 21, 22, 23, 24, 25, 26, 27, 28, 29, 30, 31, 32, 33, 34, 35, 36, 37] (by decide +kernel) (by decide +kernel)
set_option maxRecDepth 20000 in
theorem gX6_readWord_X6_sees : GoodIn wsX6_readWord (wsV RX6 116 RX6 yX6_sees wsX6_sees) := goodIn_app (goodIn_of _ (by decide +kernel)) ggX6_readWord_X6_sees
set_option maxRecDepth 20000 in
theorem ggX6_readWord_X6_unit : GoodIn wsX6_readWord wsX6_unit := goodIn_r _ [14, 15] (by decide +kernel) (by decide +kernel)
set_option maxRecDepth 20000 in
theorem gX6_readWord_X6_unit : GoodIn wsX6_readWord (va_wsS RX6 96 yX6_unit wsX6_unit) := goodIn_app (goodIn_of _ (by decide +kernel)) ggX6_readWord_X6_unit
theorem dX6_readWord_0 : decode cX6_readWord 0 = .ok (.lconst 0, 1) := by decide +kernel
theorem dX6_readWord_1 : decode cX6_readWord 1 = .ok (.lstore_n 1, 1) := by decide +kernel
theorem dX6_readWord_2 : decode cX6_readWord 2 = .ok (.iconst 0, 1) := by decide +kernel
theorem dX6_readWord_3 : decode cX6_readWord 3 = .ok (.istore_n 3, 1) := by decide +kernel
theorem dX6_readWord_4 : decode cX6_readWord 4 = .ok (.iload_n 3, 1) := by decide +kernel
theorem dX6_readWord_5 : decode cX6_readWord 5 = .ok (.bipush 7, 2) := by decide +kernel
theorem dX6_readWord_7 : decode cX6_readWord 7 = .ok (.if_icmp .ge 53, 3) := by decide +kernel
theorem dX6_readWord_10 : decode cX6_readWord 10 = .ok (.aload_n 0, 1) := by decide +kernel
theorem dX6_readWord_11 : decode cX6_readWord 11 = .ok (.bipush 97, 2) := by decide +kernel
theorem dX6_readWord_13 : decode cX6_readWord 13 = .ok (.bipush 122, 2) := by decide +kernel
theorem dX6_readWord_15 : decode cX6_readWord 15 = .ok (.invokevirtual 116, 3) := by decide +kernel
theorem dX6_readWord_18 : decode cX6_readWord 18 = .ok (.ifCond .eq 42, 3) := by decide +kernel
theorem dX6_readWord_21 : decode cX6_readWord 21 = .ok (.lload_n 1, 1) := by decide +kernel
theorem dX6_readWord_22 : decode cX6_readWord 22 = .ok (.iload_n 3, 1) := by decide +kernel
theorem dX6_readWord_23 : decode cX6_readWord 23 = .ok (.invokestatic 96, 3) := by decide +kernel
theorem dX6_readWord_26 : decode cX6_readWord 26 = .ok (.aload_n 0, 1) := by decide +kernel
theorem dX6_readWord_27 : decode cX6_readWord 27 = .ok (.getfield 26, 3) := by decide +kernel
theorem dX6_readWord_30 : decode cX6_readWord 30 = .ok (.aload_n 0, 1) := by decide +kernel
theorem dX6_readWord_31 : decode cX6_readWord 31 = .ok (.getfield 113, 3) := by decide +kernel
theorem dX6_readWord_34 : decode cX6_readWord 34 = .ok (.iaload, 1) := by decide +kernel
theorem dX6_readWord_35 : decode cX6_readWord 35 = .ok (.bipush 97, 2) := by decide +kernel
theorem dX6_readWord_37 : decode cX6_readWord 37 = .ok (.isub, 1) := by decide +kernel
theorem dX6_readWord_38 : decode cX6_readWord 38 = .ok (.iconst 1, 1) := by decide +kernel
theorem dX6_readWord_39 : decode cX6_readWord 39 = .ok (.iadd, 1) := by decide +kernel
theorem dX6_readWord_40 : decode cX6_readWord 40 = .ok (.i2l, 1) := by decide +kernel
theorem dX6_readWord_41 : decode cX6_readWord 41 = .ok (.lmul, 1) := by decide +kernel
theorem dX6_readWord_42 : decode cX6_readWord 42 = .ok (.ladd, 1) := by decide +kernel
theorem dX6_readWord_43 : decode cX6_readWord 43 = .ok (.lstore_n 1, 1) := by decide +kernel
theorem dX6_readWord_44 : decode cX6_readWord 44 = .ok (.aload_n 0, 1) := by decide +kernel
theorem dX6_readWord_45 : decode cX6_readWord 45 = .ok (.dup, 1) := by decide +kernel
theorem dX6_readWord_46 : decode cX6_readWord 46 = .ok (.getfield 113, 3) := by decide +kernel
theorem dX6_readWord_49 : decode cX6_readWord 49 = .ok (.iconst 1, 1) := by decide +kernel
theorem dX6_readWord_50 : decode cX6_readWord 50 = .ok (.iadd, 1) := by decide +kernel
theorem dX6_readWord_51 : decode cX6_readWord 51 = .ok (.putfield 113, 3) := by decide +kernel
theorem dX6_readWord_54 : decode cX6_readWord 54 = .ok (.iinc 3 1, 3) := by decide +kernel
theorem dX6_readWord_57 : decode cX6_readWord 57 = .ok (.goto (-53), 3) := by decide +kernel
theorem dX6_readWord_60 : decode cX6_readWord 60 = .ok (.lload_n 1, 1) := by decide +kernel
theorem dX6_readWord_61 : decode cX6_readWord 61 = .ok (.lreturn, 1) := by decide +kernel
set_option maxRecDepth 20000 in
theorem ggX6_readEntry_X6_readWord : GoodIn wsX6_readEntry wsX6_readWord := goodIn_r _ [10, 1, 2, 11, 12, 13, 9, 14, 15, 16, 17, 18, 19, 20, 21, 22, 27, 28, 29, 30, 31, 32, 33, 34, 35, 36, 37, 38, 39, 40, 41, 42, 43, 44, 45, 46, 47, 48] (by decide +kernel) (by decide +kernel)
set_option maxRecDepth 20000 in
theorem gX6_readEntry_X6_readWord : GoodIn wsX6_readEntry (wsV RX6 119 RX6 yX6_readWord wsX6_readWord) := goodIn_app (goodIn_of _ (by decide +kernel)) ggX6_readEntry_X6_readWord
set_option maxRecDepth 20000 in
theorem ggX6_readEntry_X6_takes : GoodIn wsX6_readEntry wsX6_takes := goodIn_r _ [26, 2, 11, 12, 13, 9, 14, 15, 1, 16, 17, 18, 27, 28, 29, 30, 31, 32, 33, 34, 35, 36, 37, 38, 39, 40, 41, 42, 43, 44, 45, 46, 47, 48] (by decide +kernel) (by decide +kernel)
set_option maxRecDepth 20000 in
theorem gX6_readEntry_X6_takes : GoodIn wsX6_readEntry (wsV RX6 123 RX6 yX6_takes wsX6_takes) := goodIn_app (goodIn_of _ (by decide +kernel)) ggX6_readEntry_X6_takes
set_option maxRecDepth 20000 in
theorem ggX6_readEntry_X6_sees : GoodIn wsX6_readEntry wsX6_sees := goodIn_r _ [14, 2, 15, 1, 16, 17, 9, 18, 27, 28, 29, 30, 31, 32, 33, 34, 35, 36, 37, 38, 39, 40, 41, 42, 43, 44, 45, 46, 47, 48] (by decide +kernel) (by decide +kernel)
set_option maxRecDepth 20000 in
theorem gX6_readEntry_X6_sees : GoodIn wsX6_readEntry (wsV RX6 116 RX6 yX6_sees wsX6_sees) := goodIn_app (goodIn_of _ (by decide +kernel)) ggX6_readEntry_X6_sees
theorem dX6_readEntry_0 : decode cX6_readEntry 0 = .ok (.aload_n 0, 1) := by decide +kernel
theorem dX6_readEntry_1 : decode cX6_readEntry 1 = .ok (.invokevirtual 119, 3) := by decide +kernel
theorem dX6_readEntry_4 : decode cX6_readEntry 4 = .ok (.lstore_n 1, 1) := by decide +kernel
theorem dX6_readEntry_5 : decode cX6_readEntry 5 = .ok (.lload_n 1, 1) := by decide +kernel
theorem dX6_readEntry_6 : decode cX6_readEntry 6 = .ok (.lconst 0, 1) := by decide +kernel
theorem dX6_readEntry_7 : decode cX6_readEntry 7 = .ok (.lcmp, 1) := by decide +kernel
theorem dX6_readEntry_8 : decode cX6_readEntry 8 = .ok (.ifCond .eq 23, 3) := by decide +kernel
theorem dX6_readEntry_11 : decode cX6_readEntry 11 = .ok (.aload_n 0, 1) := by decide +kernel
theorem dX6_readEntry_12 : decode cX6_readEntry 12 = .ok (.bipush 58, 2) := by decide +kernel

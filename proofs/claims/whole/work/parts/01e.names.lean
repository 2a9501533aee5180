theorem dX6_readEntry_14 : decode cX6_readEntry 14 = .ok (.invokevirtual 123, 3) := by decide +kernel
theorem dX6_readEntry_17 : decode cX6_readEntry 17 = .ok (.ifCond .eq 14, 3) := by decide +kernel
theorem dX6_readEntry_20 : decode cX6_readEntry 20 = .ok (.aload_n 0, 1) := by decide +kernel
theorem dX6_readEntry_21 : decode cX6_readEntry 21 = .ok (.bipush 49, 2) := by decide +kernel
theorem dX6_readEntry_23 : decode cX6_readEntry 23 = .ok (.bipush 57, 2) := by decide +kernel
theorem dX6_readEntry_25 : decode cX6_readEntry 25 = .ok (.invokevirtual 116, 3) := by decide +kernel
theorem dX6_readEntry_28 : decode cX6_readEntry 28 = .ok (.ifCond .ne 5, 3) := by decide +kernel
theorem dX6_readEntry_31 : decode cX6_readEntry 31 = .ok (.iconst 0, 1) := by decide +kernel
theorem dX6_readEntry_32 : decode cX6_readEntry 32 = .ok (.ireturn, 1) := by decide +kernel
theorem dX6_readEntry_33 : decode cX6_readEntry 33 = .ok (.aload_n 0, 1) := by decide +kernel
theorem dX6_readEntry_34 : decode cX6_readEntry 34 = .ok (.getfield 26, 3) := by decide +kernel
theorem dX6_readEntry_37 : decode cX6_readEntry 37 = .ok (.aload_n 0, 1) := by decide +kernel
theorem dX6_readEntry_38 : decode cX6_readEntry 38 = .ok (.getfield 113, 3) := by decide +kernel
theorem dX6_readEntry_41 : decode cX6_readEntry 41 = .ok (.iaload, 1) := by decide +kernel
theorem dX6_readEntry_42 : decode cX6_readEntry 42 = .ok (.bipush 48, 2) := by decide +kernel
theorem dX6_readEntry_44 : decode cX6_readEntry 44 = .ok (.isub, 1) := by decide +kernel
theorem dX6_readEntry_45 : decode cX6_readEntry 45 = .ok (.istore_n 3, 1) := by decide +kernel
theorem dX6_readEntry_46 : decode cX6_readEntry 46 = .ok (.aload_n 0, 1) := by decide +kernel
theorem dX6_readEntry_47 : decode cX6_readEntry 47 = .ok (.dup, 1) := by decide +kernel
theorem dX6_readEntry_48 : decode cX6_readEntry 48 = .ok (.getfield 113, 3) := by decide +kernel
theorem dX6_readEntry_51 : decode cX6_readEntry 51 = .ok (.iconst 1, 1) := by decide +kernel
theorem dX6_readEntry_52 : decode cX6_readEntry 52 = .ok (.iadd, 1) := by decide +kernel
theorem dX6_readEntry_53 : decode cX6_readEntry 53 = .ok (.putfield 113, 3) := by decide +kernel
theorem dX6_readEntry_56 : decode cX6_readEntry 56 = .ok (.aload_n 0, 1) := by decide +kernel
theorem dX6_readEntry_57 : decode cX6_readEntry 57 = .ok (.bipush 48, 2) := by decide +kernel
theorem dX6_readEntry_59 : decode cX6_readEntry 59 = .ok (.bipush 57, 2) := by decide +kernel
theorem dX6_readEntry_61 : decode cX6_readEntry 61 = .ok (.invokevirtual 116, 3) := by decide +kernel
theorem dX6_readEntry_64 : decode cX6_readEntry 64 = .ok (.ifCond .eq 53, 3) := by decide +kernel
theorem dX6_readEntry_67 : decode cX6_readEntry 67 = .ok (.bipush 10, 2) := by decide +kernel
theorem dX6_readEntry_69 : decode cX6_readEntry 69 = .ok (.iload_n 3, 1) := by decide +kernel
theorem dX6_readEntry_70 : decode cX6_readEntry 70 = .ok (.imul, 1) := by decide +kernel
theorem dX6_readEntry_71 : decode cX6_readEntry 71 = .ok (.aload_n 0, 1) := by decide +kernel
theorem dX6_readEntry_72 : decode cX6_readEntry 72 = .ok (.getfield 26, 3) := by decide +kernel
theorem dX6_readEntry_75 : decode cX6_readEntry 75 = .ok (.aload_n 0, 1) := by decide +kernel
theorem dX6_readEntry_76 : decode cX6_readEntry 76 = .ok (.getfield 113, 3) := by decide +kernel
theorem dX6_readEntry_79 : decode cX6_readEntry 79 = .ok (.iaload, 1) := by decide +kernel
theorem dX6_readEntry_80 : decode cX6_readEntry 80 = .ok (.iadd, 1) := by decide +kernel
theorem dX6_readEntry_81 : decode cX6_readEntry 81 = .ok (.bipush 48, 2) := by decide +kernel
theorem dX6_readEntry_83 : decode cX6_readEntry 83 = .ok (.isub, 1) := by decide +kernel
theorem dX6_readEntry_84 : decode cX6_readEntry 84 = .ok (.bipush 40, 2) := by decide +kernel
theorem dX6_readEntry_86 : decode cX6_readEntry 86 = .ok (.if_icmp .gt 31, 3) := by decide +kernel
theorem dX6_readEntry_89 : decode cX6_readEntry 89 = .ok (.bipush 10, 2) := by decide +kernel
theorem dX6_readEntry_91 : decode cX6_readEntry 91 = .ok (.iload_n 3, 1) := by decide +kernel
theorem dX6_readEntry_92 : decode cX6_readEntry 92 = .ok (.imul, 1) := by decide +kernel
theorem dX6_readEntry_93 : decode cX6_readEntry 93 = .ok (.aload_n 0, 1) := by decide +kernel
theorem dX6_readEntry_94 : decode cX6_readEntry 94 = .ok (.getfield 26, 3) := by decide +kernel
theorem dX6_readEntry_97 : decode cX6_readEntry 97 = .ok (.aload_n 0, 1) := by decide +kernel
theorem dX6_readEntry_98 : decode cX6_readEntry 98 = .ok (.getfield 113, 3) := by decide +kernel
theorem dX6_readEntry_101 : decode cX6_readEntry 101 = .ok (.iaload, 1) := by decide +kernel
theorem dX6_readEntry_102 : decode cX6_readEntry 102 = .ok (.iadd, 1) := by decide +kernel
theorem dX6_readEntry_103 : decode cX6_readEntry 103 = .ok (.bipush 48, 2) := by decide +kernel
theorem dX6_readEntry_105 : decode cX6_readEntry 105 = .ok (.isub, 1) := by decide +kernel
theorem dX6_readEntry_106 : decode cX6_readEntry 106 = .ok (.istore_n 3, 1) := by decide +kernel
theorem dX6_readEntry_107 : decode cX6_readEntry 107 = .ok (.aload_n 0, 1) := by decide +kernel
theorem dX6_readEntry_108 : decode cX6_readEntry 108 = .ok (.dup, 1) := by decide +kernel
theorem dX6_readEntry_109 : decode cX6_readEntry 109 = .ok (.getfield 113, 3) := by decide +kernel
theorem dX6_readEntry_112 : decode cX6_readEntry 112 = .ok (.iconst 1, 1) := by decide +kernel
theorem dX6_readEntry_113 : decode cX6_readEntry 113 = .ok (.iadd, 1) := by decide +kernel
theorem dX6_readEntry_114 : decode cX6_readEntry 114 = .ok (.putfield 113, 3) := by decide +kernel
theorem dX6_readEntry_117 : decode cX6_readEntry 117 = .ok (.aload_n 0, 1) := by decide +kernel
theorem dX6_readEntry_118 : decode cX6_readEntry 118 = .ok (.getfield 30, 3) := by decide +kernel
theorem dX6_readEntry_121 : decode cX6_readEntry 121 = .ok (.aload_n 0, 1) := by decide +kernel
theorem dX6_readEntry_122 : decode cX6_readEntry 122 = .ok (.getfield 127, 3) := by decide +kernel
theorem dX6_readEntry_125 : decode cX6_readEntry 125 = .ok (.lload_n 1, 1) := by decide +kernel
theorem dX6_readEntry_126 : decode cX6_readEntry 126 = .ok (.lastore, 1) := by decide +kernel
theorem dX6_readEntry_127 : decode cX6_readEntry 127 = .ok (.aload_n 0, 1) := by decide +kernel
theorem dX6_readEntry_128 : decode cX6_readEntry 128 = .ok (.getfield 33, 3) := by decide +kernel
theorem dX6_readEntry_131 : decode cX6_readEntry 131 = .ok (.aload_n 0, 1) := by decide +kernel
theorem dX6_readEntry_132 : decode cX6_readEntry 132 = .ok (.getfield 127, 3) := by decide +kernel
theorem dX6_readEntry_135 : decode cX6_readEntry 135 = .ok (.iload_n 3, 1) := by decide +kernel
theorem dX6_readEntry_136 : decode cX6_readEntry 136 = .ok (.i2l, 1) := by decide +kernel
theorem dX6_readEntry_137 : decode cX6_readEntry 137 = .ok (.lastore, 1) := by decide +kernel
theorem dX6_readEntry_138 : decode cX6_readEntry 138 = .ok (.aload_n 0, 1) := by decide +kernel
theorem dX6_readEntry_139 : decode cX6_readEntry 139 = .ok (.dup, 1) := by decide +kernel
theorem dX6_readEntry_140 : decode cX6_readEntry 140 = .ok (.getfield 127, 3) := by decide +kernel
theorem dX6_readEntry_143 : decode cX6_readEntry 143 = .ok (.iconst 1, 1) := by decide +kernel
theorem dX6_readEntry_144 : decode cX6_readEntry 144 = .ok (.iadd, 1) := by decide +kernel
theorem dX6_readEntry_145 : decode cX6_readEntry 145 = .ok (.putfield 127, 3) := by decide +kernel
theorem dX6_readEntry_148 : decode cX6_readEntry 148 = .ok (.iconst 1, 1) := by decide +kernel
theorem dX6_readEntry_149 : decode cX6_readEntry 149 = .ok (.ireturn, 1) := by decide +kernel
set_option maxRecDepth 20000 in
theorem ggX6_readPad_X6_readEntry : GoodIn wsX6_readPad wsX6_readEntry := goodIn_r _ [8, 9, 1, 10, 2, 11, 12, 13, 14, 7, 15, 16, 17, 18, 19, 3, 20, 21, 22, 23, 24, 25, 26, 27, 28, 29, 30, 31, 32, 33, 34, 35, 36, 37, 38, 39, 40, 41, 42, 43, 44, 45, 46, 47, 48, 49, 50, 51, 52] (by decide +kernel) (by decide +kernel)
set_option maxRecDepth 20000 in
theorem gX6_readPad_X6_readEntry : GoodIn wsX6_readPad (wsV RX6 130 RX6 yX6_readEntry wsX6_readEntry) := goodIn_app (goodIn_of _ (by decide +kernel)) ggX6_readPad_X6_readEntry
set_option maxRecDepth 20000 in
theorem ggX6_readPad_X6_takes : GoodIn wsX6_readPad wsX6_takes := goodIn_r _ [30, 1, 16, 17, 18, 7, 19, 3, 9, 20, 21, 22, 31, 32, 33, 34, 35, 36, 37, 38, 39, 40, 41, 42, 43, 44, 45, 46, 47, 48, 49, 50, 51, 52] (by decide +kernel) (by decide +kernel)
set_option maxRecDepth 20000 in
theorem gX6_readPad_X6_takes : GoodIn wsX6_readPad (wsV RX6 123 RX6 yX6_takes wsX6_takes) := goodIn_app (goodIn_of _ (by decide +kernel)) ggX6_readPad_X6_takes
theorem dX6_readPad_0 : decode cX6_readPad 0 = .ok (.aload_n 0, 1) := by decide +kernel
theorem dX6_readPad_1 : decode cX6_readPad 1 = .ok (.iconst 0, 1) := by decide +kernel
theorem dX6_readPad_2 : decode cX6_readPad 2 = .ok (.putfield 113, 3) := by decide +kernel
theorem dX6_readPad_5 : decode cX6_readPad 5 = .ok (.aload_n 0, 1) := by decide +kernel
theorem dX6_readPad_6 : decode cX6_readPad 6 = .ok (.iconst 0, 1) := by decide +kernel
theorem dX6_readPad_7 : decode cX6_readPad 7 = .ok (.putfield 127, 3) := by decide +kernel
theorem dX6_readPad_10 : decode cX6_readPad 10 = .ok (.aload_n 0, 1) := by decide +kernel
theorem dX6_readPad_11 : decode cX6_readPad 11 = .ok (.invokevirtual 130, 3) := by decide +kernel
theorem dX6_readPad_14 : decode cX6_readPad 14 = .ok (.istore_n 1, 1) := by decide +kernel
theorem dX6_readPad_15 : decode cX6_readPad 15 = .ok (.iload_n 1, 1) := by decide +kernel
theorem dX6_readPad_16 : decode cX6_readPad 16 = .ok (.ifCond .eq 39, 3) := by decide +kernel
theorem dX6_readPad_19 : decode cX6_readPad 19 = .ok (.aload_n 0, 1) := by decide +kernel
theorem dX6_readPad_20 : decode cX6_readPad 20 = .ok (.getfield 113, 3) := by decide +kernel
theorem dX6_readPad_23 : decode cX6_readPad 23 = .ok (.aload_n 0, 1) := by decide +kernel
theorem dX6_readPad_24 : decode cX6_readPad 24 = .ok (.getfield 110, 3) := by decide +kernel
theorem dX6_readPad_27 : decode cX6_readPad 27 = .ok (.if_icmp .ge 28, 3) := by decide +kernel
theorem dX6_readPad_30 : decode cX6_readPad 30 = .ok (.aload_n 0, 1) := by decide +kernel
theorem dX6_readPad_31 : decode cX6_readPad 31 = .ok (.bipush 44, 2) := by decide +kernel
theorem dX6_readPad_33 : decode cX6_readPad 33 = .ok (.invokevirtual 123, 3) := by decide +kernel
theorem dX6_readPad_36 : decode cX6_readPad 36 = .ok (.ifCond .eq 14, 3) := by decide +kernel
theorem dX6_readPad_39 : decode cX6_readPad 39 = .ok (.aload_n 0, 1) := by decide +kernel
theorem dX6_readPad_40 : decode cX6_readPad 40 = .ok (.invokevirtual 130, 3) := by decide +kernel
theorem dX6_readPad_43 : decode cX6_readPad 43 = .ok (.ifCond .eq 7, 3) := by decide +kernel
theorem dX6_readPad_46 : decode cX6_readPad 46 = .ok (.iconst 1, 1) := by decide +kernel
theorem dX6_readPad_47 : decode cX6_readPad 47 = .ok (.goto 4, 3) := by decide +kernel
theorem dX6_readPad_50 : decode cX6_readPad 50 = .ok (.iconst 0, 1) := by decide +kernel
theorem dX6_readPad_51 : decode cX6_readPad 51 = .ok (.istore_n 1, 1) := by decide +kernel
theorem dX6_readPad_52 : decode cX6_readPad 52 = .ok (.goto (-37), 3) := by decide +kernel
theorem dX6_readPad_55 : decode cX6_readPad 55 = .ok (.iload_n 1, 1) := by decide +kernel
theorem dX6_readPad_56 : decode cX6_readPad 56 = .ok (.ireturn, 1) := by decide +kernel
set_option maxRecDepth 20000 in
theorem ggX6_fault_X6_readPad : GoodIn wsX6_fault wsX6_readPad := goodIn_r _ [6, 1, 7, 8, 9, 10, 11, 5, 12, 13, 14, 15, 16, 17, 18, 19, 20, 21, 22, 23, 24, 25, 26, 27, 28, 29, 30, 31, 32, 33, 34, 35, 36, 37, 38, 39, 40, 41, 42, 43, 44, 45, 46, 47, 48, 49, 50, 51, 52, 53, 54, 55, 56] (by decide +kernel) (by decide +kernel)
set_option maxRecDepth 20000 in
theorem gX6_fault_X6_readPad : GoodIn wsX6_fault (wsV RX6 134 RX6 yX6_readPad wsX6_readPad) := goodIn_app (goodIn_of _ (by decide +kernel)) ggX6_fault_X6_readPad
theorem dX6_fault_0 : decode cX6_fault 0 = .ok (.aload_n 0, 1) := by decide +kernel
theorem dX6_fault_1 : decode cX6_fault 1 = .ok (.invokevirtual 134, 3) := by decide +kernel
theorem dX6_fault_4 : decode cX6_fault 4 = .ok (.ifCond .eq 8, 3) := by decide +kernel
theorem dX6_fault_7 : decode cX6_fault 7 = .ok (.bipush (-6), 2) := by decide +kernel
theorem dX6_fault_9 : decode cX6_fault 9 = .ok (.goto 7, 3) := by decide +kernel
theorem dX6_fault_12 : decode cX6_fault 12 = .ok (.aload_n 0, 1) := by decide +kernel
theorem dX6_fault_13 : decode cX6_fault 13 = .ok (.getfield 113, 3) := by decide +kernel
theorem dX6_fault_16 : decode cX6_fault 16 = .ok (.ireturn, 1) := by decide +kernel
set_option maxRecDepth 20000 in
theorem ggX6_padWord_X6_readWord : GoodIn wsX6_padWord wsX6_readWord := goodIn_r _ [7, 8, 1, 9, 10, 11, 6, 12, 2, 13, 14, 15, 16, 17, 18, 19, 20, 21, 22, 23, 24, 25, 26, 27, 28, 29, 30, 31, 32, 33, 34, 35, 36, 37, 38, 39, 40, 41] (by decide +kernel) (by decide +kernel)
set_option maxRecDepth 20000 in
theorem gX6_padWord_X6_readWord : GoodIn wsX6_padWord (wsV RX6 119 RX6 yX6_readWord wsX6_readWord) := goodIn_app (goodIn_of _ (by decide +kernel)) ggX6_padWord_X6_readWord
theorem dX6_padWord_0 : decode cX6_padWord 0 = .ok (.aload_n 0, 1) := by decide +kernel
theorem dX6_padWord_1 : decode cX6_padWord 1 = .ok (.iconst 0, 1) := by decide +kernel
theorem dX6_padWord_2 : decode cX6_padWord 2 = .ok (.putfield 113, 3) := by decide +kernel
theorem dX6_padWord_5 : decode cX6_padWord 5 = .ok (.aload_n 0, 1) := by decide +kernel
theorem dX6_padWord_6 : decode cX6_padWord 6 = .ok (.invokevirtual 119, 3) := by decide +kernel
theorem dX6_padWord_9 : decode cX6_padWord 9 = .ok (.lstore_n 1, 1) := by decide +kernel
theorem dX6_padWord_10 : decode cX6_padWord 10 = .ok (.aload_n 0, 1) := by decide +kernel
theorem dX6_padWord_11 : decode cX6_padWord 11 = .ok (.getfield 113, 3) := by decide +kernel
theorem dX6_padWord_14 : decode cX6_padWord 14 = .ok (.aload_n 0, 1) := by decide +kernel
theorem dX6_padWord_15 : decode cX6_padWord 15 = .ok (.getfield 110, 3) := by decide +kernel
theorem dX6_padWord_18 : decode cX6_padWord 18 = .ok (.if_icmp .ne 7, 3) := by decide +kernel
theorem dX6_padWord_21 : decode cX6_padWord 21 = .ok (.lload_n 1, 1) := by decide +kernel
theorem dX6_padWord_22 : decode cX6_padWord 22 = .ok (.goto 4, 3) := by decide +kernel
theorem dX6_padWord_25 : decode cX6_padWord 25 = .ok (.lconst 0, 1) := by decide +kernel
theorem dX6_padWord_26 : decode cX6_padWord 26 = .ok (.lreturn, 1) := by decide +kernel
set_option maxRecDepth 20000 in
theorem ggX6_read_X6_readPad : GoodIn wsX6_read wsX6_readPad := goodIn_r _ [11, 12, 3, 6, 13, 14, 15, 10, 16, 17, 4, 5, 18, 19, 20, 21, 22, 23, 24, 25, 26, 27, 28, 29, 30, 31, 32, 33, 34, 35, 36, 62, 63, 64, 65, 66, 67, 68, 69, 70, 71, 72, 73, 74, 75, 76, 77, 78, 79, 80, 81, 82, 83] (by decide +kernel) (by decide +kernel)
set_option maxRecDepth 20000 in
theorem gX6_read_X6_readPad : GoodIn wsX6_read (wsV RX6 134 RX6 yX6_readPad wsX6_readPad) := goodIn_app (goodIn_of _ (by decide +kernel)) ggX6_read_X6_readPad
set_option maxRecDepth 20000 in
theorem ggX6_read_X6_copyState : GoodIn wsX6_read wsX6_copyState := goodIn_r _ [39] (by decide +kernel) (by decide +kernel)
set_option maxRecDepth 20000 in
theorem gX6_read_X6_copyState : GoodIn wsX6_read (va_wsS RX6 69 yX6_copyState wsX6_copyState) := goodIn_app (goodIn_of _ (by decide +kernel)) ggX6_read_X6_copyState
set_option maxRecDepth 20000 in
theorem ggX6_read_X6_entryWith : GoodIn wsX6_read wsX6_entryWith := goodIn_r _ [43, 1, 44, 45, 46, 10, 47, 62, 63, 64, 65, 66, 67, 68, 69, 70, 71, 72, 73, 74, 75, 76, 77, 78, 79, 80, 81, 82, 83] (by decide +kernel) (by decide +kernel)
set_option maxRecDepth 20000 in
theorem gX6_read_X6_entryWith : GoodIn wsX6_read (wsV RX6 137 RX6 yX6_entryWith wsX6_entryWith) := goodIn_app (goodIn_of _ (by decide +kernel)) ggX6_read_X6_entryWith
set_option maxRecDepth 20000 in
theorem ggX6_read_X6_many : GoodIn wsX6_read wsX6_many := goodIn_r _ [47, 1, 62, 63, 64, 65, 66, 67, 68, 69, 70, 71, 72, 73, 74, 75, 76, 77, 78, 79, 80, 81, 82, 83] (by decide +kernel) (by decide +kernel)
set_option maxRecDepth 20000 in
theorem gX6_read_X6_many : GoodIn wsX6_read (wsV RX6 73 RX6 yX6_many wsX6_many) := goodIn_app (goodIn_of _ (by decide +kernel)) ggX6_read_X6_many
set_option maxRecDepth 20000 in
theorem ggX6_read_X6_insert : GoodIn wsX6_read wsX6_insert := goodIn_r _ [51, 1, 44, 45, 46, 10, 47, 62, 63, 64, 65, 66, 67, 68, 69, 70, 71, 72, 73, 74, 75, 76, 77, 78, 79, 80, 81, 82, 83] (by decide +kernel) (by decide +kernel)
set_option maxRecDepth 20000 in
theorem gX6_read_X6_insert : GoodIn wsX6_read (wsV RX6 141 RX6 yX6_insert wsX6_insert) := goodIn_app (goodIn_of _ (by decide +kernel)) ggX6_read_X6_insert
set_option maxRecDepth 20000 in
theorem ggX6_read_X6_readInto : GoodIn wsX6_read wsX6_readInto := goodIn_r _ [55, 1, 2, 56, 57, 58, 10, 59, 60, 61, 37, 38, 39, 62, 63, 64, 65, 66, 67, 68, 69, 70, 71, 72, 73, 74, 75, 76, 77, 78, 79, 80, 81, 82, 83] (by decide +kernel) (by decide +kernel)
set_option maxRecDepth 20000 in
theorem gX6_read_X6_readInto : GoodIn wsX6_read (wsV RX6 145 RX6 yX6_readInto wsX6_readInto) := goodIn_app (goodIn_of _ (by decide +kernel)) ggX6_read_X6_readInto
theorem dX6_read_0 : decode cX6_read 0 = .ok (.aload_n 0, 1) := by decide +kernel
theorem dX6_read_1 : decode cX6_read 1 = .ok (.invokevirtual 134, 3) := by decide +kernel
theorem dX6_read_4 : decode cX6_read 4 = .ok (.ifCond .ne 6, 3) := by decide +kernel
theorem dX6_read_7 : decode cX6_read 7 = .ok (.bipush (-3), 2) := by decide +kernel
theorem dX6_read_9 : decode cX6_read 9 = .ok (.ireturn, 1) := by decide +kernel
theorem dX6_read_10 : decode cX6_read 10 = .ok (.aload_n 0, 1) := by decide +kernel
theorem dX6_read_11 : decode cX6_read 11 = .ok (.getfield 7, 3) := by decide +kernel
theorem dX6_read_14 : decode cX6_read 14 = .ok (.iconst 0, 1) := by decide +kernel
theorem dX6_read_15 : decode cX6_read 15 = .ok (.aload_n 0, 1) := by decide +kernel
theorem dX6_read_16 : decode cX6_read 16 = .ok (.getfield 13, 3) := by decide +kernel
theorem dX6_read_19 : decode cX6_read 19 = .ok (.iconst 0, 1) := by decide +kernel
theorem dX6_read_20 : decode cX6_read 20 = .ok (.invokestatic 69, 3) := by decide +kernel
theorem dX6_read_23 : decode cX6_read 23 = .ok (.iconst 0, 1) := by decide +kernel
theorem dX6_read_24 : decode cX6_read 24 = .ok (.istore_n 1, 1) := by decide +kernel
theorem dX6_read_25 : decode cX6_read 25 = .ok (.iload_n 1, 1) := by decide +kernel
theorem dX6_read_26 : decode cX6_read 26 = .ok (.aload_n 0, 1) := by decide +kernel
theorem dX6_read_27 : decode cX6_read 27 = .ok (.getfield 127, 3) := by decide +kernel
theorem dX6_read_30 : decode cX6_read 30 = .ok (.if_icmp .ge 86, 3) := by decide +kernel
theorem dX6_read_33 : decode cX6_read 33 = .ok (.aload_n 0, 1) := by decide +kernel
theorem dX6_read_34 : decode cX6_read 34 = .ok (.aload_n 0, 1) := by decide +kernel
theorem dX6_read_35 : decode cX6_read 35 = .ok (.getfield 30, 3) := by decide +kernel
theorem dX6_read_38 : decode cX6_read 38 = .ok (.iload_n 1, 1) := by decide +kernel
theorem dX6_read_39 : decode cX6_read 39 = .ok (.laload, 1) := by decide +kernel
theorem dX6_read_40 : decode cX6_read 40 = .ok (.invokevirtual 137, 3) := by decide +kernel
theorem dX6_read_43 : decode cX6_read 43 = .ok (.istore_n 2, 1) := by decide +kernel
theorem dX6_read_44 : decode cX6_read 44 = .ok (.iload_n 2, 1) := by decide +kernel
theorem dX6_read_45 : decode cX6_read 45 = .ok (.bipush (-6), 2) := by decide +kernel
theorem dX6_read_47 : decode cX6_read 47 = .ok (.if_icmp .eq 21, 3) := by decide +kernel
theorem dX6_read_50 : decode cX6_read 50 = .ok (.aload_n 0, 1) := by decide +kernel
theorem dX6_read_51 : decode cX6_read 51 = .ok (.getfield 7, 3) := by decide +kernel
theorem dX6_read_54 : decode cX6_read 54 = .ok (.bipush 34, 2) := by decide +kernel
theorem dX6_read_56 : decode cX6_read 56 = .ok (.iload_n 2, 1) := by decide +kernel
theorem dX6_read_57 : decode cX6_read 57 = .ok (.iadd, 1) := by decide +kernel
theorem dX6_read_58 : decode cX6_read 58 = .ok (.aload_n 0, 1) := by decide +kernel
theorem dX6_read_59 : decode cX6_read 59 = .ok (.getfield 33, 3) := by decide +kernel
theorem dX6_read_62 : decode cX6_read 62 = .ok (.iload_n 1, 1) := by decide +kernel
theorem dX6_read_63 : decode cX6_read 63 = .ok (.laload, 1) := by decide +kernel
theorem dX6_read_64 : decode cX6_read 64 = .ok (.lastore, 1) := by decide +kernel
theorem dX6_read_65 : decode cX6_read 65 = .ok (.goto 45, 3) := by decide +kernel
theorem dX6_read_68 : decode cX6_read 68 = .ok (.aload_n 0, 1) := by decide +kernel
theorem dX6_read_69 : decode cX6_read 69 = .ok (.invokevirtual 73, 3) := by decide +kernel
theorem dX6_read_72 : decode cX6_read 72 = .ok (.bipush 30, 2) := by decide +kernel
theorem dX6_read_74 : decode cX6_read 74 = .ok (.if_icmp .ne 19, 3) := by decide +kernel
theorem dX6_read_77 : decode cX6_read 77 = .ok (.aload_n 0, 1) := by decide +kernel
theorem dX6_read_78 : decode cX6_read 78 = .ok (.getfield 13, 3) := by decide +kernel
theorem dX6_read_81 : decode cX6_read 81 = .ok (.iconst 0, 1) := by decide +kernel
theorem dX6_read_82 : decode cX6_read 82 = .ok (.aload_n 0, 1) := by decide +kernel
theorem dX6_read_83 : decode cX6_read 83 = .ok (.getfield 7, 3) := by decide +kernel
theorem dX6_read_86 : decode cX6_read 86 = .ok (.iconst 0, 1) := by decide +kernel
theorem dX6_read_87 : decode cX6_read 87 = .ok (.invokestatic 69, 3) := by decide +kernel
theorem dX6_read_90 : decode cX6_read 90 = .ok (.bipush (-4), 2) := by decide +kernel
theorem dX6_read_92 : decode cX6_read 92 = .ok (.ireturn, 1) := by decide +kernel
theorem dX6_read_93 : decode cX6_read 93 = .ok (.aload_n 0, 1) := by decide +kernel
theorem dX6_read_94 : decode cX6_read 94 = .ok (.aload_n 0, 1) := by decide +kernel
theorem dX6_read_95 : decode cX6_read 95 = .ok (.getfield 30, 3) := by decide +kernel
theorem dX6_read_98 : decode cX6_read 98 = .ok (.iload_n 1, 1) := by decide +kernel
theorem dX6_read_99 : decode cX6_read 99 = .ok (.laload, 1) := by decide +kernel
theorem dX6_read_100 : decode cX6_read 100 = .ok (.aload_n 0, 1) := by decide +kernel
theorem dX6_read_101 : decode cX6_read 101 = .ok (.getfield 33, 3) := by decide +kernel
theorem dX6_read_104 : decode cX6_read 104 = .ok (.iload_n 1, 1) := by decide +kernel
theorem dX6_read_105 : decode cX6_read 105 = .ok (.laload, 1) := by decide +kernel
theorem dX6_read_106 : decode cX6_read 106 = .ok (.invokevirtual 141, 3) := by decide +kernel
theorem dX6_read_109 : decode cX6_read 109 = .ok (.pop, 1) := by decide +kernel
theorem dX6_read_110 : decode cX6_read 110 = .ok (.iinc 1 1, 3) := by decide +kernel
theorem dX6_read_113 : decode cX6_read 113 = .ok (.goto (-88), 3) := by decide +kernel
theorem dX6_read_116 : decode cX6_read 116 = .ok (.aload_n 0, 1) := by decide +kernel
theorem dX6_read_117 : decode cX6_read 117 = .ok (.invokevirtual 73, 3) := by decide +kernel
theorem dX6_read_120 : decode cX6_read 120 = .ok (.istore_n 1, 1) := by decide +kernel
theorem dX6_read_121 : decode cX6_read 121 = .ok (.aload_n 0, 1) := by decide +kernel
theorem dX6_read_122 : decode cX6_read 122 = .ok (.iload_n 1, 1) := by decide +kernel
theorem dX6_read_123 : decode cX6_read 123 = .ok (.invokevirtual 145, 3) := by decide +kernel
theorem dX6_read_126 : decode cX6_read 126 = .ok (.aload_n 0, 1) := by decide +kernel
theorem dX6_read_127 : decode cX6_read 127 = .ok (.iconst 0, 1) := by decide +kernel
theorem dX6_read_128 : decode cX6_read 128 = .ok (.putfield 110, 3) := by decide +kernel
theorem dX6_read_131 : decode cX6_read 131 = .ok (.iload_n 1, 1) := by decide +kernel
theorem dX6_read_132 : decode cX6_read 132 = .ok (.ireturn, 1) := by decide +kernel
set_option maxRecDepth 20000 in
theorem ggX6_readInto_X6_record : GoodIn wsX6_readInto wsX6_record := goodIn_r _ [7, 8, 9, 1, 10, 11, 6, 12, 13, 14, 15, 16, 17, 18, 19, 20, 21, 22, 23, 24, 25, 26, 27, 28, 29, 30, 31, 32, 33, 34] (by decide +kernel) (by decide +kernel)
set_option maxRecDepth 20000 in
theorem gX6_readInto_X6_record : GoodIn wsX6_readInto (wsV RX6 77 RX6 yX6_record wsX6_record) := goodIn_app (goodIn_of _ (by decide +kernel)) ggX6_readInto_X6_record
set_option maxRecDepth 20000 in
theorem ggX6_readInto_X6_copyState : GoodIn wsX6_readInto wsX6_copyState := goodIn_r _ [12] (by decide +kernel) (by decide +kernel)
set_option maxRecDepth 20000 in
theorem gX6_readInto_X6_copyState : GoodIn wsX6_readInto (va_wsS RX6 69 yX6_copyState wsX6_copyState) := goodIn_app (goodIn_of _ (by decide +kernel)) ggX6_readInto_X6_copyState
theorem dX6_readInto_0 : decode cX6_readInto 0 = .ok (.iconst 0, 1) := by decide +kernel
theorem dX6_readInto_1 : decode cX6_readInto 1 = .ok (.istore_n 2, 1) := by decide +kernel
theorem dX6_readInto_2 : decode cX6_readInto 2 = .ok (.iload_n 2, 1) := by decide +kernel
theorem dX6_readInto_3 : decode cX6_readInto 3 = .ok (.bipush 64, 2) := by decide +kernel
theorem dX6_readInto_5 : decode cX6_readInto 5 = .ok (.if_icmp .ge 35, 3) := by decide +kernel
theorem dX6_readInto_8 : decode cX6_readInto 8 = .ok (.aload_n 0, 1) := by decide +kernel
theorem dX6_readInto_9 : decode cX6_readInto 9 = .ok (.getfield 7, 3) := by decide +kernel
theorem dX6_readInto_12 : decode cX6_readInto 12 = .ok (.iload_n 2, 1) := by decide +kernel
theorem dX6_readInto_13 : decode cX6_readInto 13 = .ok (.laload, 1) := by decide +kernel
theorem dX6_readInto_14 : decode cX6_readInto 14 = .ok (.lstore_n 3, 1) := by decide +kernel
theorem dX6_readInto_15 : decode cX6_readInto 15 = .ok (.aload_n 0, 1) := by decide +kernel
theorem dX6_readInto_16 : decode cX6_readInto 16 = .ok (.getfield 7, 3) := by decide +kernel
theorem dX6_readInto_19 : decode cX6_readInto 19 = .ok (.iload_n 2, 1) := by decide +kernel
theorem dX6_readInto_20 : decode cX6_readInto 20 = .ok (.aload_n 0, 1) := by decide +kernel
theorem dX6_readInto_21 : decode cX6_readInto 21 = .ok (.getfield 13, 3) := by decide +kernel
theorem dX6_readInto_24 : decode cX6_readInto 24 = .ok (.iload_n 2, 1) := by decide +kernel
theorem dX6_readInto_25 : decode cX6_readInto 25 = .ok (.laload, 1) := by decide +kernel
theorem dX6_readInto_26 : decode cX6_readInto 26 = .ok (.lastore, 1) := by decide +kernel
theorem dX6_readInto_27 : decode cX6_readInto 27 = .ok (.aload_n 0, 1) := by decide +kernel
theorem dX6_readInto_28 : decode cX6_readInto 28 = .ok (.getfield 13, 3) := by decide +kernel
theorem dX6_readInto_31 : decode cX6_readInto 31 = .ok (.iload_n 2, 1) := by decide +kernel
theorem dX6_readInto_32 : decode cX6_readInto 32 = .ok (.lload_n 3, 1) := by decide +kernel
theorem dX6_readInto_33 : decode cX6_readInto 33 = .ok (.lastore, 1) := by decide +kernel
theorem dX6_readInto_34 : decode cX6_readInto 34 = .ok (.iinc 2 1, 3) := by decide +kernel
theorem dX6_readInto_37 : decode cX6_readInto 37 = .ok (.goto (-35), 3) := by decide +kernel
theorem dX6_readInto_40 : decode cX6_readInto 40 = .ok (.aload_n 0, 1) := by decide +kernel
theorem dX6_readInto_41 : decode cX6_readInto 41 = .ok (.invokevirtual 77, 3) := by decide +kernel
theorem dX6_readInto_44 : decode cX6_readInto 44 = .ok (.aload_n 0, 1) := by decide +kernel
theorem dX6_readInto_45 : decode cX6_readInto 45 = .ok (.getfield 13, 3) := by decide +kernel
theorem dX6_readInto_48 : decode cX6_readInto 48 = .ok (.iconst 0, 1) := by decide +kernel
theorem dX6_readInto_49 : decode cX6_readInto 49 = .ok (.aload_n 0, 1) := by decide +kernel
theorem dX6_readInto_50 : decode cX6_readInto 50 = .ok (.getfield 7, 3) := by decide +kernel
theorem dX6_readInto_53 : decode cX6_readInto 53 = .ok (.iconst 0, 1) := by decide +kernel
theorem dX6_readInto_54 : decode cX6_readInto 54 = .ok (.invokestatic 69, 3) := by decide +kernel
theorem dX6_readInto_57 : decode cX6_readInto 57 = .ok (.return_, 1) := by decide +kernel
set_option maxRecDepth 20000 in
theorem ggX6_change_X6_isEntry : GoodIn wsX6_change wsX6_isEntry := goodIn_r _ [7, 2, 8, 9, 6, 10, 24, 25, 26, 27, 28, 29, 30, 31, 32, 33, 34, 35, 36, 37, 38, 39, 40, 41, 42, 43, 44, 45] (by decide +kernel) (by decide +kernel)
set_option maxRecDepth 20000 in
theorem gX6_change_X6_isEntry : GoodIn wsX6_change (wsV RX6 149 RX6 yX6_isEntry wsX6_isEntry) := goodIn_app (goodIn_of _ (by decide +kernel)) ggX6_change_X6_isEntry
set_option maxRecDepth 20000 in
theorem ggX6_change_X6_in : GoodIn wsX6_change wsX6_in := goodIn_r _ [10] (by decide +kernel) (by decide +kernel)
set_option maxRecDepth 20000 in
theorem gX6_change_X6_in : GoodIn wsX6_change (va_wsS RX6 61 yX6_in wsX6_in) := goodIn_app (goodIn_of _ (by decide +kernel)) ggX6_change_X6_in
set_option maxRecDepth 20000 in
theorem ggX6_change_X6_record : GoodIn wsX6_change wsX6_record := goodIn_r _ [14, 15, 16, 2, 17, 18, 6, 19, 24, 25, 26, 27, 28, 29, 30, 31, 32, 33, 34, 35, 36, 37, 38, 39, 40, 41, 42, 43, 44, 45] (by decide +kernel) (by decide +kernel)
set_option maxRecDepth 20000 in
theorem gX6_change_X6_record : GoodIn wsX6_change (wsV RX6 77 RX6 yX6_record wsX6_record) := goodIn_app (goodIn_of _ (by decide +kernel)) ggX6_change_X6_record
set_option maxRecDepth 20000 in
theorem ggX6_change_X6_lines : GoodIn wsX6_change wsX6_lines := goodIn_r _ [23, 2, 24, 25, 26, 27, 28, 29, 30, 31, 32, 33, 34, 35, 36, 37, 38, 39, 40, 41, 42, 43, 44, 45] (by decide +kernel) (by decide +kernel)
set_option maxRecDepth 20000 in
theorem gX6_change_X6_lines : GoodIn wsX6_change (wsV RX6 152 RX6 yX6_lines wsX6_lines) := goodIn_app (goodIn_of _ (by decide +kernel)) ggX6_change_X6_lines
theorem dX6_change_0 : decode cX6_change 0 = .ok (.aload_n 0, 1) := by decide +kernel
theorem dX6_change_1 : decode cX6_change 1 = .ok (.iload_n 1, 1) := by decide +kernel
theorem dX6_change_2 : decode cX6_change 2 = .ok (.invokevirtual 149, 3) := by decide +kernel
theorem dX6_change_5 : decode cX6_change 5 = .ok (.ifCond .ne 5, 3) := by decide +kernel
theorem dX6_change_8 : decode cX6_change 8 = .ok (.iconst (-1), 1) := by decide +kernel
theorem dX6_change_9 : decode cX6_change 9 = .ok (.ireturn, 1) := by decide +kernel
theorem dX6_change_10 : decode cX6_change 10 = .ok (.iload_n 2, 1) := by decide +kernel
theorem dX6_change_11 : decode cX6_change 11 = .ok (.i2l, 1) := by decide +kernel
theorem dX6_change_12 : decode cX6_change 12 = .ok (.lconst 1, 1) := by decide +kernel
theorem dX6_change_13 : decode cX6_change 13 = .ok (.ldc2_w 82, 3) := by decide +kernel
theorem dX6_change_16 : decode cX6_change 16 = .ok (.invokestatic 61, 3) := by decide +kernel
theorem dX6_change_19 : decode cX6_change 19 = .ok (.ifCond .ne 6, 3) := by decide +kernel
theorem dX6_change_22 : decode cX6_change 22 = .ok (.bipush (-2), 2) := by decide +kernel
theorem dX6_change_24 : decode cX6_change 24 = .ok (.ireturn, 1) := by decide +kernel
theorem dX6_change_25 : decode cX6_change 25 = .ok (.aload_n 0, 1) := by decide +kernel
theorem dX6_change_26 : decode cX6_change 26 = .ok (.invokevirtual 77, 3) := by decide +kernel
theorem dX6_change_29 : decode cX6_change 29 = .ok (.aload_n 0, 1) := by decide +kernel
theorem dX6_change_30 : decode cX6_change 30 = .ok (.iload_n 1, 1) := by decide +kernel
theorem dX6_change_31 : decode cX6_change 31 = .ok (.invokevirtual 152, 3) := by decide +kernel
theorem dX6_change_34 : decode cX6_change 34 = .ok (.istore_n 3, 1) := by decide +kernel
theorem dX6_change_35 : decode cX6_change 35 = .ok (.aload_n 0, 1) := by decide +kernel
theorem dX6_change_36 : decode cX6_change 36 = .ok (.getfield 7, 3) := by decide +kernel
theorem dX6_change_39 : decode cX6_change 39 = .ok (.bipush 34, 2) := by decide +kernel
theorem dX6_change_41 : decode cX6_change 41 = .ok (.iload_n 1, 1) := by decide +kernel
theorem dX6_change_42 : decode cX6_change 42 = .ok (.iadd, 1) := by decide +kernel
theorem dX6_change_43 : decode cX6_change 43 = .ok (.iload_n 2, 1) := by decide +kernel
theorem dX6_change_44 : decode cX6_change 44 = .ok (.i2l, 1) := by decide +kernel
theorem dX6_change_45 : decode cX6_change 45 = .ok (.lastore, 1) := by decide +kernel
theorem dX6_change_46 : decode cX6_change 46 = .ok (.iload_n 3, 1) := by decide +kernel
theorem dX6_change_47 : decode cX6_change 47 = .ok (.ireturn, 1) := by decide +kernel
set_option maxRecDepth 20000 in
theorem ggX6_drop_X6_isEntry : GoodIn wsX6_drop wsX6_isEntry := goodIn_r _ [5, 6, 7, 8, 4, 9, 31, 32, 33, 34, 35, 36, 37, 38, 39, 40, 41, 42, 43, 44, 45, 46, 47, 48, 49, 50, 51, 52] (by decide +kernel) (by decide +kernel)
set_option maxRecDepth 20000 in
theorem gX6_drop_X6_isEntry : GoodIn wsX6_drop (wsV RX6 149 RX6 yX6_isEntry wsX6_isEntry) := goodIn_app (goodIn_of _ (by decide +kernel)) ggX6_drop_X6_isEntry
set_option maxRecDepth 20000 in
theorem ggX6_drop_X6_record : GoodIn wsX6_drop wsX6_record := goodIn_r _ [13, 14, 15, 6, 16, 17, 4, 18, 31, 32, 33, 34, 35, 36, 37, 38, 39, 40, 41, 42, 43, 44, 45, 46, 47, 48, 49, 50, 51, 52] (by decide +kernel) (by decide +kernel)
set_option maxRecDepth 20000 in
theorem gX6_drop_X6_record : GoodIn wsX6_drop (wsV RX6 77 RX6 yX6_record wsX6_record) := goodIn_app (goodIn_of _ (by decide +kernel)) ggX6_drop_X6_record
set_option maxRecDepth 20000 in
theorem ggX6_drop_X6_lines : GoodIn wsX6_drop wsX6_lines := goodIn_r _ [22, 6, 31, 32, 33, 34, 35, 36, 37, 38, 39, 40, 41, 42, 43, 44, 45, 46, 47, 48, 49, 50, 51, 52] (by decide +kernel) (by decide +kernel)
set_option maxRecDepth 20000 in
theorem gX6_drop_X6_lines : GoodIn wsX6_drop (wsV RX6 152 RX6 yX6_lines wsX6_lines) := goodIn_app (goodIn_of _ (by decide +kernel)) ggX6_drop_X6_lines
set_option maxRecDepth 20000 in
theorem ggX6_drop_X6_remove : GoodIn wsX6_drop wsX6_remove := goodIn_r _ [26, 6, 27, 28, 29, 4, 30, 31, 32, 33, 34, 35, 36, 37, 38, 39, 40, 41, 42, 43, 44, 45, 46, 47, 48, 49, 50, 51, 52] (by decide +kernel) (by decide +kernel)
set_option maxRecDepth 20000 in
theorem gX6_drop_X6_remove : GoodIn wsX6_drop (wsV RX6 156 RX6 yX6_remove wsX6_remove) := goodIn_app (goodIn_of _ (by decide +kernel)) ggX6_drop_X6_remove
theorem dX6_drop_0 : decode cX6_drop 0 = .ok (.aload_n 0, 1) := by decide +kernel
theorem dX6_drop_1 : decode cX6_drop 1 = .ok (.iload_n 1, 1) := by decide +kernel
theorem dX6_drop_2 : decode cX6_drop 2 = .ok (.invokevirtual 149, 3) := by decide +kernel
theorem dX6_drop_5 : decode cX6_drop 5 = .ok (.ifCond .ne 5, 3) := by decide +kernel
theorem dX6_drop_8 : decode cX6_drop 8 = .ok (.iconst (-1), 1) := by decide +kernel
theorem dX6_drop_9 : decode cX6_drop 9 = .ok (.ireturn, 1) := by decide +kernel
theorem dX6_drop_10 : decode cX6_drop 10 = .ok (.aload_n 0, 1) := by decide +kernel
theorem dX6_drop_11 : decode cX6_drop 11 = .ok (.invokevirtual 77, 3) := by decide +kernel
theorem dX6_drop_14 : decode cX6_drop 14 = .ok (.aload_n 0, 1) := by decide +kernel
theorem dX6_drop_15 : decode cX6_drop 15 = .ok (.iload_n 1, 1) := by decide +kernel
theorem dX6_drop_16 : decode cX6_drop 16 = .ok (.invokevirtual 152, 3) := by decide +kernel
theorem dX6_drop_19 : decode cX6_drop 19 = .ok (.istore_n 2, 1) := by decide +kernel
theorem dX6_drop_20 : decode cX6_drop 20 = .ok (.aload_n 0, 1) := by decide +kernel
theorem dX6_drop_21 : decode cX6_drop 21 = .ok (.iload_n 1, 1) := by decide +kernel
theorem dX6_drop_22 : decode cX6_drop 22 = .ok (.invokevirtual 156, 3) := by decide +kernel
theorem dX6_drop_25 : decode cX6_drop 25 = .ok (.iload_n 2, 1) := by decide +kernel
theorem dX6_drop_26 : decode cX6_drop 26 = .ok (.ireturn, 1) := by decide +kernel
set_option maxRecDepth 20000 in
theorem ggX6_join_X6_isEntry : GoodIn wsX6_join wsX6_isEntry := goodIn_r _ [6, 1, 7, 8, 5, 9, 31, 32, 33, 34, 35, 36, 37, 38, 39, 40, 41, 42, 43, 44, 45, 46, 47, 48, 49, 50, 51, 52] (by decide +kernel) (by decide +kernel)
set_option maxRecDepth 20000 in
theorem gX6_join_X6_isEntry : GoodIn wsX6_join (wsV RX6 149 RX6 yX6_isEntry wsX6_isEntry) := goodIn_app (goodIn_of _ (by decide +kernel)) ggX6_join_X6_isEntry
set_option maxRecDepth 20000 in
theorem ggX6_join_X6_lines : GoodIn wsX6_join wsX6_lines := goodIn_r _ [13, 1, 31, 32, 33, 34, 35, 36, 37, 38, 39, 40, 41, 42, 43, 44, 45, 46, 47, 48, 49, 50, 51, 52] (by decide +kernel) (by decide +kernel)
set_option maxRecDepth 20000 in
theorem gX6_join_X6_lines : GoodIn wsX6_join (wsV RX6 152 RX6 yX6_lines wsX6_lines) := goodIn_app (goodIn_of _ (by decide +kernel)) ggX6_join_X6_lines
set_option maxRecDepth 20000 in
theorem ggX6_join_X6_record : GoodIn wsX6_join wsX6_record := goodIn_r _ [17, 18, 19, 1, 20, 21, 5, 22, 31, 32, 33, 34, 35, 36, 37, 38, 39, 40, 41, 42, 43, 44, 45, 46, 47, 48, 49, 50, 51, 52] (by decide +kernel) (by decide +kernel)
set_option maxRecDepth 20000 in
theorem gX6_join_X6_record : GoodIn wsX6_join (wsV RX6 77 RX6 yX6_record wsX6_record) := goodIn_app (goodIn_of _ (by decide +kernel)) ggX6_join_X6_record
set_option maxRecDepth 20000 in
theorem ggX6_join_X6_remove : GoodIn wsX6_join wsX6_remove := goodIn_r _ [26, 1, 27, 28, 29, 5, 30, 31, 32, 33, 34, 35, 36, 37, 38, 39, 40, 41, 42, 43, 44, 45, 46, 47, 48, 49, 50, 51, 52] (by decide +kernel) (by decide +kernel)
set_option maxRecDepth 20000 in
theorem gX6_join_X6_remove : GoodIn wsX6_join (wsV RX6 156 RX6 yX6_remove wsX6_remove) := goodIn_app (goodIn_of _ (by decide +kernel)) ggX6_join_X6_remove
theorem dX6_join_0 : decode cX6_join 0 = .ok (.aload_n 0, 1) := by decide +kernel
theorem dX6_join_1 : decode cX6_join 1 = .ok (.iload_n 1, 1) := by decide +kernel
theorem dX6_join_2 : decode cX6_join 2 = .ok (.invokevirtual 149, 3) := by decide +kernel
theorem dX6_join_5 : decode cX6_join 5 = .ok (.ifCond .eq 13, 3) := by decide +kernel
theorem dX6_join_8 : decode cX6_join 8 = .ok (.aload_n 0, 1) := by decide +kernel
theorem dX6_join_9 : decode cX6_join 9 = .ok (.iload_n 1, 1) := by decide +kernel
theorem dX6_join_10 : decode cX6_join 10 = .ok (.iconst 1, 1) := by decide +kernel
theorem dX6_join_11 : decode cX6_join 11 = .ok (.iadd, 1) := by decide +kernel
theorem dX6_join_12 : decode cX6_join 12 = .ok (.invokevirtual 149, 3) := by decide +kernel
theorem dX6_join_15 : decode cX6_join 15 = .ok (.ifCond .ne 5, 3) := by decide +kernel
theorem dX6_join_18 : decode cX6_join 18 = .ok (.iconst (-1), 1) := by decide +kernel
theorem dX6_join_19 : decode cX6_join 19 = .ok (.ireturn, 1) := by decide +kernel
theorem dX6_join_20 : decode cX6_join 20 = .ok (.aload_n 0, 1) := by decide +kernel
theorem dX6_join_21 : decode cX6_join 21 = .ok (.iload_n 1, 1) := by decide +kernel
theorem dX6_join_22 : decode cX6_join 22 = .ok (.invokevirtual 152, 3) := by decide +kernel
theorem dX6_join_25 : decode cX6_join 25 = .ok (.aload_n 0, 1) := by decide +kernel
theorem dX6_join_26 : decode cX6_join 26 = .ok (.iload_n 1, 1) := by decide +kernel
theorem dX6_join_27 : decode cX6_join 27 = .ok (.iconst 1, 1) := by decide +kernel
theorem dX6_join_28 : decode cX6_join 28 = .ok (.iadd, 1) := by decide +kernel
theorem dX6_join_29 : decode cX6_join 29 = .ok (.invokevirtual 152, 3) := by decide +kernel
theorem dX6_join_32 : decode cX6_join 32 = .ok (.iadd, 1) := by decide +kernel
theorem dX6_join_33 : decode cX6_join 33 = .ok (.istore_n 2, 1) := by decide +kernel
theorem dX6_join_34 : decode cX6_join 34 = .ok (.iload_n 2, 1) := by decide +kernel
theorem dX6_join_35 : decode cX6_join 35 = .ok (.bipush 40, 2) := by decide +kernel
theorem dX6_join_37 : decode cX6_join 37 = .ok (.if_icmp .le 6, 3) := by decide +kernel
theorem dX6_join_40 : decode cX6_join 40 = .ok (.bipush (-4), 2) := by decide +kernel
theorem dX6_join_42 : decode cX6_join 42 = .ok (.ireturn, 1) := by decide +kernel
theorem dX6_join_43 : decode cX6_join 43 = .ok (.aload_n 0, 1) := by decide +kernel
theorem dX6_join_44 : decode cX6_join 44 = .ok (.invokevirtual 77, 3) := by decide +kernel
theorem dX6_join_47 : decode cX6_join 47 = .ok (.aload_n 0, 1) := by decide +kernel
theorem dX6_join_48 : decode cX6_join 48 = .ok (.getfield 7, 3) := by decide +kernel
theorem dX6_join_51 : decode cX6_join 51 = .ok (.bipush 34, 2) := by decide +kernel
theorem dX6_join_53 : decode cX6_join 53 = .ok (.iload_n 1, 1) := by decide +kernel
theorem dX6_join_54 : decode cX6_join 54 = .ok (.iadd, 1) := by decide +kernel
theorem dX6_join_55 : decode cX6_join 55 = .ok (.iload_n 2, 1) := by decide +kernel
theorem dX6_join_56 : decode cX6_join 56 = .ok (.i2l, 1) := by decide +kernel
theorem dX6_join_57 : decode cX6_join 57 = .ok (.lastore, 1) := by decide +kernel
theorem dX6_join_58 : decode cX6_join 58 = .ok (.aload_n 0, 1) := by decide +kernel
theorem dX6_join_59 : decode cX6_join 59 = .ok (.iload_n 1, 1) := by decide +kernel
theorem dX6_join_60 : decode cX6_join 60 = .ok (.iconst 1, 1) := by decide +kernel
theorem dX6_join_61 : decode cX6_join 61 = .ok (.iadd, 1) := by decide +kernel
theorem dX6_join_62 : decode cX6_join 62 = .ok (.invokevirtual 156, 3) := by decide +kernel
theorem dX6_join_65 : decode cX6_join 65 = .ok (.iload_n 2, 1) := by decide +kernel
theorem dX6_join_66 : decode cX6_join 66 = .ok (.ireturn, 1) := by decide +kernel
set_option maxRecDepth 20000 in
theorem ggX6_rename_X6_isEntry : GoodIn wsX6_rename wsX6_isEntry := goodIn_r _ [7, 1, 8, 9, 6, 10, 54, 55, 56, 57, 58, 59, 60, 61, 62, 63, 64, 65, 66, 67, 68, 69, 70, 71, 72, 73, 74, 75] (by decide +kernel) (by decide +kernel)
set_option maxRecDepth 20000 in
theorem gX6_rename_X6_isEntry : GoodIn wsX6_rename (wsV RX6 149 RX6 yX6_isEntry wsX6_isEntry) := goodIn_app (goodIn_of _ (by decide +kernel)) ggX6_rename_X6_isEntry
set_option maxRecDepth 20000 in
theorem ggX6_rename_X6_padWord : GoodIn wsX6_rename wsX6_padWord := goodIn_r _ [14, 15, 2, 16, 17, 18, 6, 19, 20, 21, 22, 23, 24, 8, 9, 10, 25, 26, 27, 28, 54, 55, 56, 57, 58, 59, 60, 61, 62, 63, 64, 65, 66, 67, 68, 69, 70, 71, 72, 73, 74, 75] (by decide +kernel) (by decide +kernel)
set_option maxRecDepth 20000 in
theorem gX6_rename_X6_padWord : GoodIn wsX6_rename (wsV RX6 159 RX6 yX6_padWord wsX6_padWord) := goodIn_app (goodIn_of _ (by decide +kernel)) ggX6_rename_X6_padWord
set_option maxRecDepth 20000 in
theorem ggX6_rename_X6_entryWith : GoodIn wsX6_rename wsX6_entryWith := goodIn_r _ [32, 1, 33, 34, 35, 6, 36, 54, 55, 56, 57, 58, 59, 60, 61, 62, 63, 64, 65, 66, 67, 68, 69, 70, 71, 72, 73, 74, 75] (by decide +kernel) (by decide +kernel)
set_option maxRecDepth 20000 in
theorem gX6_rename_X6_entryWith : GoodIn wsX6_rename (wsV RX6 137 RX6 yX6_entryWith wsX6_entryWith) := goodIn_app (goodIn_of _ (by decide +kernel)) ggX6_rename_X6_entryWith
set_option maxRecDepth 20000 in
theorem ggX6_rename_X6_record : GoodIn wsX6_rename wsX6_record := goodIn_r _ [40, 41, 42, 1, 43, 44, 6, 45, 54, 55, 56, 57, 58, 59, 60, 61, 62, 63, 64, 65, 66, 67, 68, 69, 70, 71, 72, 73, 74, 75] (by decide +kernel) (by decide +kernel)
set_option maxRecDepth 20000 in
theorem gX6_rename_X6_record : GoodIn wsX6_rename (wsV RX6 77 RX6 yX6_record wsX6_record) := goodIn_app (goodIn_of _ (by decide +kernel)) ggX6_rename_X6_record
set_option maxRecDepth 20000 in
theorem ggX6_rename_X6_remove : GoodIn wsX6_rename wsX6_remove := goodIn_r _ [49, 1, 33, 34, 35, 6, 36, 54, 55, 56, 57, 58, 59, 60, 61, 62, 63, 64, 65, 66, 67, 68, 69, 70, 71, 72, 73, 74, 75] (by decide +kernel) (by decide +kernel)
set_option maxRecDepth 20000 in
theorem gX6_rename_X6_remove : GoodIn wsX6_rename (wsV RX6 156 RX6 yX6_remove wsX6_remove) := goodIn_app (goodIn_of _ (by decide +kernel)) ggX6_rename_X6_remove
set_option maxRecDepth 20000 in
theorem ggX6_rename_X6_insert : GoodIn wsX6_rename wsX6_insert := goodIn_r _ [53, 1, 33, 34, 35, 6, 36, 54, 55, 56, 57, 58, 59, 60, 61, 62, 63, 64, 65, 66, 67, 68, 69, 70, 71, 72, 73, 74, 75] (by decide +kernel) (by decide +kernel)
set_option maxRecDepth 20000 in
theorem gX6_rename_X6_insert : GoodIn wsX6_rename (wsV RX6 141 RX6 yX6_insert wsX6_insert) := goodIn_app (goodIn_of _ (by decide +kernel)) ggX6_rename_X6_insert
theorem dX6_rename_0 : decode cX6_rename 0 = .ok (.aload_n 0, 1) := by decide +kernel
theorem dX6_rename_1 : decode cX6_rename 1 = .ok (.iload_n 1, 1) := by decide +kernel
theorem dX6_rename_2 : decode cX6_rename 2 = .ok (.invokevirtual 149, 3) := by decide +kernel
theorem dX6_rename_5 : decode cX6_rename 5 = .ok (.ifCond .ne 5, 3) := by decide +kernel
theorem dX6_rename_8 : decode cX6_rename 8 = .ok (.iconst (-1), 1) := by decide +kernel
theorem dX6_rename_9 : decode cX6_rename 9 = .ok (.ireturn, 1) := by decide +kernel
theorem dX6_rename_10 : decode cX6_rename 10 = .ok (.aload_n 0, 1) := by decide +kernel
theorem dX6_rename_11 : decode cX6_rename 11 = .ok (.invokevirtual 159, 3) := by decide +kernel
theorem dX6_rename_14 : decode cX6_rename 14 = .ok (.lstore_n 2, 1) := by decide +kernel
theorem dX6_rename_15 : decode cX6_rename 15 = .ok (.lload_n 2, 1) := by decide +kernel
theorem dX6_rename_16 : decode cX6_rename 16 = .ok (.lconst 0, 1) := by decide +kernel
theorem dX6_rename_17 : decode cX6_rename 17 = .ok (.lcmp, 1) := by decide +kernel
theorem dX6_rename_18 : decode cX6_rename 18 = .ok (.ifCond .ne 6, 3) := by decide +kernel
theorem dX6_rename_21 : decode cX6_rename 21 = .ok (.bipush (-3), 2) := by decide +kernel
theorem dX6_rename_23 : decode cX6_rename 23 = .ok (.ireturn, 1) := by decide +kernel
theorem dX6_rename_24 : decode cX6_rename 24 = .ok (.aload_n 0, 1) := by decide +kernel
theorem dX6_rename_25 : decode cX6_rename 25 = .ok (.lload_n 2, 1) := by decide +kernel
theorem dX6_rename_26 : decode cX6_rename 26 = .ok (.invokevirtual 137, 3) := by decide +kernel
theorem dX6_rename_29 : decode cX6_rename 29 = .ok (.istore 4, 2) := by decide +kernel
theorem dX6_rename_31 : decode cX6_rename 31 = .ok (.iload 4, 2) := by decide +kernel
theorem dX6_rename_33 : decode cX6_rename 33 = .ok (.bipush (-6), 2) := by decide +kernel
theorem dX6_rename_35 : decode cX6_rename 35 = .ok (.if_icmp .eq 12, 3) := by decide +kernel
theorem dX6_rename_38 : decode cX6_rename 38 = .ok (.iload 4, 2) := by decide +kernel
theorem dX6_rename_40 : decode cX6_rename 40 = .ok (.iload_n 1, 1) := by decide +kernel
theorem dX6_rename_41 : decode cX6_rename 41 = .ok (.if_icmp .eq 6, 3) := by decide +kernel
theorem dX6_rename_44 : decode cX6_rename 44 = .ok (.bipush (-5), 2) := by decide +kernel
theorem dX6_rename_46 : decode cX6_rename 46 = .ok (.ireturn, 1) := by decide +kernel
theorem dX6_rename_47 : decode cX6_rename 47 = .ok (.aload_n 0, 1) := by decide +kernel
theorem dX6_rename_48 : decode cX6_rename 48 = .ok (.invokevirtual 77, 3) := by decide +kernel
theorem dX6_rename_51 : decode cX6_rename 51 = .ok (.aload_n 0, 1) := by decide +kernel
theorem dX6_rename_52 : decode cX6_rename 52 = .ok (.getfield 7, 3) := by decide +kernel
theorem dX6_rename_55 : decode cX6_rename 55 = .ok (.bipush 34, 2) := by decide +kernel
theorem dX6_rename_57 : decode cX6_rename 57 = .ok (.iload_n 1, 1) := by decide +kernel
theorem dX6_rename_58 : decode cX6_rename 58 = .ok (.iadd, 1) := by decide +kernel
theorem dX6_rename_59 : decode cX6_rename 59 = .ok (.laload, 1) := by decide +kernel
theorem dX6_rename_60 : decode cX6_rename 60 = .ok (.lstore 5, 2) := by decide +kernel
theorem dX6_rename_62 : decode cX6_rename 62 = .ok (.aload_n 0, 1) := by decide +kernel
theorem dX6_rename_63 : decode cX6_rename 63 = .ok (.iload_n 1, 1) := by decide +kernel
theorem dX6_rename_64 : decode cX6_rename 64 = .ok (.invokevirtual 156, 3) := by decide +kernel
theorem dX6_rename_67 : decode cX6_rename 67 = .ok (.aload_n 0, 1) := by decide +kernel
theorem dX6_rename_68 : decode cX6_rename 68 = .ok (.iconst 0, 1) := by decide +kernel
theorem dX6_rename_69 : decode cX6_rename 69 = .ok (.putfield 110, 3) := by decide +kernel
theorem dX6_rename_72 : decode cX6_rename 72 = .ok (.aload_n 0, 1) := by decide +kernel
theorem dX6_rename_73 : decode cX6_rename 73 = .ok (.lload_n 2, 1) := by decide +kernel
theorem dX6_rename_74 : decode cX6_rename 74 = .ok (.lload 5, 2) := by decide +kernel
theorem dX6_rename_76 : decode cX6_rename 76 = .ok (.invokevirtual 141, 3) := by decide +kernel
theorem dX6_rename_79 : decode cX6_rename 79 = .ok (.ireturn, 1) := by decide +kernel
theorem dX6_room_0 : decode cX6_room 0 = .ok (.aload_n 0, 1) := by decide +kernel
theorem dX6_room_1 : decode cX6_room 1 = .ok (.getfield 7, 3) := by decide +kernel
theorem dX6_room_4 : decode cX6_room 4 = .ok (.iconst 0, 1) := by decide +kernel
theorem dX6_room_5 : decode cX6_room 5 = .ok (.laload, 1) := by decide +kernel
theorem dX6_room_6 : decode cX6_room 6 = .ok (.l2i, 1) := by decide +kernel
theorem dX6_room_7 : decode cX6_room 7 = .ok (.aload_n 0, 1) := by decide +kernel
theorem dX6_room_8 : decode cX6_room 8 = .ok (.getfield 36, 3) := by decide +kernel
theorem dX6_room_11 : decode cX6_room 11 = .ok (.iload_n 1, 1) := by decide +kernel
theorem dX6_room_12 : decode cX6_room 12 = .ok (.iaload, 1) := by decide +kernel
theorem dX6_room_13 : decode cX6_room 13 = .ok (.isub, 1) := by decide +kernel
theorem dX6_room_14 : decode cX6_room 14 = .ok (.ireturn, 1) := by decide +kernel
theorem dX6_lay_0 : decode cX6_lay 0 = .ok (.aload_n 0, 1) := by decide +kernel
theorem dX6_lay_1 : decode cX6_lay 1 = .ok (.getfield 42, 3) := by decide +kernel
theorem dX6_lay_4 : decode cX6_lay 4 = .ok (.iload_n 2, 1) := by decide +kernel
theorem dX6_lay_5 : decode cX6_lay 5 = .ok (.aload_n 0, 1) := by decide +kernel
theorem dX6_lay_6 : decode cX6_lay 6 = .ok (.getfield 39, 3) := by decide +kernel
theorem dX6_lay_9 : decode cX6_lay 9 = .ok (.iload_n 2, 1) := by decide +kernel
theorem dX6_lay_10 : decode cX6_lay 10 = .ok (.iaload, 1) := by decide +kernel
theorem dX6_lay_11 : decode cX6_lay 11 = .ok (.ifCond .ne 7, 3) := by decide +kernel
theorem dX6_lay_14 : decode cX6_lay 14 = .ok (.iload_n 1, 1) := by decide +kernel
theorem dX6_lay_15 : decode cX6_lay 15 = .ok (.goto 9, 3) := by decide +kernel
theorem dX6_lay_18 : decode cX6_lay 18 = .ok (.aload_n 0, 1) := by decide +kernel
theorem dX6_lay_19 : decode cX6_lay 19 = .ok (.getfield 42, 3) := by decide +kernel
theorem dX6_lay_22 : decode cX6_lay 22 = .ok (.iload_n 2, 1) := by decide +kernel
theorem dX6_lay_23 : decode cX6_lay 23 = .ok (.iaload, 1) := by decide +kernel
theorem dX6_lay_24 : decode cX6_lay 24 = .ok (.iastore, 1) := by decide +kernel
theorem dX6_lay_25 : decode cX6_lay 25 = .ok (.aload_n 0, 1) := by decide +kernel
theorem dX6_lay_26 : decode cX6_lay 26 = .ok (.getfield 45, 3) := by decide +kernel
theorem dX6_lay_29 : decode cX6_lay 29 = .ok (.iload_n 2, 1) := by decide +kernel
theorem dX6_lay_30 : decode cX6_lay 30 = .ok (.iload_n 1, 1) := by decide +kernel
theorem dX6_lay_31 : decode cX6_lay 31 = .ok (.iastore, 1) := by decide +kernel
theorem dX6_lay_32 : decode cX6_lay 32 = .ok (.aload_n 0, 1) := by decide +kernel
theorem dX6_lay_33 : decode cX6_lay 33 = .ok (.getfield 54, 3) := by decide +kernel
theorem dX6_lay_36 : decode cX6_lay 36 = .ok (.iload_n 1, 1) := by decide +kernel
theorem dX6_lay_37 : decode cX6_lay 37 = .ok (.iaload, 1) := by decide +kernel
theorem dX6_lay_38 : decode cX6_lay 38 = .ok (.bipush (-6), 2) := by decide +kernel
theorem dX6_lay_40 : decode cX6_lay 40 = .ok (.if_icmp .ne 22, 3) := by decide +kernel
theorem dX6_lay_43 : decode cX6_lay 43 = .ok (.aload_n 0, 1) := by decide +kernel
theorem dX6_lay_44 : decode cX6_lay 44 = .ok (.getfield 48, 3) := by decide +kernel
theorem dX6_lay_47 : decode cX6_lay 47 = .ok (.iload_n 1, 1) := by decide +kernel
theorem dX6_lay_48 : decode cX6_lay 48 = .ok (.iload_n 2, 1) := by decide +kernel
theorem dX6_lay_49 : decode cX6_lay 49 = .ok (.iastore, 1) := by decide +kernel
theorem dX6_lay_50 : decode cX6_lay 50 = .ok (.aload_n 0, 1) := by decide +kernel
theorem dX6_lay_51 : decode cX6_lay 51 = .ok (.getfield 51, 3) := by decide +kernel
theorem dX6_lay_54 : decode cX6_lay 54 = .ok (.iload_n 1, 1) := by decide +kernel
theorem dX6_lay_55 : decode cX6_lay 55 = .ok (.aload_n 0, 1) := by decide +kernel
theorem dX6_lay_56 : decode cX6_lay 56 = .ok (.getfield 39, 3) := by decide +kernel
theorem dX6_lay_59 : decode cX6_lay 59 = .ok (.iload_n 2, 1) := by decide +kernel
theorem dX6_lay_60 : decode cX6_lay 60 = .ok (.iaload, 1) := by decide +kernel
theorem dX6_lay_61 : decode cX6_lay 61 = .ok (.iastore, 1) := by decide +kernel
theorem dX6_lay_62 : decode cX6_lay 62 = .ok (.aload_n 0, 1) := by decide +kernel
theorem dX6_lay_63 : decode cX6_lay 63 = .ok (.getfield 54, 3) := by decide +kernel
theorem dX6_lay_66 : decode cX6_lay 66 = .ok (.iload_n 1, 1) := by decide +kernel
theorem dX6_lay_67 : decode cX6_lay 67 = .ok (.iload_n 2, 1) := by decide +kernel
theorem dX6_lay_68 : decode cX6_lay 68 = .ok (.iastore, 1) := by decide +kernel
theorem dX6_lay_69 : decode cX6_lay 69 = .ok (.aload_n 0, 1) := by decide +kernel
theorem dX6_lay_70 : decode cX6_lay 70 = .ok (.getfield 39, 3) := by decide +kernel
theorem dX6_lay_73 : decode cX6_lay 73 = .ok (.iload_n 2, 1) := by decide +kernel
theorem dX6_lay_74 : decode cX6_lay 74 = .ok (.dup2, 1) := by decide +kernel
theorem dX6_lay_75 : decode cX6_lay 75 = .ok (.iaload, 1) := by decide +kernel
theorem dX6_lay_76 : decode cX6_lay 76 = .ok (.iload_n 3, 1) := by decide +kernel
theorem dX6_lay_77 : decode cX6_lay 77 = .ok (.iadd, 1) := by decide +kernel
theorem dX6_lay_78 : decode cX6_lay 78 = .ok (.iastore, 1) := by decide +kernel
theorem dX6_lay_79 : decode cX6_lay 79 = .ok (.aload_n 0, 1) := by decide +kernel
theorem dX6_lay_80 : decode cX6_lay 80 = .ok (.iload_n 2, 1) := by decide +kernel
theorem dX6_lay_81 : decode cX6_lay 81 = .ok (.iconst 1, 1) := by decide +kernel
theorem dX6_lay_82 : decode cX6_lay 82 = .ok (.iadd, 1) := by decide +kernel
theorem dX6_lay_83 : decode cX6_lay 83 = .ok (.putfield 162, 3) := by decide +kernel
theorem dX6_lay_86 : decode cX6_lay 86 = .ok (.return_, 1) := by decide +kernel
set_option maxRecDepth 20000 in
theorem ggX6_pour_X6_lines : GoodIn wsX6_pour wsX6_lines := goodIn_r _ [6, 7, 23, 24, 25, 26, 27, 28, 29, 30, 31, 32, 33, 34, 35, 36, 37, 38, 39, 40, 41, 42, 43, 44] (by decide +kernel) (by decide +kernel)
set_option maxRecDepth 20000 in
theorem gX6_pour_X6_lines : GoodIn wsX6_pour (wsV RX6 152 RX6 yX6_lines wsX6_lines) := goodIn_app (goodIn_of _ (by decide +kernel)) ggX6_pour_X6_lines
set_option maxRecDepth 20000 in
theorem ggX6_pour_X6_room : GoodIn wsX6_pour wsX6_room := goodIn_r _ [11, 7, 12, 23, 24, 25, 26, 27, 28, 29, 30, 31, 32, 33, 34, 35, 36, 37, 38, 39, 40, 41, 42, 43, 44] (by decide +kernel) (by decide +kernel)
set_option maxRecDepth 20000 in
theorem gX6_pour_X6_room : GoodIn wsX6_pour (wsV RX6 165 RX6 yX6_room wsX6_room) := goodIn_app (goodIn_of _ (by decide +kernel)) ggX6_pour_X6_room
set_option maxRecDepth 20000 in
theorem ggX6_pour_X6_lay : GoodIn wsX6_pour wsX6_lay := goodIn_r _ [16, 17, 1, 18, 19, 20, 21, 22, 23, 24, 25, 26, 27, 28, 29, 30, 31, 32, 33, 34, 35, 36, 37, 38, 39, 40, 41, 42, 43, 44] (by decide +kernel) (by decide +kernel)
set_option maxRecDepth 20000 in
theorem gX6_pour_X6_lay : GoodIn wsX6_pour (wsV RX6 168 RX6 yX6_lay wsX6_lay) := goodIn_app (goodIn_of _ (by decide +kernel)) ggX6_pour_X6_lay
theorem dX6_pour_0 : decode cX6_pour 0 = .ok (.iload_n 2, 1) := by decide +kernel
theorem dX6_pour_1 : decode cX6_pour 1 = .ok (.istore_n 3, 1) := by decide +kernel
theorem dX6_pour_2 : decode cX6_pour 2 = .ok (.aload_n 0, 1) := by decide +kernel
theorem dX6_pour_3 : decode cX6_pour 3 = .ok (.iload_n 1, 1) := by decide +kernel
theorem dX6_pour_4 : decode cX6_pour 4 = .ok (.invokevirtual 152, 3) := by decide +kernel
theorem dX6_pour_7 : decode cX6_pour 7 = .ok (.istore 4, 2) := by decide +kernel
theorem dX6_pour_9 : decode cX6_pour 9 = .ok (.iload 4, 2) := by decide +kernel
theorem dX6_pour_11 : decode cX6_pour 11 = .ok (.ifCond .le 64, 3) := by decide +kernel
theorem dX6_pour_14 : decode cX6_pour 14 = .ok (.aload_n 0, 1) := by decide +kernel
theorem dX6_pour_15 : decode cX6_pour 15 = .ok (.iload_n 3, 1) := by decide +kernel
theorem dX6_pour_16 : decode cX6_pour 16 = .ok (.invokevirtual 165, 3) := by decide +kernel
theorem dX6_pour_19 : decode cX6_pour 19 = .ok (.aload_n 0, 1) := by decide +kernel
theorem dX6_pour_20 : decode cX6_pour 20 = .ok (.getfield 39, 3) := by decide +kernel
theorem dX6_pour_23 : decode cX6_pour 23 = .ok (.iload_n 3, 1) := by decide +kernel
theorem dX6_pour_24 : decode cX6_pour 24 = .ok (.iaload, 1) := by decide +kernel
theorem dX6_pour_25 : decode cX6_pour 25 = .ok (.isub, 1) := by decide +kernel
theorem dX6_pour_26 : decode cX6_pour 26 = .ok (.istore 5, 2) := by decide +kernel
theorem dX6_pour_28 : decode cX6_pour 28 = .ok (.iload 4, 2) := by decide +kernel
theorem dX6_pour_30 : decode cX6_pour 30 = .ok (.iload 5, 2) := by decide +kernel
theorem dX6_pour_32 : decode cX6_pour 32 = .ok (.if_icmp .ge 8, 3) := by decide +kernel
theorem dX6_pour_35 : decode cX6_pour 35 = .ok (.iload 4, 2) := by decide +kernel
theorem dX6_pour_37 : decode cX6_pour 37 = .ok (.goto 5, 3) := by decide +kernel
theorem dX6_pour_40 : decode cX6_pour 40 = .ok (.iload 5, 2) := by decide +kernel
theorem dX6_pour_42 : decode cX6_pour 42 = .ok (.istore 6, 2) := by decide +kernel
theorem dX6_pour_44 : decode cX6_pour 44 = .ok (.aload_n 0, 1) := by decide +kernel
theorem dX6_pour_45 : decode cX6_pour 45 = .ok (.iload_n 1, 1) := by decide +kernel
theorem dX6_pour_46 : decode cX6_pour 46 = .ok (.iload_n 3, 1) := by decide +kernel
theorem dX6_pour_47 : decode cX6_pour 47 = .ok (.iload 6, 2) := by decide +kernel
theorem dX6_pour_49 : decode cX6_pour 49 = .ok (.invokevirtual 168, 3) := by decide +kernel
theorem dX6_pour_52 : decode cX6_pour 52 = .ok (.iload 4, 2) := by decide +kernel
theorem dX6_pour_54 : decode cX6_pour 54 = .ok (.iload 6, 2) := by decide +kernel
theorem dX6_pour_56 : decode cX6_pour 56 = .ok (.isub, 1) := by decide +kernel
theorem dX6_pour_57 : decode cX6_pour 57 = .ok (.istore 4, 2) := by decide +kernel
theorem dX6_pour_59 : decode cX6_pour 59 = .ok (.iload_n 3, 1) := by decide +kernel
theorem dX6_pour_60 : decode cX6_pour 60 = .ok (.iload 4, 2) := by decide +kernel
theorem dX6_pour_62 : decode cX6_pour 62 = .ok (.ifCond .le 7, 3) := by decide +kernel
theorem dX6_pour_65 : decode cX6_pour 65 = .ok (.iconst 1, 1) := by decide +kernel
theorem dX6_pour_66 : decode cX6_pour 66 = .ok (.goto 4, 3) := by decide +kernel
theorem dX6_pour_69 : decode cX6_pour 69 = .ok (.iconst 0, 1) := by decide +kernel
theorem dX6_pour_70 : decode cX6_pour 70 = .ok (.iadd, 1) := by decide +kernel
theorem dX6_pour_71 : decode cX6_pour 71 = .ok (.istore_n 3, 1) := by decide +kernel
theorem dX6_pour_72 : decode cX6_pour 72 = .ok (.goto (-63), 3) := by decide +kernel
theorem dX6_pour_75 : decode cX6_pour 75 = .ok (.iload_n 3, 1) := by decide +kernel
theorem dX6_pour_76 : decode cX6_pour 76 = .ok (.ireturn, 1) := by decide +kernel
set_option maxRecDepth 20000 in
theorem ggX6_layEntry_X6_lines : GoodIn wsX6_layEntry wsX6_lines := goodIn_r _ [7, 1, 27, 28, 29, 30, 31, 32, 33, 34, 35, 36, 37, 38, 39, 40, 41, 42, 43, 44, 45, 46, 47, 48] (by decide +kernel) (by decide +kernel)
set_option maxRecDepth 20000 in
theorem gX6_layEntry_X6_lines : GoodIn wsX6_layEntry (wsV RX6 152 RX6 yX6_lines wsX6_lines) := goodIn_app (goodIn_of _ (by decide +kernel)) ggX6_layEntry_X6_lines
set_option maxRecDepth 20000 in
theorem ggX6_layEntry_X6_room : GoodIn wsX6_layEntry wsX6_room := goodIn_r _ [11, 1, 12, 27, 28, 29, 30, 31, 32, 33, 34, 35, 36, 37, 38, 39, 40, 41, 42, 43, 44, 45, 46, 47, 48] (by decide +kernel) (by decide +kernel)
set_option maxRecDepth 20000 in
theorem gX6_layEntry_X6_room : GoodIn wsX6_layEntry (wsV RX6 165 RX6 yX6_room wsX6_room) := goodIn_app (goodIn_of _ (by decide +kernel)) ggX6_layEntry_X6_room
set_option maxRecDepth 20000 in
theorem ggX6_layEntry_X6_pour : GoodIn wsX6_layEntry wsX6_pour := goodIn_r _ [16, 2, 3, 4, 5, 6, 7, 1, 8, 9, 10, 11, 12, 17, 18, 19, 20, 21, 22, 23, 24, 25, 26, 27, 28, 29, 30, 31, 32, 33, 34, 35, 36, 37, 38, 39, 40, 41, 42, 43, 44, 45, 46, 47, 48] (by decide +kernel) (by decide +kernel)
set_option maxRecDepth 20000 in
theorem gX6_layEntry_X6_pour : GoodIn wsX6_layEntry (wsV RX6 172 RX6 yX6_pour wsX6_pour) := goodIn_app (goodIn_of _ (by decide +kernel)) ggX6_layEntry_X6_pour
set_option maxRecDepth 20000 in
theorem ggX6_layEntry_X6_lay : GoodIn wsX6_layEntry wsX6_lay := goodIn_r _ [20, 21, 2, 22, 23, 24, 25, 26, 27, 28, 29, 30, 31, 32, 33, 34, 35, 36, 37, 38, 39, 40, 41, 42, 43, 44, 45, 46, 47, 48] (by decide +kernel) (by decide +kernel)
set_option maxRecDepth 20000 in
theorem gX6_layEntry_X6_lay : GoodIn wsX6_layEntry (wsV RX6 168 RX6 yX6_lay wsX6_lay) := goodIn_app (goodIn_of _ (by decide +kernel)) ggX6_layEntry_X6_lay
theorem dX6_layEntry_0 : decode cX6_layEntry 0 = .ok (.iload_n 2, 1) := by decide +kernel
theorem dX6_layEntry_1 : decode cX6_layEntry 1 = .ok (.istore_n 3, 1) := by decide +kernel
theorem dX6_layEntry_2 : decode cX6_layEntry 2 = .ok (.aload_n 0, 1) := by decide +kernel
theorem dX6_layEntry_3 : decode cX6_layEntry 3 = .ok (.iload_n 1, 1) := by decide +kernel
theorem dX6_layEntry_4 : decode cX6_layEntry 4 = .ok (.invokevirtual 152, 3) := by decide +kernel
theorem dX6_layEntry_7 : decode cX6_layEntry 7 = .ok (.istore 4, 2) := by decide +kernel
theorem dX6_layEntry_9 : decode cX6_layEntry 9 = .ok (.aload_n 0, 1) := by decide +kernel
theorem dX6_layEntry_10 : decode cX6_layEntry 10 = .ok (.getfield 7, 3) := by decide +kernel
theorem dX6_layEntry_13 : decode cX6_layEntry 13 = .ok (.iconst 2, 1) := by decide +kernel
theorem dX6_layEntry_14 : decode cX6_layEntry 14 = .ok (.laload, 1) := by decide +kernel
theorem dX6_layEntry_15 : decode cX6_layEntry 15 = .ok (.l2i, 1) := by decide +kernel
theorem dX6_layEntry_16 : decode cX6_layEntry 16 = .ok (.istore 5, 2) := by decide +kernel
theorem dX6_layEntry_18 : decode cX6_layEntry 18 = .ok (.aload_n 0, 1) := by decide +kernel
theorem dX6_layEntry_19 : decode cX6_layEntry 19 = .ok (.iload_n 3, 1) := by decide +kernel
theorem dX6_layEntry_20 : decode cX6_layEntry 20 = .ok (.invokevirtual 165, 3) := by decide +kernel
theorem dX6_layEntry_23 : decode cX6_layEntry 23 = .ok (.aload_n 0, 1) := by decide +kernel
theorem dX6_layEntry_24 : decode cX6_layEntry 24 = .ok (.getfield 39, 3) := by decide +kernel
theorem dX6_layEntry_27 : decode cX6_layEntry 27 = .ok (.iload_n 3, 1) := by decide +kernel
theorem dX6_layEntry_28 : decode cX6_layEntry 28 = .ok (.iaload, 1) := by decide +kernel
theorem dX6_layEntry_29 : decode cX6_layEntry 29 = .ok (.isub, 1) := by decide +kernel
theorem dX6_layEntry_30 : decode cX6_layEntry 30 = .ok (.istore 6, 2) := by decide +kernel
theorem dX6_layEntry_32 : decode cX6_layEntry 32 = .ok (.iload 4, 2) := by decide +kernel
theorem dX6_layEntry_34 : decode cX6_layEntry 34 = .ok (.iload 6, 2) := by decide +kernel
theorem dX6_layEntry_36 : decode cX6_layEntry 36 = .ok (.if_icmp .le 20, 3) := by decide +kernel
theorem dX6_layEntry_39 : decode cX6_layEntry 39 = .ok (.iload 6, 2) := by decide +kernel
theorem dX6_layEntry_41 : decode cX6_layEntry 41 = .ok (.iload 5, 2) := by decide +kernel
theorem dX6_layEntry_43 : decode cX6_layEntry 43 = .ok (.if_icmp .lt 20, 3) := by decide +kernel
theorem dX6_layEntry_46 : decode cX6_layEntry 46 = .ok (.iload 4, 2) := by decide +kernel
theorem dX6_layEntry_48 : decode cX6_layEntry 48 = .ok (.iload 6, 2) := by decide +kernel
theorem dX6_layEntry_50 : decode cX6_layEntry 50 = .ok (.isub, 1) := by decide +kernel
theorem dX6_layEntry_51 : decode cX6_layEntry 51 = .ok (.iload 5, 2) := by decide +kernel
theorem dX6_layEntry_53 : decode cX6_layEntry 53 = .ok (.if_icmp .lt 10, 3) := by decide +kernel
theorem dX6_layEntry_56 : decode cX6_layEntry 56 = .ok (.aload_n 0, 1) := by decide +kernel
theorem dX6_layEntry_57 : decode cX6_layEntry 57 = .ok (.iload_n 1, 1) := by decide +kernel
theorem dX6_layEntry_58 : decode cX6_layEntry 58 = .ok (.iload_n 3, 1) := by decide +kernel
theorem dX6_layEntry_59 : decode cX6_layEntry 59 = .ok (.invokevirtual 172, 3) := by decide +kernel
theorem dX6_layEntry_62 : decode cX6_layEntry 62 = .ok (.ireturn, 1) := by decide +kernel
theorem dX6_layEntry_63 : decode cX6_layEntry 63 = .ok (.iload 6, 2) := by decide +kernel
theorem dX6_layEntry_65 : decode cX6_layEntry 65 = .ok (.iload 5, 2) := by decide +kernel
theorem dX6_layEntry_67 : decode cX6_layEntry 67 = .ok (.if_icmp .lt 38, 3) := by decide +kernel
theorem dX6_layEntry_70 : decode cX6_layEntry 70 = .ok (.iload 4, 2) := by decide +kernel
theorem dX6_layEntry_72 : decode cX6_layEntry 72 = .ok (.iload 5, 2) := by decide +kernel
theorem dX6_layEntry_74 : decode cX6_layEntry 74 = .ok (.isub, 1) := by decide +kernel
theorem dX6_layEntry_75 : decode cX6_layEntry 75 = .ok (.iload 5, 2) := by decide +kernel
theorem dX6_layEntry_77 : decode cX6_layEntry 77 = .ok (.if_icmp .lt 28, 3) := by decide +kernel
theorem dX6_layEntry_80 : decode cX6_layEntry 80 = .ok (.aload_n 0, 1) := by decide +kernel
theorem dX6_layEntry_81 : decode cX6_layEntry 81 = .ok (.iload_n 1, 1) := by decide +kernel
theorem dX6_layEntry_82 : decode cX6_layEntry 82 = .ok (.iload_n 3, 1) := by decide +kernel
theorem dX6_layEntry_83 : decode cX6_layEntry 83 = .ok (.iload 4, 2) := by decide +kernel
theorem dX6_layEntry_85 : decode cX6_layEntry 85 = .ok (.iload 5, 2) := by decide +kernel
theorem dX6_layEntry_87 : decode cX6_layEntry 87 = .ok (.isub, 1) := by decide +kernel
theorem dX6_layEntry_88 : decode cX6_layEntry 88 = .ok (.invokevirtual 168, 3) := by decide +kernel
theorem dX6_layEntry_91 : decode cX6_layEntry 91 = .ok (.aload_n 0, 1) := by decide +kernel
theorem dX6_layEntry_92 : decode cX6_layEntry 92 = .ok (.iload_n 1, 1) := by decide +kernel
theorem dX6_layEntry_93 : decode cX6_layEntry 93 = .ok (.iload_n 3, 1) := by decide +kernel
theorem dX6_layEntry_94 : decode cX6_layEntry 94 = .ok (.iconst 1, 1) := by decide +kernel
theorem dX6_layEntry_95 : decode cX6_layEntry 95 = .ok (.iadd, 1) := by decide +kernel
theorem dX6_layEntry_96 : decode cX6_layEntry 96 = .ok (.iload 5, 2) := by decide +kernel
theorem dX6_layEntry_98 : decode cX6_layEntry 98 = .ok (.invokevirtual 168, 3) := by decide +kernel
theorem dX6_layEntry_101 : decode cX6_layEntry 101 = .ok (.iload_n 3, 1) := by decide +kernel
theorem dX6_layEntry_102 : decode cX6_layEntry 102 = .ok (.iconst 1, 1) := by decide +kernel
theorem dX6_layEntry_103 : decode cX6_layEntry 103 = .ok (.iadd, 1) := by decide +kernel
theorem dX6_layEntry_104 : decode cX6_layEntry 104 = .ok (.ireturn, 1) := by decide +kernel
theorem dX6_layEntry_105 : decode cX6_layEntry 105 = .ok (.aload_n 0, 1) := by decide +kernel
theorem dX6_layEntry_106 : decode cX6_layEntry 106 = .ok (.getfield 39, 3) := by decide +kernel
theorem dX6_layEntry_109 : decode cX6_layEntry 109 = .ok (.iload_n 3, 1) := by decide +kernel
theorem dX6_layEntry_110 : decode cX6_layEntry 110 = .ok (.iaload, 1) := by decide +kernel
theorem dX6_layEntry_111 : decode cX6_layEntry 111 = .ok (.ifCond .ne 10, 3) := by decide +kernel
theorem dX6_layEntry_114 : decode cX6_layEntry 114 = .ok (.aload_n 0, 1) := by decide +kernel
theorem dX6_layEntry_115 : decode cX6_layEntry 115 = .ok (.iload_n 1, 1) := by decide +kernel
theorem dX6_layEntry_116 : decode cX6_layEntry 116 = .ok (.iload_n 3, 1) := by decide +kernel
theorem dX6_layEntry_117 : decode cX6_layEntry 117 = .ok (.invokevirtual 172, 3) := by decide +kernel
theorem dX6_layEntry_120 : decode cX6_layEntry 120 = .ok (.ireturn, 1) := by decide +kernel
theorem dX6_layEntry_121 : decode cX6_layEntry 121 = .ok (.iinc 3 1, 3) := by decide +kernel
theorem dX6_layEntry_124 : decode cX6_layEntry 124 = .ok (.goto (-106), 3) := by decide +kernel
set_option maxRecDepth 20000 in
theorem ggX6_pass_X6_many : GoodIn wsX6_pass wsX6_many := goodIn_r _ [8, 9, 35, 36, 37, 38, 39, 40, 41, 42, 43, 44, 45, 46, 47, 48, 49, 50, 51, 52, 53, 54, 55, 56] (by decide +kernel) (by decide +kernel)
set_option maxRecDepth 20000 in
theorem gX6_pass_X6_many : GoodIn wsX6_pass (wsV RX6 73 RX6 yX6_many wsX6_many) := goodIn_app (goodIn_of _ (by decide +kernel)) ggX6_pass_X6_many
set_option maxRecDepth 20000 in
theorem ggX6_pass_X6_layEntry : GoodIn wsX6_pass wsX6_layEntry := goodIn_r _ [13, 9, 2, 14, 15, 16, 7, 17, 18, 19, 20, 21, 22, 23, 24, 25, 26, 27, 28, 29, 30, 31, 32, 3, 33, 34, 1, 35, 36, 37, 38, 39, 40, 41, 42, 43, 44, 45, 46, 47, 48, 49, 50, 51, 52, 53, 54, 55, 56] (by decide +kernel) (by decide +kernel)
set_option maxRecDepth 20000 in
theorem gX6_pass_X6_layEntry : GoodIn wsX6_pass (wsV RX6 176 RX6 yX6_layEntry wsX6_layEntry) := goodIn_app (goodIn_of _ (by decide +kernel)) ggX6_pass_X6_layEntry
theorem dX6_pass_0 : decode cX6_pass 0 = .ok (.aload_n 0, 1) := by decide +kernel
theorem dX6_pass_1 : decode cX6_pass 1 = .ok (.iconst 0, 1) := by decide +kernel
theorem dX6_pass_2 : decode cX6_pass 2 = .ok (.putfield 162, 3) := by decide +kernel
theorem dX6_pass_5 : decode cX6_pass 5 = .ok (.iconst 0, 1) := by decide +kernel
theorem dX6_pass_6 : decode cX6_pass 6 = .ok (.istore_n 1, 1) := by decide +kernel
theorem dX6_pass_7 : decode cX6_pass 7 = .ok (.iload_n 1, 1) := by decide +kernel
theorem dX6_pass_8 : decode cX6_pass 8 = .ok (.sipush 400, 3) := by decide +kernel
theorem dX6_pass_11 : decode cX6_pass 11 = .ok (.if_icmp .ge 16, 3) := by decide +kernel
theorem dX6_pass_14 : decode cX6_pass 14 = .ok (.aload_n 0, 1) := by decide +kernel
theorem dX6_pass_15 : decode cX6_pass 15 = .ok (.getfield 39, 3) := by decide +kernel
theorem dX6_pass_18 : decode cX6_pass 18 = .ok (.iload_n 1, 1) := by decide +kernel
theorem dX6_pass_19 : decode cX6_pass 19 = .ok (.iconst 0, 1) := by decide +kernel
theorem dX6_pass_20 : decode cX6_pass 20 = .ok (.iastore, 1) := by decide +kernel
theorem dX6_pass_21 : decode cX6_pass 21 = .ok (.iinc 1 1, 3) := by decide +kernel
theorem dX6_pass_24 : decode cX6_pass 24 = .ok (.goto (-17), 3) := by decide +kernel
theorem dX6_pass_27 : decode cX6_pass 27 = .ok (.iconst 0, 1) := by decide +kernel
theorem dX6_pass_28 : decode cX6_pass 28 = .ok (.istore_n 1, 1) := by decide +kernel
theorem dX6_pass_29 : decode cX6_pass 29 = .ok (.iload_n 1, 1) := by decide +kernel
theorem dX6_pass_30 : decode cX6_pass 30 = .ok (.aload_n 0, 1) := by decide +kernel
theorem dX6_pass_31 : decode cX6_pass 31 = .ok (.invokevirtual 73, 3) := by decide +kernel
theorem dX6_pass_34 : decode cX6_pass 34 = .ok (.if_icmp .ge 17, 3) := by decide +kernel
theorem dX6_pass_37 : decode cX6_pass 37 = .ok (.aload_n 0, 1) := by decide +kernel
theorem dX6_pass_38 : decode cX6_pass 38 = .ok (.getfield 54, 3) := by decide +kernel
theorem dX6_pass_41 : decode cX6_pass 41 = .ok (.iload_n 1, 1) := by decide +kernel
theorem dX6_pass_42 : decode cX6_pass 42 = .ok (.bipush (-6), 2) := by decide +kernel
theorem dX6_pass_44 : decode cX6_pass 44 = .ok (.iastore, 1) := by decide +kernel
theorem dX6_pass_45 : decode cX6_pass 45 = .ok (.iinc 1 1, 3) := by decide +kernel
theorem dX6_pass_48 : decode cX6_pass 48 = .ok (.goto (-19), 3) := by decide +kernel
theorem dX6_pass_51 : decode cX6_pass 51 = .ok (.iconst 0, 1) := by decide +kernel
theorem dX6_pass_52 : decode cX6_pass 52 = .ok (.istore_n 1, 1) := by decide +kernel
theorem dX6_pass_53 : decode cX6_pass 53 = .ok (.iconst 0, 1) := by decide +kernel
theorem dX6_pass_54 : decode cX6_pass 54 = .ok (.istore_n 2, 1) := by decide +kernel
theorem dX6_pass_55 : decode cX6_pass 55 = .ok (.iload_n 2, 1) := by decide +kernel
theorem dX6_pass_56 : decode cX6_pass 56 = .ok (.aload_n 0, 1) := by decide +kernel
theorem dX6_pass_57 : decode cX6_pass 57 = .ok (.invokevirtual 73, 3) := by decide +kernel
theorem dX6_pass_60 : decode cX6_pass 60 = .ok (.if_icmp .ge 16, 3) := by decide +kernel
theorem dX6_pass_63 : decode cX6_pass 63 = .ok (.aload_n 0, 1) := by decide +kernel
theorem dX6_pass_64 : decode cX6_pass 64 = .ok (.iload_n 2, 1) := by decide +kernel
theorem dX6_pass_65 : decode cX6_pass 65 = .ok (.iload_n 1, 1) := by decide +kernel
theorem dX6_pass_66 : decode cX6_pass 66 = .ok (.invokevirtual 176, 3) := by decide +kernel
theorem dX6_pass_69 : decode cX6_pass 69 = .ok (.istore_n 1, 1) := by decide +kernel
theorem dX6_pass_70 : decode cX6_pass 70 = .ok (.iinc 2 1, 3) := by decide +kernel
theorem dX6_pass_73 : decode cX6_pass 73 = .ok (.goto (-18), 3) := by decide +kernel
theorem dX6_pass_76 : decode cX6_pass 76 = .ok (.return_, 1) := by decide +kernel
set_option maxRecDepth 20000 in
theorem ggX6_headSize_X6_size : GoodIn wsX6_headSize wsX6_size := goodIn_r _ [7, 8, 9, 6, 10, 11, 12, 13, 14] (by decide +kernel) (by decide +kernel)
set_option maxRecDepth 20000 in
theorem gX6_headSize_X6_size : GoodIn wsX6_headSize (va_wsS RX6 179 yX6_size wsX6_size) := goodIn_app (goodIn_of _ (by decide +kernel)) ggX6_headSize_X6_size
theorem dX6_headSize_0 : decode cX6_headSize 0 = .ok (.aload_n 0, 1) := by decide +kernel
theorem dX6_headSize_1 : decode cX6_headSize 1 = .ok (.getfield 7, 3) := by decide +kernel
theorem dX6_headSize_4 : decode cX6_headSize 4 = .ok (.iconst 4, 1) := by decide +kernel
theorem dX6_headSize_5 : decode cX6_headSize 5 = .ok (.aload_n 0, 1) := by decide +kernel
theorem dX6_headSize_6 : decode cX6_headSize 6 = .ok (.getfield 42, 3) := by decide +kernel
theorem dX6_headSize_9 : decode cX6_headSize 9 = .ok (.iload_n 1, 1) := by decide +kernel
theorem dX6_headSize_10 : decode cX6_headSize 10 = .ok (.iaload, 1) := by decide +kernel
theorem dX6_headSize_11 : decode cX6_headSize 11 = .ok (.iadd, 1) := by decide +kernel
theorem dX6_headSize_12 : decode cX6_headSize 12 = .ok (.laload, 1) := by decide +kernel
theorem dX6_headSize_13 : decode cX6_headSize 13 = .ok (.invokestatic 179, 3) := by decide +kernel
theorem dX6_headSize_16 : decode cX6_headSize 16 = .ok (.istore_n 2, 1) := by decide +kernel
theorem dX6_headSize_17 : decode cX6_headSize 17 = .ok (.aload_n 0, 1) := by decide +kernel
theorem dX6_headSize_18 : decode cX6_headSize 18 = .ok (.getfield 42, 3) := by decide +kernel
theorem dX6_headSize_21 : decode cX6_headSize 21 = .ok (.iload_n 1, 1) := by decide +kernel
theorem dX6_headSize_22 : decode cX6_headSize 22 = .ok (.iaload, 1) := by decide +kernel
theorem dX6_headSize_23 : decode cX6_headSize 23 = .ok (.aload_n 0, 1) := by decide +kernel
theorem dX6_headSize_24 : decode cX6_headSize 24 = .ok (.getfield 45, 3) := by decide +kernel
theorem dX6_headSize_27 : decode cX6_headSize 27 = .ok (.iload_n 1, 1) := by decide +kernel
theorem dX6_headSize_28 : decode cX6_headSize 28 = .ok (.iaload, 1) := by decide +kernel
theorem dX6_headSize_29 : decode cX6_headSize 29 = .ok (.if_icmp .ne 7, 3) := by decide +kernel
theorem dX6_headSize_32 : decode cX6_headSize 32 = .ok (.iload_n 2, 1) := by decide +kernel
theorem dX6_headSize_33 : decode cX6_headSize 33 = .ok (.goto 23, 3) := by decide +kernel
theorem dX6_headSize_36 : decode cX6_headSize 36 = .ok (.iload_n 2, 1) := by decide +kernel
theorem dX6_headSize_37 : decode cX6_headSize 37 = .ok (.iconst 1, 1) := by decide +kernel
theorem dX6_headSize_38 : decode cX6_headSize 38 = .ok (.iadd, 1) := by decide +kernel
theorem dX6_headSize_39 : decode cX6_headSize 39 = .ok (.aload_n 0, 1) := by decide +kernel
theorem dX6_headSize_40 : decode cX6_headSize 40 = .ok (.getfield 7, 3) := by decide +kernel
theorem dX6_headSize_43 : decode cX6_headSize 43 = .ok (.iconst 4, 1) := by decide +kernel
theorem dX6_headSize_44 : decode cX6_headSize 44 = .ok (.aload_n 0, 1) := by decide +kernel
theorem dX6_headSize_45 : decode cX6_headSize 45 = .ok (.getfield 45, 3) := by decide +kernel
theorem dX6_headSize_48 : decode cX6_headSize 48 = .ok (.iload_n 1, 1) := by decide +kernel
theorem dX6_headSize_49 : decode cX6_headSize 49 = .ok (.iaload, 1) := by decide +kernel
theorem dX6_headSize_50 : decode cX6_headSize 50 = .ok (.iadd, 1) := by decide +kernel
theorem dX6_headSize_51 : decode cX6_headSize 51 = .ok (.laload, 1) := by decide +kernel
theorem dX6_headSize_52 : decode cX6_headSize 52 = .ok (.invokestatic 179, 3) := by decide +kernel
theorem dX6_headSize_55 : decode cX6_headSize 55 = .ok (.iadd, 1) := by decide +kernel
theorem dX6_headSize_56 : decode cX6_headSize 56 = .ok (.ireturn, 1) := by decide +kernel
set_option maxRecDepth 20000 in
theorem ggX6_wants_X6_headSize : GoodIn wsX6_wants wsX6_headSize := goodIn_r _ [6, 1, 7, 8, 9, 10, 5, 11, 12, 13, 14, 15, 16, 17, 18, 19, 20, 21, 22, 23, 24, 25, 26, 27, 28, 29, 30, 31, 32, 33, 34, 35, 36, 37, 38, 39, 40] (by decide +kernel) (by decide +kernel)
set_option maxRecDepth 20000 in
theorem gX6_wants_X6_headSize : GoodIn wsX6_wants (wsV RX6 182 RX6 yX6_headSize wsX6_headSize) := goodIn_app (goodIn_of _ (by decide +kernel)) ggX6_wants_X6_headSize
theorem dX6_wants_0 : decode cX6_wants 0 = .ok (.aload_n 0, 1) := by decide +kernel
theorem dX6_wants_1 : decode cX6_wants 1 = .ok (.iload_n 1, 1) := by decide +kernel
theorem dX6_wants_2 : decode cX6_wants 2 = .ok (.invokevirtual 182, 3) := by decide +kernel
theorem dX6_wants_5 : decode cX6_wants 5 = .ok (.i2l, 1) := by decide +kernel
theorem dX6_wants_6 : decode cX6_wants 6 = .ok (.aload_n 0, 1) := by decide +kernel
theorem dX6_wants_7 : decode cX6_wants 7 = .ok (.getfield 7, 3) := by decide +kernel
theorem dX6_wants_10 : decode cX6_wants 10 = .ok (.iconst 1, 1) := by decide +kernel
theorem dX6_wants_11 : decode cX6_wants 11 = .ok (.laload, 1) := by decide +kernel
theorem dX6_wants_12 : decode cX6_wants 12 = .ok (.lcmp, 1) := by decide +kernel
theorem dX6_wants_13 : decode cX6_wants 13 = .ok (.ifCond .gt 7, 3) := by decide +kernel
theorem dX6_wants_16 : decode cX6_wants 16 = .ok (.iconst 1, 1) := by decide +kernel
theorem dX6_wants_17 : decode cX6_wants 17 = .ok (.goto 4, 3) := by decide +kernel
theorem dX6_wants_20 : decode cX6_wants 20 = .ok (.iconst 2, 1) := by decide +kernel
theorem dX6_wants_21 : decode cX6_wants 21 = .ok (.ireturn, 1) := by decide +kernel
set_option maxRecDepth 20000 in
theorem ggX6_isSettled_X6_wants : GoodIn wsX6_isSettled wsX6_wants := goodIn_r _ [7, 8, 9, 10, 11, 6, 12, 13, 14, 15, 16, 17, 18, 19, 20, 21, 22, 23, 24, 25, 26, 27, 28, 29, 30, 31, 32, 33, 34, 35, 36, 37, 38, 39, 40, 41, 42, 43, 44, 45, 46] (by decide +kernel) (by decide +kernel)
set_option maxRecDepth 20000 in
theorem gX6_isSettled_X6_wants : GoodIn wsX6_isSettled (wsV RX6 185 RX6 yX6_wants wsX6_wants) := goodIn_app (goodIn_of _ (by decide +kernel)) ggX6_isSettled_X6_wants
theorem dX6_isSettled_0 : decode cX6_isSettled 0 = .ok (.iconst 1, 1) := by decide +kernel
theorem dX6_isSettled_1 : decode cX6_isSettled 1 = .ok (.istore_n 1, 1) := by decide +kernel
theorem dX6_isSettled_2 : decode cX6_isSettled 2 = .ok (.iconst 0, 1) := by decide +kernel
theorem dX6_isSettled_3 : decode cX6_isSettled 3 = .ok (.istore_n 2, 1) := by decide +kernel
theorem dX6_isSettled_4 : decode cX6_isSettled 4 = .ok (.iload_n 2, 1) := by decide +kernel
theorem dX6_isSettled_5 : decode cX6_isSettled 5 = .ok (.aload_n 0, 1) := by decide +kernel
theorem dX6_isSettled_6 : decode cX6_isSettled 6 = .ok (.getfield 162, 3) := by decide +kernel
theorem dX6_isSettled_9 : decode cX6_isSettled 9 = .ok (.if_icmp .ge 33, 3) := by decide +kernel
theorem dX6_isSettled_12 : decode cX6_isSettled 12 = .ok (.iload_n 1, 1) := by decide +kernel
theorem dX6_isSettled_13 : decode cX6_isSettled 13 = .ok (.ifCond .eq 21, 3) := by decide +kernel
theorem dX6_isSettled_16 : decode cX6_isSettled 16 = .ok (.aload_n 0, 1) := by decide +kernel
theorem dX6_isSettled_17 : decode cX6_isSettled 17 = .ok (.iload_n 2, 1) := by decide +kernel
theorem dX6_isSettled_18 : decode cX6_isSettled 18 = .ok (.invokevirtual 185, 3) := by decide +kernel
theorem dX6_isSettled_21 : decode cX6_isSettled 21 = .ok (.aload_n 0, 1) := by decide +kernel
theorem dX6_isSettled_22 : decode cX6_isSettled 22 = .ok (.getfield 36, 3) := by decide +kernel
theorem dX6_isSettled_25 : decode cX6_isSettled 25 = .ok (.iload_n 2, 1) := by decide +kernel
theorem dX6_isSettled_26 : decode cX6_isSettled 26 = .ok (.iaload, 1) := by decide +kernel
theorem dX6_isSettled_27 : decode cX6_isSettled 27 = .ok (.if_icmp .ne 7, 3) := by decide +kernel
theorem dX6_isSettled_30 : decode cX6_isSettled 30 = .ok (.iconst 1, 1) := by decide +kernel
theorem dX6_isSettled_31 : decode cX6_isSettled 31 = .ok (.goto 4, 3) := by decide +kernel
theorem dX6_isSettled_34 : decode cX6_isSettled 34 = .ok (.iconst 0, 1) := by decide +kernel
theorem dX6_isSettled_35 : decode cX6_isSettled 35 = .ok (.istore_n 1, 1) := by decide +kernel
theorem dX6_isSettled_36 : decode cX6_isSettled 36 = .ok (.iinc 2 1, 3) := by decide +kernel
theorem dX6_isSettled_39 : decode cX6_isSettled 39 = .ok (.goto (-35), 3) := by decide +kernel
theorem dX6_isSettled_42 : decode cX6_isSettled 42 = .ok (.iload_n 1, 1) := by decide +kernel
theorem dX6_isSettled_43 : decode cX6_isSettled 43 = .ok (.ireturn, 1) := by decide +kernel
set_option maxRecDepth 20000 in
theorem ggX6_layAll_X6_pass : GoodIn wsX6_layAll wsX6_pass := goodIn_r _ [8, 3, 9, 10, 11, 12, 13, 7, 14, 15, 16, 17, 18, 19, 20, 21, 22, 23, 24, 25, 26, 27, 1, 28, 29, 30, 31, 32, 33, 34, 35, 36, 37, 38, 39, 62, 63, 64, 65, 66, 67, 68, 69, 70, 71, 72, 73, 74, 75, 76, 77, 78, 79, 80, 81, 82, 83] (by decide +kernel) (by decide +kernel)
set_option maxRecDepth 20000 in
theorem gX6_layAll_X6_pass : GoodIn wsX6_layAll (wsV RX6 188 RX6 yX6_pass wsX6_pass) := goodIn_app (goodIn_of _ (by decide +kernel)) ggX6_layAll_X6_pass
set_option maxRecDepth 20000 in
theorem ggX6_layAll_X6_isSettled : GoodIn wsX6_layAll wsX6_isSettled := goodIn_r _ [43, 3, 1, 44, 45, 46, 7, 47, 15, 48, 49, 50, 51, 36, 37, 52, 53, 54, 55, 56, 57, 58, 59, 60, 61, 62, 63, 64, 65, 66, 67, 68, 69, 70, 71, 72, 73, 74, 75, 76, 77, 78, 79, 80, 81, 82, 83] (by decide +kernel) (by decide +kernel)
set_option maxRecDepth 20000 in
theorem gX6_layAll_X6_isSettled : GoodIn wsX6_layAll (wsV RX6 194 RX6 yX6_isSettled wsX6_isSettled) := goodIn_app (goodIn_of _ (by decide +kernel)) ggX6_layAll_X6_isSettled
set_option maxRecDepth 20000 in
theorem ggX6_layAll_X6_wants : GoodIn wsX6_layAll wsX6_wants := goodIn_r _ [47, 15, 48, 49, 50, 7, 51, 36, 37, 52, 53, 54, 55, 56, 57, 58, 59, 60, 61, 62, 63, 64, 65, 66, 67, 68, 69, 70, 71, 72, 73, 74, 75, 76, 77, 78, 79, 80, 81, 82, 83] (by decide +kernel) (by decide +kernel)
set_option maxRecDepth 20000 in
theorem gX6_layAll_X6_wants : GoodIn wsX6_layAll (wsV RX6 185 RX6 yX6_wants wsX6_wants) := goodIn_app (goodIn_of _ (by decide +kernel)) ggX6_layAll_X6_wants
theorem dX6_layAll_0 : decode cX6_layAll 0 = .ok (.iconst 0, 1) := by decide +kernel
theorem dX6_layAll_1 : decode cX6_layAll 1 = .ok (.istore_n 1, 1) := by decide +kernel
theorem dX6_layAll_2 : decode cX6_layAll 2 = .ok (.iload_n 1, 1) := by decide +kernel
theorem dX6_layAll_3 : decode cX6_layAll 3 = .ok (.sipush 400, 3) := by decide +kernel
theorem dX6_layAll_6 : decode cX6_layAll 6 = .ok (.if_icmp .ge 16, 3) := by decide +kernel
theorem dX6_layAll_9 : decode cX6_layAll 9 = .ok (.aload_n 0, 1) := by decide +kernel
theorem dX6_layAll_10 : decode cX6_layAll 10 = .ok (.getfield 36, 3) := by decide +kernel
theorem dX6_layAll_13 : decode cX6_layAll 13 = .ok (.iload_n 1, 1) := by decide +kernel
theorem dX6_layAll_14 : decode cX6_layAll 14 = .ok (.iconst 1, 1) := by decide +kernel
theorem dX6_layAll_15 : decode cX6_layAll 15 = .ok (.iastore, 1) := by decide +kernel
theorem dX6_layAll_16 : decode cX6_layAll 16 = .ok (.iinc 1 1, 3) := by decide +kernel
theorem dX6_layAll_19 : decode cX6_layAll 19 = .ok (.goto (-17), 3) := by decide +kernel
theorem dX6_layAll_22 : decode cX6_layAll 22 = .ok (.aload_n 0, 1) := by decide +kernel
theorem dX6_layAll_23 : decode cX6_layAll 23 = .ok (.invokevirtual 188, 3) := by decide +kernel
theorem dX6_layAll_26 : decode cX6_layAll 26 = .ok (.aload_n 0, 1) := by decide +kernel
theorem dX6_layAll_27 : decode cX6_layAll 27 = .ok (.iconst 1, 1) := by decide +kernel
theorem dX6_layAll_28 : decode cX6_layAll 28 = .ok (.putfield 191, 3) := by decide +kernel
theorem dX6_layAll_31 : decode cX6_layAll 31 = .ok (.aload_n 0, 1) := by decide +kernel
theorem dX6_layAll_32 : decode cX6_layAll 32 = .ok (.getfield 191, 3) := by decide +kernel
theorem dX6_layAll_35 : decode cX6_layAll 35 = .ok (.bipush 10, 2) := by decide +kernel
theorem dX6_layAll_37 : decode cX6_layAll 37 = .ok (.if_icmp .ge 65, 3) := by decide +kernel
theorem dX6_layAll_40 : decode cX6_layAll 40 = .ok (.aload_n 0, 1) := by decide +kernel
theorem dX6_layAll_41 : decode cX6_layAll 41 = .ok (.invokevirtual 194, 3) := by decide +kernel
theorem dX6_layAll_44 : decode cX6_layAll 44 = .ok (.ifCond .ne 58, 3) := by decide +kernel
theorem dX6_layAll_47 : decode cX6_layAll 47 = .ok (.iconst 0, 1) := by decide +kernel
theorem dX6_layAll_48 : decode cX6_layAll 48 = .ok (.istore_n 1, 1) := by decide +kernel
theorem dX6_layAll_49 : decode cX6_layAll 49 = .ok (.iload_n 1, 1) := by decide +kernel
theorem dX6_layAll_50 : decode cX6_layAll 50 = .ok (.sipush 400, 3) := by decide +kernel
theorem dX6_layAll_53 : decode cX6_layAll 53 = .ok (.if_icmp .ge 32, 3) := by decide +kernel
theorem dX6_layAll_56 : decode cX6_layAll 56 = .ok (.aload_n 0, 1) := by decide +kernel
theorem dX6_layAll_57 : decode cX6_layAll 57 = .ok (.getfield 36, 3) := by decide +kernel
theorem dX6_layAll_60 : decode cX6_layAll 60 = .ok (.iload_n 1, 1) := by decide +kernel
theorem dX6_layAll_61 : decode cX6_layAll 61 = .ok (.iload_n 1, 1) := by decide +kernel
theorem dX6_layAll_62 : decode cX6_layAll 62 = .ok (.aload_n 0, 1) := by decide +kernel
theorem dX6_layAll_63 : decode cX6_layAll 63 = .ok (.getfield 162, 3) := by decide +kernel
theorem dX6_layAll_66 : decode cX6_layAll 66 = .ok (.if_icmp .ge 11, 3) := by decide +kernel
theorem dX6_layAll_69 : decode cX6_layAll 69 = .ok (.aload_n 0, 1) := by decide +kernel
theorem dX6_layAll_70 : decode cX6_layAll 70 = .ok (.iload_n 1, 1) := by decide +kernel
theorem dX6_layAll_71 : decode cX6_layAll 71 = .ok (.invokevirtual 185, 3) := by decide +kernel
theorem dX6_layAll_74 : decode cX6_layAll 74 = .ok (.goto 4, 3) := by decide +kernel
theorem dX6_layAll_77 : decode cX6_layAll 77 = .ok (.iconst 1, 1) := by decide +kernel
theorem dX6_layAll_78 : decode cX6_layAll 78 = .ok (.iastore, 1) := by decide +kernel
theorem dX6_layAll_79 : decode cX6_layAll 79 = .ok (.iinc 1 1, 3) := by decide +kernel
theorem dX6_layAll_82 : decode cX6_layAll 82 = .ok (.goto (-33), 3) := by decide +kernel
theorem dX6_layAll_85 : decode cX6_layAll 85 = .ok (.aload_n 0, 1) := by decide +kernel
theorem dX6_layAll_86 : decode cX6_layAll 86 = .ok (.invokevirtual 188, 3) := by decide +kernel
theorem dX6_layAll_89 : decode cX6_layAll 89 = .ok (.aload_n 0, 1) := by decide +kernel
theorem dX6_layAll_90 : decode cX6_layAll 90 = .ok (.dup, 1) := by decide +kernel
theorem dX6_layAll_91 : decode cX6_layAll 91 = .ok (.getfield 191, 3) := by decide +kernel
theorem dX6_layAll_94 : decode cX6_layAll 94 = .ok (.iconst 1, 1) := by decide +kernel
theorem dX6_layAll_95 : decode cX6_layAll 95 = .ok (.iadd, 1) := by decide +kernel
theorem dX6_layAll_96 : decode cX6_layAll 96 = .ok (.putfield 191, 3) := by decide +kernel
theorem dX6_layAll_99 : decode cX6_layAll 99 = .ok (.goto (-68), 3) := by decide +kernel
theorem dX6_layAll_102 : decode cX6_layAll 102 = .ok (.return_, 1) := by decide +kernel
set_option maxRecDepth 20000 in
theorem ggX6_entry_X6_isEntry : GoodIn wsX6_entry wsX6_isEntry := goodIn_r _ [9, 4, 10, 11, 8, 12, 73, 74, 75, 76, 77, 78, 79, 80, 81, 82, 83, 84, 85, 86, 87, 88, 89, 90, 91, 92, 93, 94] (by decide +kernel) (by decide +kernel)
set_option maxRecDepth 20000 in
theorem gX6_entry_X6_isEntry : GoodIn wsX6_entry (wsV RX6 149 RX6 yX6_isEntry wsX6_isEntry) := goodIn_app (goodIn_of _ (by decide +kernel)) ggX6_entry_X6_isEntry
set_option maxRecDepth 20000 in
theorem ggX6_entry_X6_layAll : GoodIn wsX6_entry wsX6_layAll := goodIn_r _ [16, 17, 18, 19, 20, 21, 22, 8, 23, 24, 3, 25, 26, 27, 28, 4, 29, 30, 31, 32, 33, 34, 35, 36, 37, 38, 39, 40, 41, 42, 43, 44, 45, 46, 47, 48, 49, 50, 1, 2, 51, 52, 53, 54, 55, 56, 57, 58, 59, 60, 61, 62, 63, 64, 65, 66, 67, 68, 69, 70, 71, 72, 73, 74, 75, 76, 77, 78, 79, 80, 81, 82, 83, 84, 85, 86, 87, 88, 89, 90, 91, 92, 93, 94] (by decide +kernel) (by decide +kernel)
set_option maxRecDepth 20000 in
theorem gX6_entry_X6_layAll : GoodIn wsX6_entry (wsV RX6 197 RX6 yX6_layAll wsX6_layAll) := goodIn_app (goodIn_of _ (by decide +kernel)) ggX6_entry_X6_layAll
set_option maxRecDepth 20000 in
theorem ggX6_entry_X6_lines : GoodIn wsX6_entry wsX6_lines := goodIn_r _ [36, 4, 73, 74, 75, 76, 77, 78, 79, 80, 81, 82, 83, 84, 85, 86, 87, 88, 89, 90, 91, 92, 93, 94] (by decide +kernel) (by decide +kernel)
set_option maxRecDepth 20000 in
theorem gX6_entry_X6_lines : GoodIn wsX6_entry (wsV RX6 152 RX6 yX6_lines wsX6_lines) := goodIn_app (goodIn_of _ (by decide +kernel)) ggX6_entry_X6_lines
set_option maxRecDepth 20000 in
theorem ggX6_entry_X6_size : GoodIn wsX6_entry wsX6_size := goodIn_r _ [65, 66, 67, 8, 68, 69, 70, 71, 72] (by decide +kernel) (by decide +kernel)
set_option maxRecDepth 20000 in
theorem gX6_entry_X6_size : GoodIn wsX6_entry (va_wsS RX6 179 yX6_size wsX6_size) := goodIn_app (goodIn_of _ (by decide +kernel)) ggX6_entry_X6_size
set_option maxRecDepth 20000 in
theorem ggX6_entry_X6_letter : GoodIn wsX6_entry wsX6_letter := goodIn_r _ [68, 69, 70, 71, 8, 72] (by decide +kernel) (by decide +kernel)
set_option maxRecDepth 20000 in
theorem gX6_entry_X6_letter : GoodIn wsX6_entry (va_wsS RX6 100 yX6_letter wsX6_letter) := goodIn_app (goodIn_of _ (by decide +kernel)) ggX6_entry_X6_letter
theorem dX6_entry_0 : decode cX6_entry 0 = .ok (.aload_n 0, 1) := by decide +kernel
theorem dX6_entry_1 : decode cX6_entry 1 = .ok (.iload_n 1, 1) := by decide +kernel
theorem dX6_entry_2 : decode cX6_entry 2 = .ok (.invokevirtual 149, 3) := by decide +kernel
theorem dX6_entry_5 : decode cX6_entry 5 = .ok (.ifCond .ne 5, 3) := by decide +kernel
theorem dX6_entry_8 : decode cX6_entry 8 = .ok (.iconst (-1), 1) := by decide +kernel
theorem dX6_entry_9 : decode cX6_entry 9 = .ok (.ireturn, 1) := by decide +kernel
theorem dX6_entry_10 : decode cX6_entry 10 = .ok (.iload_n 2, 1) := by decide +kernel
theorem dX6_entry_11 : decode cX6_entry 11 = .ok (.ifCond .ge 6, 3) := by decide +kernel
theorem dX6_entry_14 : decode cX6_entry 14 = .ok (.bipush (-2), 2) := by decide +kernel
theorem dX6_entry_16 : decode cX6_entry 16 = .ok (.ireturn, 1) := by decide +kernel
theorem dX6_entry_17 : decode cX6_entry 17 = .ok (.aload_n 0, 1) := by decide +kernel
theorem dX6_entry_18 : decode cX6_entry 18 = .ok (.invokevirtual 197, 3) := by decide +kernel
theorem dX6_entry_21 : decode cX6_entry 21 = .ok (.iload_n 2, 1) := by decide +kernel
theorem dX6_entry_22 : decode cX6_entry 22 = .ok (.tableswitch 93 0 5 #[38, 44, 51, 58, 65, 81], 38) := by decide +kernel
theorem dX6_entry_60 : decode cX6_entry 60 = .ok (.aload_n 0, 1) := by decide +kernel
theorem dX6_entry_61 : decode cX6_entry 61 = .ok (.iload_n 1, 1) := by decide +kernel
theorem dX6_entry_62 : decode cX6_entry 62 = .ok (.invokevirtual 152, 3) := by decide +kernel
theorem dX6_entry_65 : decode cX6_entry 65 = .ok (.ireturn, 1) := by decide +kernel
theorem dX6_entry_66 : decode cX6_entry 66 = .ok (.aload_n 0, 1) := by decide +kernel
theorem dX6_entry_67 : decode cX6_entry 67 = .ok (.getfield 48, 3) := by decide +kernel
theorem dX6_entry_70 : decode cX6_entry 70 = .ok (.iload_n 1, 1) := by decide +kernel
theorem dX6_entry_71 : decode cX6_entry 71 = .ok (.iaload, 1) := by decide +kernel
theorem dX6_entry_72 : decode cX6_entry 72 = .ok (.ireturn, 1) := by decide +kernel
theorem dX6_entry_73 : decode cX6_entry 73 = .ok (.aload_n 0, 1) := by decide +kernel
theorem dX6_entry_74 : decode cX6_entry 74 = .ok (.getfield 51, 3) := by decide +kernel
theorem dX6_entry_77 : decode cX6_entry 77 = .ok (.iload_n 1, 1) := by decide +kernel
theorem dX6_entry_78 : decode cX6_entry 78 = .ok (.iaload, 1) := by decide +kernel
theorem dX6_entry_79 : decode cX6_entry 79 = .ok (.ireturn, 1) := by decide +kernel
theorem dX6_entry_80 : decode cX6_entry 80 = .ok (.aload_n 0, 1) := by decide +kernel
theorem dX6_entry_81 : decode cX6_entry 81 = .ok (.getfield 54, 3) := by decide +kernel
theorem dX6_entry_84 : decode cX6_entry 84 = .ok (.iload_n 1, 1) := by decide +kernel
theorem dX6_entry_85 : decode cX6_entry 85 = .ok (.iaload, 1) := by decide +kernel
theorem dX6_entry_86 : decode cX6_entry 86 = .ok (.ireturn, 1) := by decide +kernel
theorem dX6_entry_87 : decode cX6_entry 87 = .ok (.aload_n 0, 1) := by decide +kernel
theorem dX6_entry_88 : decode cX6_entry 88 = .ok (.getfield 54, 3) := by decide +kernel
theorem dX6_entry_91 : decode cX6_entry 91 = .ok (.iload_n 1, 1) := by decide +kernel
theorem dX6_entry_92 : decode cX6_entry 92 = .ok (.iaload, 1) := by decide +kernel
theorem dX6_entry_93 : decode cX6_entry 93 = .ok (.aload_n 0, 1) := by decide +kernel
theorem dX6_entry_94 : decode cX6_entry 94 = .ok (.getfield 48, 3) := by decide +kernel
theorem dX6_entry_97 : decode cX6_entry 97 = .ok (.iload_n 1, 1) := by decide +kernel
theorem dX6_entry_98 : decode cX6_entry 98 = .ok (.iaload, 1) := by decide +kernel
theorem dX6_entry_99 : decode cX6_entry 99 = .ok (.isub, 1) := by decide +kernel
theorem dX6_entry_100 : decode cX6_entry 100 = .ok (.iconst 1, 1) := by decide +kernel
theorem dX6_entry_101 : decode cX6_entry 101 = .ok (.iadd, 1) := by decide +kernel
theorem dX6_entry_102 : decode cX6_entry 102 = .ok (.ireturn, 1) := by decide +kernel
theorem dX6_entry_103 : decode cX6_entry 103 = .ok (.aload_n 0, 1) := by decide +kernel
theorem dX6_entry_104 : decode cX6_entry 104 = .ok (.getfield 7, 3) := by decide +kernel
theorem dX6_entry_107 : decode cX6_entry 107 = .ok (.iconst 4, 1) := by decide +kernel
theorem dX6_entry_108 : decode cX6_entry 108 = .ok (.iload_n 1, 1) := by decide +kernel
theorem dX6_entry_109 : decode cX6_entry 109 = .ok (.iadd, 1) := by decide +kernel
theorem dX6_entry_110 : decode cX6_entry 110 = .ok (.laload, 1) := by decide +kernel
theorem dX6_entry_111 : decode cX6_entry 111 = .ok (.invokestatic 179, 3) := by decide +kernel
theorem dX6_entry_114 : decode cX6_entry 114 = .ok (.ireturn, 1) := by decide +kernel
theorem dX6_entry_115 : decode cX6_entry 115 = .ok (.aload_n 0, 1) := by decide +kernel
theorem dX6_entry_116 : decode cX6_entry 116 = .ok (.getfield 7, 3) := by decide +kernel
theorem dX6_entry_119 : decode cX6_entry 119 = .ok (.iconst 4, 1) := by decide +kernel
theorem dX6_entry_120 : decode cX6_entry 120 = .ok (.iload_n 1, 1) := by decide +kernel
theorem dX6_entry_121 : decode cX6_entry 121 = .ok (.iadd, 1) := by decide +kernel
theorem dX6_entry_122 : decode cX6_entry 122 = .ok (.laload, 1) := by decide +kernel
theorem dX6_entry_123 : decode cX6_entry 123 = .ok (.iload_n 2, 1) := by decide +kernel
theorem dX6_entry_124 : decode cX6_entry 124 = .ok (.bipush 6, 2) := by decide +kernel
theorem dX6_entry_126 : decode cX6_entry 126 = .ok (.isub, 1) := by decide +kernel
theorem dX6_entry_127 : decode cX6_entry 127 = .ok (.invokestatic 100, 3) := by decide +kernel
theorem dX6_entry_130 : decode cX6_entry 130 = .ok (.ireturn, 1) := by decide +kernel
set_option maxRecDepth 20000 in
theorem ggX6_begun_X6_many : GoodIn wsX6_begun wsX6_many := goodIn_r _ [6, 7, 8, 9, 10, 11, 12, 13, 14, 15, 16, 17, 18, 19, 20, 21, 22, 23, 24, 25, 26, 27, 28, 29] (by decide +kernel) (by decide +kernel)
set_option maxRecDepth 20000 in
theorem gX6_begun_X6_many : GoodIn wsX6_begun (wsV RX6 73 RX6 yX6_many wsX6_many) := goodIn_app (goodIn_of _ (by decide +kernel)) ggX6_begun_X6_many
theorem dX6_begun_0 : decode cX6_begun 0 = .ok (.iconst 0, 1) := by decide +kernel
theorem dX6_begun_1 : decode cX6_begun 1 = .ok (.istore_n 2, 1) := by decide +kernel
theorem dX6_begun_2 : decode cX6_begun 2 = .ok (.iconst 0, 1) := by decide +kernel
theorem dX6_begun_3 : decode cX6_begun 3 = .ok (.istore_n 3, 1) := by decide +kernel
theorem dX6_begun_4 : decode cX6_begun 4 = .ok (.iload_n 3, 1) := by decide +kernel
theorem dX6_begun_5 : decode cX6_begun 5 = .ok (.aload_n 0, 1) := by decide +kernel
theorem dX6_begun_6 : decode cX6_begun 6 = .ok (.invokevirtual 73, 3) := by decide +kernel
theorem dX6_begun_9 : decode cX6_begun 9 = .ok (.if_icmp .ge 27, 3) := by decide +kernel
theorem dX6_begun_12 : decode cX6_begun 12 = .ok (.iload_n 2, 1) := by decide +kernel
theorem dX6_begun_13 : decode cX6_begun 13 = .ok (.aload_n 0, 1) := by decide +kernel
theorem dX6_begun_14 : decode cX6_begun 14 = .ok (.getfield 48, 3) := by decide +kernel
theorem dX6_begun_17 : decode cX6_begun 17 = .ok (.iload_n 3, 1) := by decide +kernel
theorem dX6_begun_18 : decode cX6_begun 18 = .ok (.iaload, 1) := by decide +kernel
theorem dX6_begun_19 : decode cX6_begun 19 = .ok (.iload_n 1, 1) := by decide +kernel
theorem dX6_begun_20 : decode cX6_begun 20 = .ok (.if_icmp .ne 7, 3) := by decide +kernel
theorem dX6_begun_23 : decode cX6_begun 23 = .ok (.iconst 1, 1) := by decide +kernel
theorem dX6_begun_24 : decode cX6_begun 24 = .ok (.goto 4, 3) := by decide +kernel
theorem dX6_begun_27 : decode cX6_begun 27 = .ok (.iconst 0, 1) := by decide +kernel
theorem dX6_begun_28 : decode cX6_begun 28 = .ok (.iadd, 1) := by decide +kernel
theorem dX6_begun_29 : decode cX6_begun 29 = .ok (.istore_n 2, 1) := by decide +kernel
theorem dX6_begun_30 : decode cX6_begun 30 = .ok (.iinc 3 1, 3) := by decide +kernel
theorem dX6_begun_33 : decode cX6_begun 33 = .ok (.goto (-29), 3) := by decide +kernel
theorem dX6_begun_36 : decode cX6_begun 36 = .ok (.iload_n 2, 1) := by decide +kernel
theorem dX6_begun_37 : decode cX6_begun 37 = .ok (.ireturn, 1) := by decide +kernel
set_option maxRecDepth 20000 in
theorem ggX6_headCode_X6_size : GoodIn wsX6_headCode wsX6_size := goodIn_r _ [7, 8, 9, 6, 10, 11, 12, 13, 14] (by decide +kernel) (by decide +kernel)
set_option maxRecDepth 20000 in
theorem gX6_headCode_X6_size : GoodIn wsX6_headCode (va_wsS RX6 179 yX6_size wsX6_size) := goodIn_app (goodIn_of _ (by decide +kernel)) ggX6_headCode_X6_size
set_option maxRecDepth 20000 in
theorem ggX6_headCode_X6_letter : GoodIn wsX6_headCode wsX6_letter := goodIn_r _ [10, 11, 12, 13, 6, 14] (by decide +kernel) (by decide +kernel)
set_option maxRecDepth 20000 in
theorem gX6_headCode_X6_letter : GoodIn wsX6_headCode (va_wsS RX6 100 yX6_letter wsX6_letter) := goodIn_app (goodIn_of _ (by decide +kernel)) ggX6_headCode_X6_letter
theorem dX6_headCode_0 : decode cX6_headCode 0 = .ok (.aload_n 0, 1) := by decide +kernel
theorem dX6_headCode_1 : decode cX6_headCode 1 = .ok (.getfield 7, 3) := by decide +kernel
theorem dX6_headCode_4 : decode cX6_headCode 4 = .ok (.iconst 4, 1) := by decide +kernel
theorem dX6_headCode_5 : decode cX6_headCode 5 = .ok (.aload_n 0, 1) := by decide +kernel
theorem dX6_headCode_6 : decode cX6_headCode 6 = .ok (.getfield 42, 3) := by decide +kernel
theorem dX6_headCode_9 : decode cX6_headCode 9 = .ok (.iload_n 1, 1) := by decide +kernel
theorem dX6_headCode_10 : decode cX6_headCode 10 = .ok (.iaload, 1) := by decide +kernel
theorem dX6_headCode_11 : decode cX6_headCode 11 = .ok (.iadd, 1) := by decide +kernel
theorem dX6_headCode_12 : decode cX6_headCode 12 = .ok (.laload, 1) := by decide +kernel
theorem dX6_headCode_13 : decode cX6_headCode 13 = .ok (.lstore_n 3, 1) := by decide +kernel
theorem dX6_headCode_14 : decode cX6_headCode 14 = .ok (.lload_n 3, 1) := by decide +kernel
theorem dX6_headCode_15 : decode cX6_headCode 15 = .ok (.invokestatic 179, 3) := by decide +kernel
theorem dX6_headCode_18 : decode cX6_headCode 18 = .ok (.istore 5, 2) := by decide +kernel
theorem dX6_headCode_20 : decode cX6_headCode 20 = .ok (.iload_n 2, 1) := by decide +kernel
theorem dX6_headCode_21 : decode cX6_headCode 21 = .ok (.iload 5, 2) := by decide +kernel
theorem dX6_headCode_23 : decode cX6_headCode 23 = .ok (.if_icmp .lt 18, 3) := by decide +kernel
theorem dX6_headCode_26 : decode cX6_headCode 26 = .ok (.aload_n 0, 1) := by decide +kernel
theorem dX6_headCode_27 : decode cX6_headCode 27 = .ok (.getfield 42, 3) := by decide +kernel
theorem dX6_headCode_30 : decode cX6_headCode 30 = .ok (.iload_n 1, 1) := by decide +kernel
theorem dX6_headCode_31 : decode cX6_headCode 31 = .ok (.iaload, 1) := by decide +kernel
theorem dX6_headCode_32 : decode cX6_headCode 32 = .ok (.aload_n 0, 1) := by decide +kernel
theorem dX6_headCode_33 : decode cX6_headCode 33 = .ok (.getfield 45, 3) := by decide +kernel
theorem dX6_headCode_36 : decode cX6_headCode 36 = .ok (.iload_n 1, 1) := by decide +kernel
theorem dX6_headCode_37 : decode cX6_headCode 37 = .ok (.iaload, 1) := by decide +kernel
theorem dX6_headCode_38 : decode cX6_headCode 38 = .ok (.if_icmp .ne 9, 3) := by decide +kernel
theorem dX6_headCode_41 : decode cX6_headCode 41 = .ok (.lload_n 3, 1) := by decide +kernel
theorem dX6_headCode_42 : decode cX6_headCode 42 = .ok (.iload_n 2, 1) := by decide +kernel
theorem dX6_headCode_43 : decode cX6_headCode 43 = .ok (.invokestatic 100, 3) := by decide +kernel
theorem dX6_headCode_46 : decode cX6_headCode 46 = .ok (.ireturn, 1) := by decide +kernel
theorem dX6_headCode_47 : decode cX6_headCode 47 = .ok (.iload_n 2, 1) := by decide +kernel
theorem dX6_headCode_48 : decode cX6_headCode 48 = .ok (.iload 5, 2) := by decide +kernel
theorem dX6_headCode_50 : decode cX6_headCode 50 = .ok (.if_icmp .ne 8, 3) := by decide +kernel
theorem dX6_headCode_53 : decode cX6_headCode 53 = .ok (.bipush 45, 2) := by decide +kernel
theorem dX6_headCode_55 : decode cX6_headCode 55 = .ok (.goto 25, 3) := by decide +kernel
theorem dX6_headCode_58 : decode cX6_headCode 58 = .ok (.aload_n 0, 1) := by decide +kernel
theorem dX6_headCode_59 : decode cX6_headCode 59 = .ok (.getfield 7, 3) := by decide +kernel
theorem dX6_headCode_62 : decode cX6_headCode 62 = .ok (.iconst 4, 1) := by decide +kernel
theorem dX6_headCode_63 : decode cX6_headCode 63 = .ok (.aload_n 0, 1) := by decide +kernel
theorem dX6_headCode_64 : decode cX6_headCode 64 = .ok (.getfield 45, 3) := by decide +kernel
theorem dX6_headCode_67 : decode cX6_headCode 67 = .ok (.iload_n 1, 1) := by decide +kernel
theorem dX6_headCode_68 : decode cX6_headCode 68 = .ok (.iaload, 1) := by decide +kernel
theorem dX6_headCode_69 : decode cX6_headCode 69 = .ok (.iadd, 1) := by decide +kernel
theorem dX6_headCode_70 : decode cX6_headCode 70 = .ok (.laload, 1) := by decide +kernel
theorem dX6_headCode_71 : decode cX6_headCode 71 = .ok (.iload_n 2, 1) := by decide +kernel
theorem dX6_headCode_72 : decode cX6_headCode 72 = .ok (.iload 5, 2) := by decide +kernel
theorem dX6_headCode_74 : decode cX6_headCode 74 = .ok (.isub, 1) := by decide +kernel
theorem dX6_headCode_75 : decode cX6_headCode 75 = .ok (.iconst 1, 1) := by decide +kernel
theorem dX6_headCode_76 : decode cX6_headCode 76 = .ok (.isub, 1) := by decide +kernel
theorem dX6_headCode_77 : decode cX6_headCode 77 = .ok (.invokestatic 100, 3) := by decide +kernel
theorem dX6_headCode_80 : decode cX6_headCode 80 = .ok (.ireturn, 1) := by decide +kernel
set_option maxRecDepth 20000 in
theorem ggX6_page_X6_layAll : GoodIn wsX6_page wsX6_layAll := goodIn_r _ [10, 5, 11, 1, 12, 13, 14, 9, 15, 4, 16, 17, 18, 19, 20, 21, 22, 23, 24, 25, 26, 27, 28, 29, 30, 31, 32, 33, 34, 35, 36, 37, 38, 39, 40, 41, 2, 3, 42, 43, 44, 45, 46, 47, 48, 49, 50, 51, 52, 53, 54, 55, 56, 57, 58, 59, 60, 61, 62, 63, 64, 65, 77, 78, 79, 80, 81, 82, 83, 84, 85, 86, 87, 88, 89, 90, 91, 92, 93, 94, 95, 96, 97, 98] (by decide +kernel) (by decide +kernel)
set_option maxRecDepth 20000 in
theorem gX6_page_X6_layAll : GoodIn wsX6_page (wsV RX6 197 RX6 yX6_layAll wsX6_layAll) := goodIn_app (goodIn_of _ (by decide +kernel)) ggX6_page_X6_layAll
set_option maxRecDepth 20000 in
theorem ggX6_page_X6_in : GoodIn wsX6_page wsX6_in := goodIn_r _ [68] (by decide +kernel) (by decide +kernel)
set_option maxRecDepth 20000 in
theorem gX6_page_X6_in : GoodIn wsX6_page (va_wsS RX6 61 yX6_in wsX6_in) := goodIn_app (goodIn_of _ (by decide +kernel)) ggX6_page_X6_in
set_option maxRecDepth 20000 in
theorem ggX6_page_X6_begun : GoodIn wsX6_page wsX6_begun := goodIn_r _ [72, 42, 17, 18, 19, 9, 20, 21, 77, 78, 79, 80, 81, 82, 83, 84, 85, 86, 87, 88, 89, 90, 91, 92, 93, 94, 95, 96, 97, 98] (by decide +kernel) (by decide +kernel)
set_option maxRecDepth 20000 in
theorem gX6_page_X6_begun : GoodIn wsX6_page (wsV RX6 200 RX6 yX6_begun wsX6_begun) := goodIn_app (goodIn_of _ (by decide +kernel)) ggX6_page_X6_begun
set_option maxRecDepth 20000 in
theorem ggX6_page_X6_room : GoodIn wsX6_page wsX6_room := goodIn_r _ [33, 21, 5, 77, 78, 79, 80, 81, 82, 83, 84, 85, 86, 87, 88, 89, 90, 91, 92, 93, 94, 95, 96, 97, 98] (by decide +kernel) (by decide +kernel)
set_option maxRecDepth 20000 in
theorem gX6_page_X6_room : GoodIn wsX6_page (wsV RX6 165 RX6 yX6_room wsX6_room) := goodIn_app (goodIn_of _ (by decide +kernel)) ggX6_page_X6_room
set_option maxRecDepth 20000 in
theorem ggX6_page_X6_headSize : GoodIn wsX6_page wsX6_headSize := goodIn_r _ [55, 21, 2, 3, 56, 57, 9, 58, 59, 60, 61, 62, 63, 64, 65, 77, 78, 79, 80, 81, 82, 83, 84, 85, 86, 87, 88, 89, 90, 91, 92, 93, 94, 95, 96, 97, 98] (by decide +kernel) (by decide +kernel)
set_option maxRecDepth 20000 in
theorem gX6_page_X6_headSize : GoodIn wsX6_page (wsV RX6 182 RX6 yX6_headSize wsX6_headSize) := goodIn_app (goodIn_of _ (by decide +kernel)) ggX6_page_X6_headSize
set_option maxRecDepth 20000 in
theorem ggX6_page_X6_headCode : GoodIn wsX6_page wsX6_headCode := goodIn_r _ [76, 21, 2, 3, 56, 57, 9, 58, 59, 60, 61, 62, 63, 64, 65, 77, 78, 79, 80, 81, 82, 83, 84, 85, 86, 87, 88, 89, 90, 91, 92, 93, 94, 95, 96, 97, 98] (by decide +kernel) (by decide +kernel)
set_option maxRecDepth 20000 in
theorem gX6_page_X6_headCode : GoodIn wsX6_page (wsV RX6 203 RX6 yX6_headCode wsX6_headCode) := goodIn_app (goodIn_of _ (by decide +kernel)) ggX6_page_X6_headCode
theorem dX6_page_0 : decode cX6_page 0 = .ok (.aload_n 0, 1) := by decide +kernel
theorem dX6_page_1 : decode cX6_page 1 = .ok (.invokevirtual 197, 3) := by decide +kernel
theorem dX6_page_4 : decode cX6_page 4 = .ok (.iload_n 1, 1) := by decide +kernel
theorem dX6_page_5 : decode cX6_page 5 = .ok (.i2l, 1) := by decide +kernel
theorem dX6_page_6 : decode cX6_page 6 = .ok (.lconst 0, 1) := by decide +kernel
theorem dX6_page_7 : decode cX6_page 7 = .ok (.aload_n 0, 1) := by decide +kernel
theorem dX6_page_8 : decode cX6_page 8 = .ok (.getfield 162, 3) := by decide +kernel
theorem dX6_page_11 : decode cX6_page 11 = .ok (.iconst 1, 1) := by decide +kernel
theorem dX6_page_12 : decode cX6_page 12 = .ok (.isub, 1) := by decide +kernel
theorem dX6_page_13 : decode cX6_page 13 = .ok (.i2l, 1) := by decide +kernel
theorem dX6_page_14 : decode cX6_page 14 = .ok (.invokestatic 61, 3) := by decide +kernel
theorem dX6_page_17 : decode cX6_page 17 = .ok (.ifCond .ne 5, 3) := by decide +kernel
theorem dX6_page_20 : decode cX6_page 20 = .ok (.iconst (-1), 1) := by decide +kernel
theorem dX6_page_21 : decode cX6_page 21 = .ok (.ireturn, 1) := by decide +kernel
theorem dX6_page_22 : decode cX6_page 22 = .ok (.iload_n 2, 1) := by decide +kernel
theorem dX6_page_23 : decode cX6_page 23 = .ok (.ifCond .ge 6, 3) := by decide +kernel
theorem dX6_page_26 : decode cX6_page 26 = .ok (.bipush (-2), 2) := by decide +kernel
theorem dX6_page_28 : decode cX6_page 28 = .ok (.ireturn, 1) := by decide +kernel
theorem dX6_page_29 : decode cX6_page 29 = .ok (.iload_n 2, 1) := by decide +kernel
theorem dX6_page_30 : decode cX6_page 30 = .ok (.tableswitch 95 0 6 #[42, 49, 56, 62, 69, 82, 89], 42) := by decide +kernel
theorem dX6_page_72 : decode cX6_page 72 = .ok (.aload_n 0, 1) := by decide +kernel
theorem dX6_page_73 : decode cX6_page 73 = .ok (.getfield 42, 3) := by decide +kernel
theorem dX6_page_76 : decode cX6_page 76 = .ok (.iload_n 1, 1) := by decide +kernel
theorem dX6_page_77 : decode cX6_page 77 = .ok (.iaload, 1) := by decide +kernel
theorem dX6_page_78 : decode cX6_page 78 = .ok (.ireturn, 1) := by decide +kernel
theorem dX6_page_79 : decode cX6_page 79 = .ok (.aload_n 0, 1) := by decide +kernel
theorem dX6_page_80 : decode cX6_page 80 = .ok (.getfield 45, 3) := by decide +kernel
theorem dX6_page_83 : decode cX6_page 83 = .ok (.iload_n 1, 1) := by decide +kernel
theorem dX6_page_84 : decode cX6_page 84 = .ok (.iaload, 1) := by decide +kernel
theorem dX6_page_85 : decode cX6_page 85 = .ok (.ireturn, 1) := by decide +kernel
theorem dX6_page_86 : decode cX6_page 86 = .ok (.aload_n 0, 1) := by decide +kernel

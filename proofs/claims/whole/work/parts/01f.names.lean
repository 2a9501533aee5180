theorem dX6_page_87 : decode cX6_page 87 = .ok (.iload_n 1, 1) := by decide +kernel
theorem dX6_page_88 : decode cX6_page 88 = .ok (.invokevirtual 200, 3) := by decide +kernel
theorem dX6_page_91 : decode cX6_page 91 = .ok (.ireturn, 1) := by decide +kernel
theorem dX6_page_92 : decode cX6_page 92 = .ok (.aload_n 0, 1) := by decide +kernel
theorem dX6_page_93 : decode cX6_page 93 = .ok (.getfield 39, 3) := by decide +kernel
theorem dX6_page_96 : decode cX6_page 96 = .ok (.iload_n 1, 1) := by decide +kernel
theorem dX6_page_97 : decode cX6_page 97 = .ok (.iaload, 1) := by decide +kernel
theorem dX6_page_98 : decode cX6_page 98 = .ok (.ireturn, 1) := by decide +kernel
theorem dX6_page_99 : decode cX6_page 99 = .ok (.aload_n 0, 1) := by decide +kernel
theorem dX6_page_100 : decode cX6_page 100 = .ok (.iload_n 1, 1) := by decide +kernel
theorem dX6_page_101 : decode cX6_page 101 = .ok (.invokevirtual 165, 3) := by decide +kernel
theorem dX6_page_104 : decode cX6_page 104 = .ok (.aload_n 0, 1) := by decide +kernel
theorem dX6_page_105 : decode cX6_page 105 = .ok (.getfield 39, 3) := by decide +kernel
theorem dX6_page_108 : decode cX6_page 108 = .ok (.iload_n 1, 1) := by decide +kernel
theorem dX6_page_109 : decode cX6_page 109 = .ok (.iaload, 1) := by decide +kernel
theorem dX6_page_110 : decode cX6_page 110 = .ok (.isub, 1) := by decide +kernel
theorem dX6_page_111 : decode cX6_page 111 = .ok (.ireturn, 1) := by decide +kernel
theorem dX6_page_112 : decode cX6_page 112 = .ok (.aload_n 0, 1) := by decide +kernel
theorem dX6_page_113 : decode cX6_page 113 = .ok (.getfield 36, 3) := by decide +kernel
theorem dX6_page_116 : decode cX6_page 116 = .ok (.iload_n 1, 1) := by decide +kernel
theorem dX6_page_117 : decode cX6_page 117 = .ok (.iaload, 1) := by decide +kernel
theorem dX6_page_118 : decode cX6_page 118 = .ok (.ireturn, 1) := by decide +kernel
theorem dX6_page_119 : decode cX6_page 119 = .ok (.aload_n 0, 1) := by decide +kernel
theorem dX6_page_120 : decode cX6_page 120 = .ok (.iload_n 1, 1) := by decide +kernel
theorem dX6_page_121 : decode cX6_page 121 = .ok (.invokevirtual 182, 3) := by decide +kernel
theorem dX6_page_124 : decode cX6_page 124 = .ok (.ireturn, 1) := by decide +kernel
theorem dX6_page_125 : decode cX6_page 125 = .ok (.aload_n 0, 1) := by decide +kernel
theorem dX6_page_126 : decode cX6_page 126 = .ok (.iload_n 1, 1) := by decide +kernel
theorem dX6_page_127 : decode cX6_page 127 = .ok (.iload_n 2, 1) := by decide +kernel
theorem dX6_page_128 : decode cX6_page 128 = .ok (.bipush 7, 2) := by decide +kernel
theorem dX6_page_130 : decode cX6_page 130 = .ok (.isub, 1) := by decide +kernel
theorem dX6_page_131 : decode cX6_page 131 = .ok (.invokevirtual 203, 3) := by decide +kernel
theorem dX6_page_134 : decode cX6_page 134 = .ok (.ireturn, 1) := by decide +kernel
set_option maxRecDepth 20000 in
theorem ggX6_named_X6_many : GoodIn wsX6_named wsX6_many := goodIn_r _ [8, 9, 10, 11, 12, 13, 14, 15, 16, 17, 18, 19, 20, 21, 22, 23, 24, 25, 26, 27, 28, 29, 30, 31] (by decide +kernel) (by decide +kernel)
set_option maxRecDepth 20000 in
theorem gX6_named_X6_many : GoodIn wsX6_named (wsV RX6 73 RX6 yX6_many wsX6_many) := goodIn_app (goodIn_of _ (by decide +kernel)) ggX6_named_X6_many
theorem dX6_named_0 : decode cX6_named 0 = .ok (.bipush (-6), 2) := by decide +kernel
theorem dX6_named_2 : decode cX6_named 2 = .ok (.istore_n 3, 1) := by decide +kernel
theorem dX6_named_3 : decode cX6_named 3 = .ok (.iconst 0, 1) := by decide +kernel
theorem dX6_named_4 : decode cX6_named 4 = .ok (.istore 4, 2) := by decide +kernel
theorem dX6_named_6 : decode cX6_named 6 = .ok (.iload 4, 2) := by decide +kernel
theorem dX6_named_8 : decode cX6_named 8 = .ok (.aload_n 0, 1) := by decide +kernel
theorem dX6_named_9 : decode cX6_named 9 = .ok (.invokevirtual 73, 3) := by decide +kernel
theorem dX6_named_12 : decode cX6_named 12 = .ok (.if_icmp .ge 37, 3) := by decide +kernel
theorem dX6_named_15 : decode cX6_named 15 = .ok (.aload_n 0, 1) := by decide +kernel
theorem dX6_named_16 : decode cX6_named 16 = .ok (.getfield 48, 3) := by decide +kernel
theorem dX6_named_19 : decode cX6_named 19 = .ok (.iload 4, 2) := by decide +kernel
theorem dX6_named_21 : decode cX6_named 21 = .ok (.iaload, 1) := by decide +kernel
theorem dX6_named_22 : decode cX6_named 22 = .ok (.iload_n 1, 1) := by decide +kernel
theorem dX6_named_23 : decode cX6_named 23 = .ok (.if_icmp .ne 18, 3) := by decide +kernel
theorem dX6_named_26 : decode cX6_named 26 = .ok (.iload_n 2, 1) := by decide +kernel
theorem dX6_named_27 : decode cX6_named 27 = .ok (.ifCond .ne 9, 3) := by decide +kernel
theorem dX6_named_30 : decode cX6_named 30 = .ok (.iload_n 3, 1) := by decide +kernel
theorem dX6_named_31 : decode cX6_named 31 = .ok (.bipush (-6), 2) := by decide +kernel
theorem dX6_named_33 : decode cX6_named 33 = .ok (.if_icmp .ne 8, 3) := by decide +kernel
theorem dX6_named_36 : decode cX6_named 36 = .ok (.iload 4, 2) := by decide +kernel
theorem dX6_named_38 : decode cX6_named 38 = .ok (.goto 4, 3) := by decide +kernel
theorem dX6_named_41 : decode cX6_named 41 = .ok (.iload_n 3, 1) := by decide +kernel
theorem dX6_named_42 : decode cX6_named 42 = .ok (.istore_n 3, 1) := by decide +kernel
theorem dX6_named_43 : decode cX6_named 43 = .ok (.iinc 4 1, 3) := by decide +kernel
theorem dX6_named_46 : decode cX6_named 46 = .ok (.goto (-40), 3) := by decide +kernel
theorem dX6_named_49 : decode cX6_named 49 = .ok (.iload_n 3, 1) := by decide +kernel
theorem dX6_named_50 : decode cX6_named 50 = .ok (.bipush (-6), 2) := by decide +kernel
theorem dX6_named_52 : decode cX6_named 52 = .ok (.if_icmp .eq 7, 3) := by decide +kernel
theorem dX6_named_55 : decode cX6_named 55 = .ok (.iload_n 3, 1) := by decide +kernel
theorem dX6_named_56 : decode cX6_named 56 = .ok (.goto 22, 3) := by decide +kernel
theorem dX6_named_59 : decode cX6_named 59 = .ok (.iload_n 2, 1) := by decide +kernel
theorem dX6_named_60 : decode cX6_named 60 = .ok (.ifCond .eq 12, 3) := by decide +kernel
theorem dX6_named_63 : decode cX6_named 63 = .ok (.aload_n 0, 1) := by decide +kernel
theorem dX6_named_64 : decode cX6_named 64 = .ok (.getfield 45, 3) := by decide +kernel
theorem dX6_named_67 : decode cX6_named 67 = .ok (.iload_n 1, 1) := by decide +kernel
theorem dX6_named_68 : decode cX6_named 68 = .ok (.iaload, 1) := by decide +kernel
theorem dX6_named_69 : decode cX6_named 69 = .ok (.goto 9, 3) := by decide +kernel
theorem dX6_named_72 : decode cX6_named 72 = .ok (.aload_n 0, 1) := by decide +kernel
theorem dX6_named_73 : decode cX6_named 73 = .ok (.getfield 42, 3) := by decide +kernel
theorem dX6_named_76 : decode cX6_named 76 = .ok (.iload_n 1, 1) := by decide +kernel
theorem dX6_named_77 : decode cX6_named 77 = .ok (.iaload, 1) := by decide +kernel
theorem dX6_named_78 : decode cX6_named 78 = .ok (.ireturn, 1) := by decide +kernel
theorem dX6_folds_0 : decode cX6_folds 0 = .ok (.aload_n 0, 1) := by decide +kernel
theorem dX6_folds_1 : decode cX6_folds 1 = .ok (.getfield 162, 3) := by decide +kernel
theorem dX6_folds_4 : decode cX6_folds 4 = .ok (.iconst 1, 1) := by decide +kernel
theorem dX6_folds_5 : decode cX6_folds 5 = .ok (.iadd, 1) := by decide +kernel
theorem dX6_folds_6 : decode cX6_folds 6 = .ok (.iconst 2, 1) := by decide +kernel
theorem dX6_folds_7 : decode cX6_folds 7 = .ok (.idiv, 1) := by decide +kernel
theorem dX6_folds_8 : decode cX6_folds 8 = .ok (.ireturn, 1) := by decide +kernel
set_option maxRecDepth 20000 in
theorem ggX6_fold_X6_layAll : GoodIn wsX6_fold wsX6_layAll := goodIn_r _ [6, 7, 8, 1, 9, 10, 11, 5, 12, 13, 14, 15, 16, 17, 18, 19, 20, 21, 22, 23, 24, 25, 26, 27, 28, 29, 30, 31, 32, 33, 34, 35, 36, 37, 38, 39, 40, 41, 42, 43, 44, 45, 46, 47, 48, 49, 50, 51, 52, 53, 54, 55, 56, 57, 58, 59, 60, 61, 62, 63, 64, 65, 77, 78, 79, 80, 81, 82, 83, 84, 85, 86, 87, 88, 89, 90, 91, 92, 93, 94, 95, 96, 97, 98] (by decide +kernel) (by decide +kernel)
set_option maxRecDepth 20000 in
theorem gX6_fold_X6_layAll : GoodIn wsX6_fold (wsV RX6 197 RX6 yX6_layAll wsX6_layAll) := goodIn_app (goodIn_of _ (by decide +kernel)) ggX6_fold_X6_layAll
set_option maxRecDepth 20000 in
theorem ggX6_fold_X6_folds : GoodIn wsX6_fold wsX6_folds := goodIn_r _ [69, 1, 77, 78, 79, 80, 81, 82, 83, 84, 85, 86, 87, 88, 89, 90, 91, 92, 93, 94, 95, 96, 97, 98] (by decide +kernel) (by decide +kernel)
set_option maxRecDepth 20000 in
theorem gX6_fold_X6_folds : GoodIn wsX6_fold (wsV RX6 206 RX6 yX6_folds wsX6_folds) := goodIn_app (goodIn_of _ (by decide +kernel)) ggX6_fold_X6_folds
set_option maxRecDepth 20000 in
theorem ggX6_fold_X6_in : GoodIn wsX6_fold wsX6_in := goodIn_r _ [72] (by decide +kernel) (by decide +kernel)
set_option maxRecDepth 20000 in
theorem gX6_fold_X6_in : GoodIn wsX6_fold (va_wsS RX6 61 yX6_in wsX6_in) := goodIn_app (goodIn_of _ (by decide +kernel)) ggX6_fold_X6_in
set_option maxRecDepth 20000 in
theorem ggX6_fold_X6_named : GoodIn wsX6_fold wsX6_named := goodIn_r _ [76, 42, 41, 40, 15, 16, 17, 5, 18, 19, 77, 78, 79, 80, 81, 82, 83, 84, 85, 86, 87, 88, 89, 90, 91, 92, 93, 94, 95, 96, 97, 98] (by decide +kernel) (by decide +kernel)
set_option maxRecDepth 20000 in
theorem gX6_fold_X6_named : GoodIn wsX6_fold (wsV RX6 209 RX6 yX6_named wsX6_named) := goodIn_app (goodIn_of _ (by decide +kernel)) ggX6_fold_X6_named
theorem dX6_fold_0 : decode cX6_fold 0 = .ok (.aload_n 0, 1) := by decide +kernel
theorem dX6_fold_1 : decode cX6_fold 1 = .ok (.invokevirtual 197, 3) := by decide +kernel
theorem dX6_fold_4 : decode cX6_fold 4 = .ok (.iload_n 1, 1) := by decide +kernel
theorem dX6_fold_5 : decode cX6_fold 5 = .ok (.i2l, 1) := by decide +kernel
theorem dX6_fold_6 : decode cX6_fold 6 = .ok (.lconst 0, 1) := by decide +kernel
theorem dX6_fold_7 : decode cX6_fold 7 = .ok (.aload_n 0, 1) := by decide +kernel
theorem dX6_fold_8 : decode cX6_fold 8 = .ok (.invokevirtual 206, 3) := by decide +kernel
theorem dX6_fold_11 : decode cX6_fold 11 = .ok (.iconst 1, 1) := by decide +kernel
theorem dX6_fold_12 : decode cX6_fold 12 = .ok (.isub, 1) := by decide +kernel
theorem dX6_fold_13 : decode cX6_fold 13 = .ok (.i2l, 1) := by decide +kernel
theorem dX6_fold_14 : decode cX6_fold 14 = .ok (.invokestatic 61, 3) := by decide +kernel
theorem dX6_fold_17 : decode cX6_fold 17 = .ok (.ifCond .ne 5, 3) := by decide +kernel
theorem dX6_fold_20 : decode cX6_fold 20 = .ok (.iconst (-1), 1) := by decide +kernel
theorem dX6_fold_21 : decode cX6_fold 21 = .ok (.ireturn, 1) := by decide +kernel
theorem dX6_fold_22 : decode cX6_fold 22 = .ok (.iload_n 2, 1) := by decide +kernel
theorem dX6_fold_23 : decode cX6_fold 23 = .ok (.ifCond .eq 12, 3) := by decide +kernel
theorem dX6_fold_26 : decode cX6_fold 26 = .ok (.aload_n 0, 1) := by decide +kernel
theorem dX6_fold_27 : decode cX6_fold 27 = .ok (.iconst 2, 1) := by decide +kernel
theorem dX6_fold_28 : decode cX6_fold 28 = .ok (.iload_n 1, 1) := by decide +kernel
theorem dX6_fold_29 : decode cX6_fold 29 = .ok (.imul, 1) := by decide +kernel
theorem dX6_fold_30 : decode cX6_fold 30 = .ok (.iconst 1, 1) := by decide +kernel
theorem dX6_fold_31 : decode cX6_fold 31 = .ok (.invokevirtual 209, 3) := by decide +kernel
theorem dX6_fold_34 : decode cX6_fold 34 = .ok (.ireturn, 1) := by decide +kernel
theorem dX6_fold_35 : decode cX6_fold 35 = .ok (.iconst 2, 1) := by decide +kernel
theorem dX6_fold_36 : decode cX6_fold 36 = .ok (.iload_n 1, 1) := by decide +kernel
theorem dX6_fold_37 : decode cX6_fold 37 = .ok (.imul, 1) := by decide +kernel
theorem dX6_fold_38 : decode cX6_fold 38 = .ok (.iconst 1, 1) := by decide +kernel
theorem dX6_fold_39 : decode cX6_fold 39 = .ok (.iadd, 1) := by decide +kernel
theorem dX6_fold_40 : decode cX6_fold 40 = .ok (.aload_n 0, 1) := by decide +kernel
theorem dX6_fold_41 : decode cX6_fold 41 = .ok (.getfield 162, 3) := by decide +kernel
theorem dX6_fold_44 : decode cX6_fold 44 = .ok (.if_icmp .ge 16, 3) := by decide +kernel
theorem dX6_fold_47 : decode cX6_fold 47 = .ok (.aload_n 0, 1) := by decide +kernel
theorem dX6_fold_48 : decode cX6_fold 48 = .ok (.iconst 2, 1) := by decide +kernel
theorem dX6_fold_49 : decode cX6_fold 49 = .ok (.iload_n 1, 1) := by decide +kernel
theorem dX6_fold_50 : decode cX6_fold 50 = .ok (.imul, 1) := by decide +kernel
theorem dX6_fold_51 : decode cX6_fold 51 = .ok (.iconst 1, 1) := by decide +kernel
theorem dX6_fold_52 : decode cX6_fold 52 = .ok (.iadd, 1) := by decide +kernel
theorem dX6_fold_53 : decode cX6_fold 53 = .ok (.iconst 0, 1) := by decide +kernel
theorem dX6_fold_54 : decode cX6_fold 54 = .ok (.invokevirtual 209, 3) := by decide +kernel
theorem dX6_fold_57 : decode cX6_fold 57 = .ok (.goto 5, 3) := by decide +kernel
theorem dX6_fold_60 : decode cX6_fold 60 = .ok (.bipush (-6), 2) := by decide +kernel
theorem dX6_fold_62 : decode cX6_fold 62 = .ok (.ireturn, 1) := by decide +kernel
set_option maxRecDepth 20000 in
theorem ggX6_blanks_X6_room : GoodIn wsX6_blanks wsX6_room := goodIn_r _ [7, 8, 9, 10, 11, 12, 13, 14, 15, 16, 17, 18, 19, 20, 21, 22, 23, 24, 25, 26, 27, 28, 29, 30, 31] (by decide +kernel) (by decide +kernel)
set_option maxRecDepth 20000 in
theorem gX6_blanks_X6_room : GoodIn wsX6_blanks (wsV RX6 165 RX6 yX6_room wsX6_room) := goodIn_app (goodIn_of _ (by decide +kernel)) ggX6_blanks_X6_room
theorem dX6_blanks_0 : decode cX6_blanks 0 = .ok (.iconst 0, 1) := by decide +kernel
theorem dX6_blanks_1 : decode cX6_blanks 1 = .ok (.istore_n 1, 1) := by decide +kernel
theorem dX6_blanks_2 : decode cX6_blanks 2 = .ok (.iconst 0, 1) := by decide +kernel
theorem dX6_blanks_3 : decode cX6_blanks 3 = .ok (.istore_n 2, 1) := by decide +kernel
theorem dX6_blanks_4 : decode cX6_blanks 4 = .ok (.iload_n 2, 1) := by decide +kernel
theorem dX6_blanks_5 : decode cX6_blanks 5 = .ok (.aload_n 0, 1) := by decide +kernel
theorem dX6_blanks_6 : decode cX6_blanks 6 = .ok (.getfield 162, 3) := by decide +kernel
theorem dX6_blanks_9 : decode cX6_blanks 9 = .ok (.if_icmp .ge 24, 3) := by decide +kernel
theorem dX6_blanks_12 : decode cX6_blanks 12 = .ok (.iload_n 1, 1) := by decide +kernel
theorem dX6_blanks_13 : decode cX6_blanks 13 = .ok (.aload_n 0, 1) := by decide +kernel
theorem dX6_blanks_14 : decode cX6_blanks 14 = .ok (.iload_n 2, 1) := by decide +kernel
theorem dX6_blanks_15 : decode cX6_blanks 15 = .ok (.invokevirtual 165, 3) := by decide +kernel
theorem dX6_blanks_18 : decode cX6_blanks 18 = .ok (.aload_n 0, 1) := by decide +kernel
theorem dX6_blanks_19 : decode cX6_blanks 19 = .ok (.getfield 39, 3) := by decide +kernel
theorem dX6_blanks_22 : decode cX6_blanks 22 = .ok (.iload_n 2, 1) := by decide +kernel
theorem dX6_blanks_23 : decode cX6_blanks 23 = .ok (.iaload, 1) := by decide +kernel
theorem dX6_blanks_24 : decode cX6_blanks 24 = .ok (.isub, 1) := by decide +kernel
theorem dX6_blanks_25 : decode cX6_blanks 25 = .ok (.iadd, 1) := by decide +kernel
theorem dX6_blanks_26 : decode cX6_blanks 26 = .ok (.istore_n 1, 1) := by decide +kernel
theorem dX6_blanks_27 : decode cX6_blanks 27 = .ok (.iinc 2 1, 3) := by decide +kernel
theorem dX6_blanks_30 : decode cX6_blanks 30 = .ok (.goto (-26), 3) := by decide +kernel
theorem dX6_blanks_33 : decode cX6_blanks 33 = .ok (.iload_n 1, 1) := by decide +kernel
theorem dX6_blanks_34 : decode cX6_blanks 34 = .ok (.ireturn, 1) := by decide +kernel
set_option maxRecDepth 20000 in
theorem ggX6_allLines_X6_many : GoodIn wsX6_allLines wsX6_many := goodIn_r _ [5, 6, 11, 12, 13, 14, 15, 16, 17, 18, 19, 20, 21, 22, 23, 24, 25, 26, 27, 28, 29, 30, 31, 32] (by decide +kernel) (by decide +kernel)
set_option maxRecDepth 20000 in
theorem gX6_allLines_X6_many : GoodIn wsX6_allLines (wsV RX6 73 RX6 yX6_many wsX6_many) := goodIn_app (goodIn_of _ (by decide +kernel)) ggX6_allLines_X6_many
set_option maxRecDepth 20000 in
theorem ggX6_allLines_X6_lines : GoodIn wsX6_allLines wsX6_lines := goodIn_r _ [10, 6, 11, 12, 13, 14, 15, 16, 17, 18, 19, 20, 21, 22, 23, 24, 25, 26, 27, 28, 29, 30, 31, 32] (by decide +kernel) (by decide +kernel)
set_option maxRecDepth 20000 in
theorem gX6_allLines_X6_lines : GoodIn wsX6_allLines (wsV RX6 152 RX6 yX6_lines wsX6_lines) := goodIn_app (goodIn_of _ (by decide +kernel)) ggX6_allLines_X6_lines
theorem dX6_allLines_0 : decode cX6_allLines 0 = .ok (.iconst 0, 1) := by decide +kernel
theorem dX6_allLines_1 : decode cX6_allLines 1 = .ok (.istore_n 1, 1) := by decide +kernel
theorem dX6_allLines_2 : decode cX6_allLines 2 = .ok (.iconst 0, 1) := by decide +kernel
theorem dX6_allLines_3 : decode cX6_allLines 3 = .ok (.istore_n 2, 1) := by decide +kernel
theorem dX6_allLines_4 : decode cX6_allLines 4 = .ok (.iload_n 2, 1) := by decide +kernel
theorem dX6_allLines_5 : decode cX6_allLines 5 = .ok (.aload_n 0, 1) := by decide +kernel
theorem dX6_allLines_6 : decode cX6_allLines 6 = .ok (.invokevirtual 73, 3) := by decide +kernel
theorem dX6_allLines_9 : decode cX6_allLines 9 = .ok (.if_icmp .ge 17, 3) := by decide +kernel
theorem dX6_allLines_12 : decode cX6_allLines 12 = .ok (.iload_n 1, 1) := by decide +kernel
theorem dX6_allLines_13 : decode cX6_allLines 13 = .ok (.aload_n 0, 1) := by decide +kernel
theorem dX6_allLines_14 : decode cX6_allLines 14 = .ok (.iload_n 2, 1) := by decide +kernel
theorem dX6_allLines_15 : decode cX6_allLines 15 = .ok (.invokevirtual 152, 3) := by decide +kernel
theorem dX6_allLines_18 : decode cX6_allLines 18 = .ok (.iadd, 1) := by decide +kernel
theorem dX6_allLines_19 : decode cX6_allLines 19 = .ok (.istore_n 1, 1) := by decide +kernel
theorem dX6_allLines_20 : decode cX6_allLines 20 = .ok (.iinc 2 1, 3) := by decide +kernel
theorem dX6_allLines_23 : decode cX6_allLines 23 = .ok (.goto (-19), 3) := by decide +kernel
theorem dX6_allLines_26 : decode cX6_allLines 26 = .ok (.iload_n 1, 1) := by decide +kernel
theorem dX6_allLines_27 : decode cX6_allLines 27 = .ok (.ireturn, 1) := by decide +kernel
set_option maxRecDepth 20000 in
theorem ggX6_pagesWithoutBegin_X6_begun : GoodIn wsX6_pagesWithoutBegin wsX6_begun := goodIn_r _ [6, 7, 8, 9, 10, 5, 11, 12, 13, 14, 15, 16, 17, 18, 19, 20, 21, 22, 23, 24, 25, 26, 27, 28, 29, 30, 31, 32, 33, 34] (by decide +kernel) (by decide +kernel)
set_option maxRecDepth 20000 in
theorem gX6_pagesWithoutBegin_X6_begun : GoodIn wsX6_pagesWithoutBegin (wsV RX6 200 RX6 yX6_begun wsX6_begun) := goodIn_app (goodIn_of _ (by decide +kernel)) ggX6_pagesWithoutBegin_X6_begun
theorem dX6_pagesWithoutBegin_0 : decode cX6_pagesWithoutBegin 0 = .ok (.iconst 0, 1) := by decide +kernel
theorem dX6_pagesWithoutBegin_1 : decode cX6_pagesWithoutBegin 1 = .ok (.istore_n 1, 1) := by decide +kernel
theorem dX6_pagesWithoutBegin_2 : decode cX6_pagesWithoutBegin 2 = .ok (.iconst 0, 1) := by decide +kernel
theorem dX6_pagesWithoutBegin_3 : decode cX6_pagesWithoutBegin 3 = .ok (.istore_n 2, 1) := by decide +kernel
theorem dX6_pagesWithoutBegin_4 : decode cX6_pagesWithoutBegin 4 = .ok (.iload_n 2, 1) := by decide +kernel
theorem dX6_pagesWithoutBegin_5 : decode cX6_pagesWithoutBegin 5 = .ok (.aload_n 0, 1) := by decide +kernel
theorem dX6_pagesWithoutBegin_6 : decode cX6_pagesWithoutBegin 6 = .ok (.getfield 162, 3) := by decide +kernel
theorem dX6_pagesWithoutBegin_9 : decode cX6_pagesWithoutBegin 9 = .ok (.if_icmp .ge 25, 3) := by decide +kernel
theorem dX6_pagesWithoutBegin_12 : decode cX6_pagesWithoutBegin 12 = .ok (.iload_n 1, 1) := by decide +kernel
theorem dX6_pagesWithoutBegin_13 : decode cX6_pagesWithoutBegin 13 = .ok (.aload_n 0, 1) := by decide +kernel
theorem dX6_pagesWithoutBegin_14 : decode cX6_pagesWithoutBegin 14 = .ok (.iload_n 2, 1) := by decide +kernel
theorem dX6_pagesWithoutBegin_15 : decode cX6_pagesWithoutBegin 15 = .ok (.invokevirtual 200, 3) := by decide +kernel
theorem dX6_pagesWithoutBegin_18 : decode cX6_pagesWithoutBegin 18 = .ok (.ifCond .ne 7, 3) := by decide +kernel
theorem dX6_pagesWithoutBegin_21 : decode cX6_pagesWithoutBegin 21 = .ok (.iconst 1, 1) := by decide +kernel
theorem dX6_pagesWithoutBegin_22 : decode cX6_pagesWithoutBegin 22 = .ok (.goto 4, 3) := by decide +kernel
theorem dX6_pagesWithoutBegin_25 : decode cX6_pagesWithoutBegin 25 = .ok (.iconst 0, 1) := by decide +kernel
theorem dX6_pagesWithoutBegin_26 : decode cX6_pagesWithoutBegin 26 = .ok (.iadd, 1) := by decide +kernel
theorem dX6_pagesWithoutBegin_27 : decode cX6_pagesWithoutBegin 27 = .ok (.istore_n 1, 1) := by decide +kernel
theorem dX6_pagesWithoutBegin_28 : decode cX6_pagesWithoutBegin 28 = .ok (.iinc 2 1, 3) := by decide +kernel
theorem dX6_pagesWithoutBegin_31 : decode cX6_pagesWithoutBegin 31 = .ok (.goto (-27), 3) := by decide +kernel
theorem dX6_pagesWithoutBegin_34 : decode cX6_pagesWithoutBegin 34 = .ok (.iload_n 1, 1) := by decide +kernel
theorem dX6_pagesWithoutBegin_35 : decode cX6_pagesWithoutBegin 35 = .ok (.ireturn, 1) := by decide +kernel
set_option maxRecDepth 20000 in
theorem ggX6_parted_X6_many : GoodIn wsX6_parted wsX6_many := goodIn_r _ [7, 8, 9, 10, 11, 12, 13, 14, 15, 16, 17, 18, 19, 20, 21, 22, 23, 24, 25, 26, 27, 28, 29, 30] (by decide +kernel) (by decide +kernel)
set_option maxRecDepth 20000 in
theorem gX6_parted_X6_many : GoodIn wsX6_parted (wsV RX6 73 RX6 yX6_many wsX6_many) := goodIn_app (goodIn_of _ (by decide +kernel)) ggX6_parted_X6_many
theorem dX6_parted_0 : decode cX6_parted 0 = .ok (.iconst 0, 1) := by decide +kernel
theorem dX6_parted_1 : decode cX6_parted 1 = .ok (.istore_n 1, 1) := by decide +kernel
theorem dX6_parted_2 : decode cX6_parted 2 = .ok (.iconst 0, 1) := by decide +kernel
theorem dX6_parted_3 : decode cX6_parted 3 = .ok (.istore_n 2, 1) := by decide +kernel
theorem dX6_parted_4 : decode cX6_parted 4 = .ok (.iload_n 2, 1) := by decide +kernel
theorem dX6_parted_5 : decode cX6_parted 5 = .ok (.aload_n 0, 1) := by decide +kernel
theorem dX6_parted_6 : decode cX6_parted 6 = .ok (.invokevirtual 73, 3) := by decide +kernel
theorem dX6_parted_9 : decode cX6_parted 9 = .ok (.if_icmp .ge 32, 3) := by decide +kernel
theorem dX6_parted_12 : decode cX6_parted 12 = .ok (.iload_n 1, 1) := by decide +kernel
theorem dX6_parted_13 : decode cX6_parted 13 = .ok (.aload_n 0, 1) := by decide +kernel
theorem dX6_parted_14 : decode cX6_parted 14 = .ok (.getfield 54, 3) := by decide +kernel
theorem dX6_parted_17 : decode cX6_parted 17 = .ok (.iload_n 2, 1) := by decide +kernel
theorem dX6_parted_18 : decode cX6_parted 18 = .ok (.iaload, 1) := by decide +kernel
theorem dX6_parted_19 : decode cX6_parted 19 = .ok (.aload_n 0, 1) := by decide +kernel
theorem dX6_parted_20 : decode cX6_parted 20 = .ok (.getfield 48, 3) := by decide +kernel
theorem dX6_parted_23 : decode cX6_parted 23 = .ok (.iload_n 2, 1) := by decide +kernel
theorem dX6_parted_24 : decode cX6_parted 24 = .ok (.iaload, 1) := by decide +kernel
theorem dX6_parted_25 : decode cX6_parted 25 = .ok (.if_icmp .le 7, 3) := by decide +kernel
theorem dX6_parted_28 : decode cX6_parted 28 = .ok (.iconst 1, 1) := by decide +kernel
theorem dX6_parted_29 : decode cX6_parted 29 = .ok (.goto 4, 3) := by decide +kernel
theorem dX6_parted_32 : decode cX6_parted 32 = .ok (.iconst 0, 1) := by decide +kernel
theorem dX6_parted_33 : decode cX6_parted 33 = .ok (.iadd, 1) := by decide +kernel
theorem dX6_parted_34 : decode cX6_parted 34 = .ok (.istore_n 1, 1) := by decide +kernel
theorem dX6_parted_35 : decode cX6_parted 35 = .ok (.iinc 2 1, 3) := by decide +kernel
theorem dX6_parted_38 : decode cX6_parted 38 = .ok (.goto (-34), 3) := by decide +kernel
theorem dX6_parted_41 : decode cX6_parted 41 = .ok (.iload_n 1, 1) := by decide +kernel
theorem dX6_parted_42 : decode cX6_parted 42 = .ok (.ireturn, 1) := by decide +kernel
theorem dX6_wideHeads_0 : decode cX6_wideHeads 0 = .ok (.iconst 0, 1) := by decide +kernel
theorem dX6_wideHeads_1 : decode cX6_wideHeads 1 = .ok (.istore_n 1, 1) := by decide +kernel
theorem dX6_wideHeads_2 : decode cX6_wideHeads 2 = .ok (.iconst 0, 1) := by decide +kernel
theorem dX6_wideHeads_3 : decode cX6_wideHeads 3 = .ok (.istore_n 2, 1) := by decide +kernel
theorem dX6_wideHeads_4 : decode cX6_wideHeads 4 = .ok (.iload_n 2, 1) := by decide +kernel
theorem dX6_wideHeads_5 : decode cX6_wideHeads 5 = .ok (.aload_n 0, 1) := by decide +kernel
theorem dX6_wideHeads_6 : decode cX6_wideHeads 6 = .ok (.getfield 162, 3) := by decide +kernel
theorem dX6_wideHeads_9 : decode cX6_wideHeads 9 = .ok (.if_icmp .ge 20, 3) := by decide +kernel
theorem dX6_wideHeads_12 : decode cX6_wideHeads 12 = .ok (.iload_n 1, 1) := by decide +kernel
theorem dX6_wideHeads_13 : decode cX6_wideHeads 13 = .ok (.aload_n 0, 1) := by decide +kernel
theorem dX6_wideHeads_14 : decode cX6_wideHeads 14 = .ok (.getfield 36, 3) := by decide +kernel
theorem dX6_wideHeads_17 : decode cX6_wideHeads 17 = .ok (.iload_n 2, 1) := by decide +kernel
theorem dX6_wideHeads_18 : decode cX6_wideHeads 18 = .ok (.iaload, 1) := by decide +kernel
theorem dX6_wideHeads_19 : decode cX6_wideHeads 19 = .ok (.iconst 1, 1) := by decide +kernel
theorem dX6_wideHeads_20 : decode cX6_wideHeads 20 = .ok (.isub, 1) := by decide +kernel
theorem dX6_wideHeads_21 : decode cX6_wideHeads 21 = .ok (.iadd, 1) := by decide +kernel
theorem dX6_wideHeads_22 : decode cX6_wideHeads 22 = .ok (.istore_n 1, 1) := by decide +kernel
theorem dX6_wideHeads_23 : decode cX6_wideHeads 23 = .ok (.iinc 2 1, 3) := by decide +kernel
theorem dX6_wideHeads_26 : decode cX6_wideHeads 26 = .ok (.goto (-22), 3) := by decide +kernel
theorem dX6_wideHeads_29 : decode cX6_wideHeads 29 = .ok (.iload_n 1, 1) := by decide +kernel
theorem dX6_wideHeads_30 : decode cX6_wideHeads 30 = .ok (.ireturn, 1) := by decide +kernel
set_option maxRecDepth 20000 in
theorem ggX6_count_X6_layAll : GoodIn wsX6_count wsX6_layAll := goodIn_r _ [10, 11, 3, 2, 12, 13, 14, 9, 15, 16, 17, 18, 19, 20, 21, 1, 22, 23, 24, 25, 26, 27, 28, 29, 30, 31, 32, 33, 34, 35, 36, 37, 38, 39, 40, 41, 42, 43, 44, 45, 46, 47, 48, 49, 50, 51, 52, 53, 54, 55, 56, 57, 58, 59, 60, 61, 62, 63, 64, 65, 66, 67, 96, 97, 98, 99, 100, 101, 102, 103, 104, 105, 106, 107, 108, 109, 110, 111, 112, 113, 114, 115, 116, 117] (by decide +kernel) (by decide +kernel)
set_option maxRecDepth 20000 in
theorem gX6_count_X6_layAll : GoodIn wsX6_count (wsV RX6 197 RX6 yX6_layAll wsX6_layAll) := goodIn_app (goodIn_of _ (by decide +kernel)) ggX6_count_X6_layAll
set_option maxRecDepth 20000 in
theorem ggX6_count_X6_many : GoodIn wsX6_count wsX6_many := goodIn_r _ [21, 1, 96, 97, 98, 99, 100, 101, 102, 103, 104, 105, 106, 107, 108, 109, 110, 111, 112, 113, 114, 115, 116, 117] (by decide +kernel) (by decide +kernel)
set_option maxRecDepth 20000 in
theorem gX6_count_X6_many : GoodIn wsX6_count (wsV RX6 73 RX6 yX6_many wsX6_many) := goodIn_app (goodIn_of _ (by decide +kernel)) ggX6_count_X6_many
set_option maxRecDepth 20000 in
theorem ggX6_count_X6_folds : GoodIn wsX6_count wsX6_folds := goodIn_r _ [71, 2, 96, 97, 98, 99, 100, 101, 102, 103, 104, 105, 106, 107, 108, 109, 110, 111, 112, 113, 114, 115, 116, 117] (by decide +kernel) (by decide +kernel)
set_option maxRecDepth 20000 in
theorem gX6_count_X6_folds : GoodIn wsX6_count (wsV RX6 206 RX6 yX6_folds wsX6_folds) := goodIn_app (goodIn_of _ (by decide +kernel)) ggX6_count_X6_folds
set_option maxRecDepth 20000 in
theorem ggX6_count_X6_allLines : GoodIn wsX6_count wsX6_allLines := goodIn_r _ [75, 18, 19, 20, 9, 21, 1, 26, 27, 28, 29, 96, 97, 98, 99, 100, 101, 102, 103, 104, 105, 106, 107, 108, 109, 110, 111, 112, 113, 114, 115, 116, 117] (by decide +kernel) (by decide +kernel)
set_option maxRecDepth 20000 in
theorem gX6_count_X6_allLines : GoodIn wsX6_count (wsV RX6 213 RX6 yX6_allLines wsX6_allLines) := goodIn_app (goodIn_of _ (by decide +kernel)) ggX6_count_X6_allLines
set_option maxRecDepth 20000 in
theorem ggX6_count_X6_blanks : GoodIn wsX6_count wsX6_blanks := goodIn_r _ [79, 2, 16, 30, 31, 32, 9, 33, 1, 11, 96, 97, 98, 99, 100, 101, 102, 103, 104, 105, 106, 107, 108, 109, 110, 111, 112, 113, 114, 115, 116, 117] (by decide +kernel) (by decide +kernel)
set_option maxRecDepth 20000 in
theorem gX6_count_X6_blanks : GoodIn wsX6_count (wsV RX6 216 RX6 yX6_blanks wsX6_blanks) := goodIn_app (goodIn_of _ (by decide +kernel)) ggX6_count_X6_blanks
set_option maxRecDepth 20000 in
theorem ggX6_count_X6_isSettled : GoodIn wsX6_count wsX6_isSettled := goodIn_r _ [49, 2, 11, 50, 51, 52, 9, 53, 1, 54, 55, 56, 57, 42, 43, 58, 59, 60, 61, 62, 63, 64, 65, 66, 67, 96, 97, 98, 99, 100, 101, 102, 103, 104, 105, 106, 107, 108, 109, 110, 111, 112, 113, 114, 115, 116, 117] (by decide +kernel) (by decide +kernel)
set_option maxRecDepth 20000 in
theorem gX6_count_X6_isSettled : GoodIn wsX6_count (wsV RX6 194 RX6 yX6_isSettled wsX6_isSettled) := goodIn_app (goodIn_of _ (by decide +kernel)) ggX6_count_X6_isSettled
set_option maxRecDepth 20000 in
theorem ggX6_count_X6_pagesWithoutBegin : GoodIn wsX6_count wsX6_pagesWithoutBegin := goodIn_r _ [83, 2, 84, 85, 86, 9, 87, 44, 18, 19, 20, 21, 1, 96, 97, 98, 99, 100, 101, 102, 103, 104, 105, 106, 107, 108, 109, 110, 111, 112, 113, 114, 115, 116, 117] (by decide +kernel) (by decide +kernel)
set_option maxRecDepth 20000 in
theorem gX6_count_X6_pagesWithoutBegin : GoodIn wsX6_count (wsV RX6 219 RX6 yX6_pagesWithoutBegin wsX6_pagesWithoutBegin) := goodIn_app (goodIn_of _ (by decide +kernel)) ggX6_count_X6_pagesWithoutBegin
set_option maxRecDepth 20000 in
theorem ggX6_count_X6_parted : GoodIn wsX6_count wsX6_parted := goodIn_r _ [91, 17, 44, 18, 19, 20, 9, 21, 1, 96, 97, 98, 99, 100, 101, 102, 103, 104, 105, 106, 107, 108, 109, 110, 111, 112, 113, 114, 115, 116, 117] (by decide +kernel) (by decide +kernel)
set_option maxRecDepth 20000 in
theorem gX6_count_X6_parted : GoodIn wsX6_count (wsV RX6 222 RX6 yX6_parted wsX6_parted) := goodIn_app (goodIn_of _ (by decide +kernel)) ggX6_count_X6_parted
set_option maxRecDepth 20000 in
theorem ggX6_count_X6_wideHeads : GoodIn wsX6_count wsX6_wideHeads := goodIn_r _ [95, 2, 11, 96, 97, 98, 99, 100, 101, 102, 103, 104, 105, 106, 107, 108, 109, 110, 111, 112, 113, 114, 115, 116, 117] (by decide +kernel) (by decide +kernel)
set_option maxRecDepth 20000 in
theorem gX6_count_X6_wideHeads : GoodIn wsX6_count (wsV RX6 225 RX6 yX6_wideHeads wsX6_wideHeads) := goodIn_app (goodIn_of _ (by decide +kernel)) ggX6_count_X6_wideHeads
theorem dX6_count_0 : decode cX6_count 0 = .ok (.aload_n 0, 1) := by decide +kernel
theorem dX6_count_1 : decode cX6_count 1 = .ok (.invokevirtual 197, 3) := by decide +kernel
theorem dX6_count_4 : decode cX6_count 4 = .ok (.iload_n 1, 1) := by decide +kernel
theorem dX6_count_5 : decode cX6_count 5 = .ok (.tableswitch 151 0 14 #[75, 75, 75, 83, 88, 93, 98, 103, 108, 113, 126, 131, 136, 141, 146], 75) := by decide +kernel
theorem dX6_count_80 : decode cX6_count 80 = .ok (.aload_n 0, 1) := by decide +kernel
theorem dX6_count_81 : decode cX6_count 81 = .ok (.getfield 7, 3) := by decide +kernel
theorem dX6_count_84 : decode cX6_count 84 = .ok (.iload_n 1, 1) := by decide +kernel
theorem dX6_count_85 : decode cX6_count 85 = .ok (.laload, 1) := by decide +kernel
theorem dX6_count_86 : decode cX6_count 86 = .ok (.l2i, 1) := by decide +kernel
theorem dX6_count_87 : decode cX6_count 87 = .ok (.ireturn, 1) := by decide +kernel
theorem dX6_count_88 : decode cX6_count 88 = .ok (.aload_n 0, 1) := by decide +kernel
theorem dX6_count_89 : decode cX6_count 89 = .ok (.invokevirtual 73, 3) := by decide +kernel
theorem dX6_count_92 : decode cX6_count 92 = .ok (.ireturn, 1) := by decide +kernel
theorem dX6_count_93 : decode cX6_count 93 = .ok (.aload_n 0, 1) := by decide +kernel
theorem dX6_count_94 : decode cX6_count 94 = .ok (.getfield 162, 3) := by decide +kernel
theorem dX6_count_97 : decode cX6_count 97 = .ok (.ireturn, 1) := by decide +kernel
theorem dX6_count_98 : decode cX6_count 98 = .ok (.aload_n 0, 1) := by decide +kernel
theorem dX6_count_99 : decode cX6_count 99 = .ok (.invokevirtual 206, 3) := by decide +kernel
theorem dX6_count_102 : decode cX6_count 102 = .ok (.ireturn, 1) := by decide +kernel
theorem dX6_count_103 : decode cX6_count 103 = .ok (.aload_n 0, 1) := by decide +kernel
theorem dX6_count_104 : decode cX6_count 104 = .ok (.invokevirtual 213, 3) := by decide +kernel
theorem dX6_count_107 : decode cX6_count 107 = .ok (.ireturn, 1) := by decide +kernel
theorem dX6_count_108 : decode cX6_count 108 = .ok (.aload_n 0, 1) := by decide +kernel
theorem dX6_count_109 : decode cX6_count 109 = .ok (.invokevirtual 216, 3) := by decide +kernel
theorem dX6_count_112 : decode cX6_count 112 = .ok (.ireturn, 1) := by decide +kernel
theorem dX6_count_113 : decode cX6_count 113 = .ok (.aload_n 0, 1) := by decide +kernel
theorem dX6_count_114 : decode cX6_count 114 = .ok (.getfield 191, 3) := by decide +kernel
theorem dX6_count_117 : decode cX6_count 117 = .ok (.ireturn, 1) := by decide +kernel
theorem dX6_count_118 : decode cX6_count 118 = .ok (.aload_n 0, 1) := by decide +kernel
theorem dX6_count_119 : decode cX6_count 119 = .ok (.invokevirtual 194, 3) := by decide +kernel
theorem dX6_count_122 : decode cX6_count 122 = .ok (.ifCond .eq 7, 3) := by decide +kernel
theorem dX6_count_125 : decode cX6_count 125 = .ok (.iconst 1, 1) := by decide +kernel
theorem dX6_count_126 : decode cX6_count 126 = .ok (.goto 4, 3) := by decide +kernel
theorem dX6_count_129 : decode cX6_count 129 = .ok (.iconst 0, 1) := by decide +kernel
theorem dX6_count_130 : decode cX6_count 130 = .ok (.ireturn, 1) := by decide +kernel
theorem dX6_count_131 : decode cX6_count 131 = .ok (.aload_n 0, 1) := by decide +kernel
theorem dX6_count_132 : decode cX6_count 132 = .ok (.invokevirtual 219, 3) := by decide +kernel
theorem dX6_count_135 : decode cX6_count 135 = .ok (.ireturn, 1) := by decide +kernel
theorem dX6_count_136 : decode cX6_count 136 = .ok (.aload_n 0, 1) := by decide +kernel
theorem dX6_count_137 : decode cX6_count 137 = .ok (.invokevirtual 222, 3) := by decide +kernel
theorem dX6_count_140 : decode cX6_count 140 = .ok (.ireturn, 1) := by decide +kernel
theorem dX6_count_141 : decode cX6_count 141 = .ok (.aload_n 0, 1) := by decide +kernel
theorem dX6_count_142 : decode cX6_count 142 = .ok (.invokevirtual 225, 3) := by decide +kernel
theorem dX6_count_145 : decode cX6_count 145 = .ok (.ireturn, 1) := by decide +kernel
theorem dX6_count_146 : decode cX6_count 146 = .ok (.aload_n 0, 1) := by decide +kernel
theorem dX6_count_147 : decode cX6_count 147 = .ok (.getfield 110, 3) := by decide +kernel
theorem dX6_count_150 : decode cX6_count 150 = .ok (.ireturn, 1) := by decide +kernel
theorem dX6_count_151 : decode cX6_count 151 = .ok (.aload_n 0, 1) := by decide +kernel
theorem dX6_count_152 : decode cX6_count 152 = .ok (.getfield 65, 3) := by decide +kernel
theorem dX6_count_155 : decode cX6_count 155 = .ok (.ireturn, 1) := by decide +kernel
theorem dX6_count_156 : decode cX6_count 156 = .ok (.bipush (-2), 2) := by decide +kernel
theorem dX6_count_158 : decode cX6_count 158 = .ok (.ireturn, 1) := by decide +kernel
set_option maxRecDepth 20000 in
theorem ggX6_lookFor_X6_padWord : GoodIn wsX6_lookFor wsX6_padWord := goodIn_r _ [8, 9, 10, 11, 12, 13, 7, 14, 15, 16, 17, 18, 19, 20, 21, 22, 23, 24, 25, 26, 84, 85, 86, 87, 88, 89, 90, 91, 92, 93, 94, 95, 96, 97, 98, 99, 100, 101, 102, 103, 104, 105] (by decide +kernel) (by decide +kernel)
set_option maxRecDepth 20000 in
theorem gX6_lookFor_X6_padWord : GoodIn wsX6_lookFor (wsV RX6 159 RX6 yX6_padWord wsX6_padWord) := goodIn_app (goodIn_of _ (by decide +kernel)) ggX6_lookFor_X6_padWord
set_option maxRecDepth 20000 in
theorem ggX6_lookFor_X6_layAll : GoodIn wsX6_lookFor wsX6_layAll := goodIn_r _ [30, 31, 32, 1, 33, 34, 35, 7, 36, 37, 38, 39, 40, 41, 42, 2, 43, 44, 45, 46, 47, 48, 49, 50, 51, 52, 53, 54, 55, 56, 57, 58, 59, 60, 61, 62, 63, 3, 64, 65, 66, 67, 68, 69, 70, 71, 72, 73, 74, 75, 76, 77, 78, 79, 80, 81, 82, 83, 26, 23, 24, 25, 84, 85, 86, 87, 88, 89, 90, 91, 92, 93, 94, 95, 96, 97, 98, 99, 100, 101, 102, 103, 104, 105] (by decide +kernel) (by decide +kernel)
set_option maxRecDepth 20000 in
theorem gX6_lookFor_X6_layAll : GoodIn wsX6_lookFor (wsV RX6 197 RX6 yX6_layAll wsX6_layAll) := goodIn_app (goodIn_of _ (by decide +kernel)) ggX6_lookFor_X6_layAll
theorem dX6_lookFor_0 : decode cX6_lookFor 0 = .ok (.aload_n 0, 1) := by decide +kernel
theorem dX6_lookFor_1 : decode cX6_lookFor 1 = .ok (.invokevirtual 159, 3) := by decide +kernel
theorem dX6_lookFor_4 : decode cX6_lookFor 4 = .ok (.lstore_n 1, 1) := by decide +kernel
theorem dX6_lookFor_5 : decode cX6_lookFor 5 = .ok (.lload_n 1, 1) := by decide +kernel
theorem dX6_lookFor_6 : decode cX6_lookFor 6 = .ok (.lconst 0, 1) := by decide +kernel
theorem dX6_lookFor_7 : decode cX6_lookFor 7 = .ok (.lcmp, 1) := by decide +kernel
theorem dX6_lookFor_8 : decode cX6_lookFor 8 = .ok (.ifCond .ne 6, 3) := by decide +kernel
theorem dX6_lookFor_11 : decode cX6_lookFor 11 = .ok (.bipush (-3), 2) := by decide +kernel
theorem dX6_lookFor_13 : decode cX6_lookFor 13 = .ok (.ireturn, 1) := by decide +kernel
theorem dX6_lookFor_14 : decode cX6_lookFor 14 = .ok (.aload_n 0, 1) := by decide +kernel
theorem dX6_lookFor_15 : decode cX6_lookFor 15 = .ok (.invokevirtual 197, 3) := by decide +kernel
theorem dX6_lookFor_18 : decode cX6_lookFor 18 = .ok (.aload_n 0, 1) := by decide +kernel
theorem dX6_lookFor_19 : decode cX6_lookFor 19 = .ok (.getfield 162, 3) := by decide +kernel
theorem dX6_lookFor_22 : decode cX6_lookFor 22 = .ok (.ifCond .ne 8, 3) := by decide +kernel
theorem dX6_lookFor_25 : decode cX6_lookFor 25 = .ok (.bipush (-6), 2) := by decide +kernel
theorem dX6_lookFor_27 : decode cX6_lookFor 27 = .ok (.goto 9, 3) := by decide +kernel
theorem dX6_lookFor_30 : decode cX6_lookFor 30 = .ok (.aload_n 0, 1) := by decide +kernel
theorem dX6_lookFor_31 : decode cX6_lookFor 31 = .ok (.getfield 162, 3) := by decide +kernel
theorem dX6_lookFor_34 : decode cX6_lookFor 34 = .ok (.iconst 1, 1) := by decide +kernel
theorem dX6_lookFor_35 : decode cX6_lookFor 35 = .ok (.isub, 1) := by decide +kernel
theorem dX6_lookFor_36 : decode cX6_lookFor 36 = .ok (.istore_n 3, 1) := by decide +kernel
theorem dX6_lookFor_37 : decode cX6_lookFor 37 = .ok (.aload_n 0, 1) := by decide +kernel
theorem dX6_lookFor_38 : decode cX6_lookFor 38 = .ok (.getfield 162, 3) := by decide +kernel
theorem dX6_lookFor_41 : decode cX6_lookFor 41 = .ok (.iconst 1, 1) := by decide +kernel
theorem dX6_lookFor_42 : decode cX6_lookFor 42 = .ok (.isub, 1) := by decide +kernel
theorem dX6_lookFor_43 : decode cX6_lookFor 43 = .ok (.istore 4, 2) := by decide +kernel
theorem dX6_lookFor_45 : decode cX6_lookFor 45 = .ok (.iload 4, 2) := by decide +kernel
theorem dX6_lookFor_47 : decode cX6_lookFor 47 = .ok (.ifCond .lt 35, 3) := by decide +kernel
theorem dX6_lookFor_50 : decode cX6_lookFor 50 = .ok (.aload_n 0, 1) := by decide +kernel
theorem dX6_lookFor_51 : decode cX6_lookFor 51 = .ok (.getfield 7, 3) := by decide +kernel
theorem dX6_lookFor_54 : decode cX6_lookFor 54 = .ok (.iconst 4, 1) := by decide +kernel
theorem dX6_lookFor_55 : decode cX6_lookFor 55 = .ok (.aload_n 0, 1) := by decide +kernel
theorem dX6_lookFor_56 : decode cX6_lookFor 56 = .ok (.getfield 45, 3) := by decide +kernel
theorem dX6_lookFor_59 : decode cX6_lookFor 59 = .ok (.iload 4, 2) := by decide +kernel
theorem dX6_lookFor_61 : decode cX6_lookFor 61 = .ok (.iaload, 1) := by decide +kernel
theorem dX6_lookFor_62 : decode cX6_lookFor 62 = .ok (.iadd, 1) := by decide +kernel
theorem dX6_lookFor_63 : decode cX6_lookFor 63 = .ok (.laload, 1) := by decide +kernel
theorem dX6_lookFor_64 : decode cX6_lookFor 64 = .ok (.lload_n 1, 1) := by decide +kernel
theorem dX6_lookFor_65 : decode cX6_lookFor 65 = .ok (.lcmp, 1) := by decide +kernel
theorem dX6_lookFor_66 : decode cX6_lookFor 66 = .ok (.ifCond .lt 8, 3) := by decide +kernel
theorem dX6_lookFor_69 : decode cX6_lookFor 69 = .ok (.iload 4, 2) := by decide +kernel
theorem dX6_lookFor_71 : decode cX6_lookFor 71 = .ok (.goto 4, 3) := by decide +kernel
theorem dX6_lookFor_74 : decode cX6_lookFor 74 = .ok (.iload_n 3, 1) := by decide +kernel
theorem dX6_lookFor_75 : decode cX6_lookFor 75 = .ok (.istore_n 3, 1) := by decide +kernel
theorem dX6_lookFor_76 : decode cX6_lookFor 76 = .ok (.iinc 4 (-1), 3) := by decide +kernel
theorem dX6_lookFor_79 : decode cX6_lookFor 79 = .ok (.goto (-34), 3) := by decide +kernel
theorem dX6_lookFor_82 : decode cX6_lookFor 82 = .ok (.iload_n 3, 1) := by decide +kernel
theorem dX6_lookFor_83 : decode cX6_lookFor 83 = .ok (.ireturn, 1) := by decide +kernel
set_option maxRecDepth 20000 in
theorem ggX6_find_X6_padWord : GoodIn wsX6_find wsX6_padWord := goodIn_r _ [5, 6, 7, 8, 9, 10, 4, 11, 12, 13, 14, 15, 16, 17, 18, 19, 20, 21, 22, 23, 33, 34, 35, 36, 37, 38, 39, 40, 41, 42, 43, 44, 45, 46, 47, 48, 49, 50, 51, 52, 53, 54] (by decide +kernel) (by decide +kernel)
set_option maxRecDepth 20000 in
theorem gX6_find_X6_padWord : GoodIn wsX6_find (wsV RX6 159 RX6 yX6_padWord wsX6_padWord) := goodIn_app (goodIn_of _ (by decide +kernel)) ggX6_find_X6_padWord
set_option maxRecDepth 20000 in
theorem ggX6_find_X6_entryWith : GoodIn wsX6_find wsX6_entryWith := goodIn_r _ [27, 28, 29, 30, 31, 4, 32, 33, 34, 35, 36, 37, 38, 39, 40, 41, 42, 43, 44, 45, 46, 47, 48, 49, 50, 51, 52, 53, 54] (by decide +kernel) (by decide +kernel)
set_option maxRecDepth 20000 in
theorem gX6_find_X6_entryWith : GoodIn wsX6_find (wsV RX6 137 RX6 yX6_entryWith wsX6_entryWith) := goodIn_app (goodIn_of _ (by decide +kernel)) ggX6_find_X6_entryWith
theorem dX6_find_0 : decode cX6_find 0 = .ok (.aload_n 0, 1) := by decide +kernel
theorem dX6_find_1 : decode cX6_find 1 = .ok (.invokevirtual 159, 3) := by decide +kernel
theorem dX6_find_4 : decode cX6_find 4 = .ok (.lstore_n 1, 1) := by decide +kernel
theorem dX6_find_5 : decode cX6_find 5 = .ok (.lload_n 1, 1) := by decide +kernel
theorem dX6_find_6 : decode cX6_find 6 = .ok (.lconst 0, 1) := by decide +kernel
theorem dX6_find_7 : decode cX6_find 7 = .ok (.lcmp, 1) := by decide +kernel
theorem dX6_find_8 : decode cX6_find 8 = .ok (.ifCond .ne 8, 3) := by decide +kernel
theorem dX6_find_11 : decode cX6_find 11 = .ok (.bipush (-3), 2) := by decide +kernel
theorem dX6_find_13 : decode cX6_find 13 = .ok (.goto 8, 3) := by decide +kernel
theorem dX6_find_16 : decode cX6_find 16 = .ok (.aload_n 0, 1) := by decide +kernel
theorem dX6_find_17 : decode cX6_find 17 = .ok (.lload_n 1, 1) := by decide +kernel
theorem dX6_find_18 : decode cX6_find 18 = .ok (.invokevirtual 137, 3) := by decide +kernel
theorem dX6_find_21 : decode cX6_find 21 = .ok (.ireturn, 1) := by decide +kernel
set_option maxRecDepth 20000 in
theorem ggX6_pagesWith_X6_layAll : GoodIn wsX6_pagesWith wsX6_layAll := goodIn_r _ [8, 9, 10, 3, 11, 12, 13, 7, 14, 15, 16, 17, 18, 19, 20, 1, 21, 22, 23, 24, 25, 26, 27, 28, 29, 30, 31, 32, 33, 34, 35, 36, 37, 38, 39, 40, 41, 42, 43, 44, 45, 46, 47, 48, 49, 50, 51, 52, 53, 54, 55, 56, 57, 58, 59, 60, 61, 62, 63, 64, 65, 66, 71, 72, 73, 74, 75, 76, 77, 78, 79, 80, 81, 82, 83, 84, 85, 86, 87, 88, 89, 90, 91, 92] (by decide +kernel) (by decide +kernel)
set_option maxRecDepth 20000 in
theorem gX6_pagesWith_X6_layAll : GoodIn wsX6_pagesWith (wsV RX6 197 RX6 yX6_layAll wsX6_layAll) := goodIn_app (goodIn_of _ (by decide +kernel)) ggX6_pagesWith_X6_layAll
set_option maxRecDepth 20000 in
theorem ggX6_pagesWith_X6_blanks : GoodIn wsX6_pagesWith wsX6_blanks := goodIn_r _ [70, 3, 15, 29, 30, 31, 7, 32, 1, 9, 71, 72, 73, 74, 75, 76, 77, 78, 79, 80, 81, 82, 83, 84, 85, 86, 87, 88, 89, 90, 91, 92] (by decide +kernel) (by decide +kernel)
set_option maxRecDepth 20000 in
theorem gX6_pagesWith_X6_blanks : GoodIn wsX6_pagesWith (wsV RX6 216 RX6 yX6_blanks wsX6_blanks) := goodIn_app (goodIn_of _ (by decide +kernel)) ggX6_pagesWith_X6_blanks
theorem dX6_pagesWith_0 : decode cX6_pagesWith 0 = .ok (.aload_n 0, 1) := by decide +kernel
theorem dX6_pagesWith_1 : decode cX6_pagesWith 1 = .ok (.getfield 7, 3) := by decide +kernel
theorem dX6_pagesWith_4 : decode cX6_pagesWith 4 = .ok (.iload_n 1, 1) := by decide +kernel
theorem dX6_pagesWith_5 : decode cX6_pagesWith 5 = .ok (.laload, 1) := by decide +kernel
theorem dX6_pagesWith_6 : decode cX6_pagesWith 6 = .ok (.lstore_n 3, 1) := by decide +kernel
theorem dX6_pagesWith_7 : decode cX6_pagesWith 7 = .ok (.aload_n 0, 1) := by decide +kernel
theorem dX6_pagesWith_8 : decode cX6_pagesWith 8 = .ok (.getfield 7, 3) := by decide +kernel
theorem dX6_pagesWith_11 : decode cX6_pagesWith 11 = .ok (.iload_n 1, 1) := by decide +kernel
theorem dX6_pagesWith_12 : decode cX6_pagesWith 12 = .ok (.iload_n 2, 1) := by decide +kernel
theorem dX6_pagesWith_13 : decode cX6_pagesWith 13 = .ok (.i2l, 1) := by decide +kernel
theorem dX6_pagesWith_14 : decode cX6_pagesWith 14 = .ok (.lastore, 1) := by decide +kernel
theorem dX6_pagesWith_15 : decode cX6_pagesWith 15 = .ok (.aload_n 0, 1) := by decide +kernel
theorem dX6_pagesWith_16 : decode cX6_pagesWith 16 = .ok (.invokevirtual 197, 3) := by decide +kernel
theorem dX6_pagesWith_19 : decode cX6_pagesWith 19 = .ok (.aload_n 0, 1) := by decide +kernel
theorem dX6_pagesWith_20 : decode cX6_pagesWith 20 = .ok (.aload_n 0, 1) := by decide +kernel
theorem dX6_pagesWith_21 : decode cX6_pagesWith 21 = .ok (.invokevirtual 216, 3) := by decide +kernel
theorem dX6_pagesWith_24 : decode cX6_pagesWith 24 = .ok (.putfield 228, 3) := by decide +kernel
theorem dX6_pagesWith_27 : decode cX6_pagesWith 27 = .ok (.aload_n 0, 1) := by decide +kernel
theorem dX6_pagesWith_28 : decode cX6_pagesWith 28 = .ok (.getfield 7, 3) := by decide +kernel
theorem dX6_pagesWith_31 : decode cX6_pagesWith 31 = .ok (.iload_n 1, 1) := by decide +kernel
theorem dX6_pagesWith_32 : decode cX6_pagesWith 32 = .ok (.lload_n 3, 1) := by decide +kernel
theorem dX6_pagesWith_33 : decode cX6_pagesWith 33 = .ok (.lastore, 1) := by decide +kernel
theorem dX6_pagesWith_34 : decode cX6_pagesWith 34 = .ok (.aload_n 0, 1) := by decide +kernel
theorem dX6_pagesWith_35 : decode cX6_pagesWith 35 = .ok (.getfield 162, 3) := by decide +kernel
theorem dX6_pagesWith_38 : decode cX6_pagesWith 38 = .ok (.ireturn, 1) := by decide +kernel
set_option maxRecDepth 20000 in
theorem ggX6_ifSet_X6_isValue : GoodIn wsX6_ifSet wsX6_isValue := goodIn_r _ [4, 5, 6, 7, 8, 9, 10, 11, 3, 12] (by decide +kernel) (by decide +kernel)
set_option maxRecDepth 20000 in
theorem gX6_ifSet_X6_isValue : GoodIn wsX6_ifSet (va_wsS RX6 90 yX6_isValue wsX6_isValue) := goodIn_app (goodIn_of _ (by decide +kernel)) ggX6_ifSet_X6_isValue
set_option maxRecDepth 20000 in
theorem ggX6_ifSet_X6_pagesWith : GoodIn wsX6_ifSet wsX6_pagesWith := goodIn_r _ [16, 17, 18, 19, 20, 21, 22, 3, 23, 24, 25, 26, 27, 28, 29, 30, 31, 32, 33, 34, 35, 36, 37, 38, 39, 40, 41, 42, 43, 44, 45, 46, 47, 48, 49, 50, 51, 52, 53, 54, 55, 56, 57, 58, 59, 60, 61, 62, 63, 64, 65, 66, 67, 68, 69, 70, 71, 72, 73, 74, 75, 76, 77, 78, 79, 80, 81, 82, 83, 84, 85, 86, 87, 88, 89, 90, 91, 92, 93, 94, 95, 96, 97, 98, 99, 100, 101, 102, 103, 104, 105, 106, 107] (by decide +kernel) (by decide +kernel)
set_option maxRecDepth 20000 in
theorem gX6_ifSet_X6_pagesWith : GoodIn wsX6_ifSet (wsV RX6 231 RX6 yX6_pagesWith wsX6_pagesWith) := goodIn_app (goodIn_of _ (by decide +kernel)) ggX6_ifSet_X6_pagesWith
theorem dX6_ifSet_0 : decode cX6_ifSet 0 = .ok (.iload_n 1, 1) := by decide +kernel
theorem dX6_ifSet_1 : decode cX6_ifSet 1 = .ok (.iload_n 2, 1) := by decide +kernel
theorem dX6_ifSet_2 : decode cX6_ifSet 2 = .ok (.invokestatic 90, 3) := by decide +kernel
theorem dX6_ifSet_5 : decode cX6_ifSet 5 = .ok (.ifCond .eq 12, 3) := by decide +kernel
theorem dX6_ifSet_8 : decode cX6_ifSet 8 = .ok (.aload_n 0, 1) := by decide +kernel
theorem dX6_ifSet_9 : decode cX6_ifSet 9 = .ok (.iload_n 1, 1) := by decide +kernel
theorem dX6_ifSet_10 : decode cX6_ifSet 10 = .ok (.iload_n 2, 1) := by decide +kernel
theorem dX6_ifSet_11 : decode cX6_ifSet 11 = .ok (.invokevirtual 231, 3) := by decide +kernel
theorem dX6_ifSet_14 : decode cX6_ifSet 14 = .ok (.goto 5, 3) := by decide +kernel
theorem dX6_ifSet_17 : decode cX6_ifSet 17 = .ok (.bipush (-2), 2) := by decide +kernel
theorem dX6_ifSet_19 : decode cX6_ifSet 19 = .ok (.ireturn, 1) := by decide +kernel
set_option maxRecDepth 20000 in
theorem ggX6_leastLines_X6_in : GoodIn wsX6_leastLines wsX6_in := goodIn_r _ [5] (by decide +kernel) (by decide +kernel)
set_option maxRecDepth 20000 in
theorem gX6_leastLines_X6_in : GoodIn wsX6_leastLines (va_wsS RX6 61 yX6_in wsX6_in) := goodIn_app (goodIn_of _ (by decide +kernel)) ggX6_leastLines_X6_in
set_option maxRecDepth 20000 in
theorem ggX6_leastLines_X6_pagesWith : GoodIn wsX6_leastLines wsX6_pagesWith := goodIn_r _ [9, 10, 11, 12, 13, 14, 15, 4, 16, 17, 18, 19, 20, 21, 22, 23, 24, 25, 26, 27, 28, 29, 30, 31, 32, 33, 34, 35, 36, 37, 38, 39, 40, 41, 42, 43, 44, 45, 46, 47, 48, 49, 50, 51, 52, 53, 54, 55, 56, 57, 58, 59, 60, 61, 62, 63, 64, 65, 66, 67, 68, 69, 70, 71, 72, 73, 74, 75, 76, 77, 78, 79, 80, 81, 82, 83, 84, 85, 86, 87, 88, 89, 90, 91, 92, 93, 94, 95, 96, 97, 98, 99, 100] (by decide +kernel) (by decide +kernel)
set_option maxRecDepth 20000 in
theorem gX6_leastLines_X6_pagesWith : GoodIn wsX6_leastLines (wsV RX6 231 RX6 yX6_pagesWith wsX6_pagesWith) := goodIn_app (goodIn_of _ (by decide +kernel)) ggX6_leastLines_X6_pagesWith
theorem dX6_leastLines_0 : decode cX6_leastLines 0 = .ok (.iload_n 1, 1) := by decide +kernel
theorem dX6_leastLines_1 : decode cX6_leastLines 1 = .ok (.i2l, 1) := by decide +kernel
theorem dX6_leastLines_2 : decode cX6_leastLines 2 = .ok (.lconst 1, 1) := by decide +kernel
theorem dX6_leastLines_3 : decode cX6_leastLines 3 = .ok (.ldc2_w 234, 3) := by decide +kernel
theorem dX6_leastLines_6 : decode cX6_leastLines 6 = .ok (.invokestatic 61, 3) := by decide +kernel
theorem dX6_leastLines_9 : decode cX6_leastLines 9 = .ok (.ifCond .ne 6, 3) := by decide +kernel
theorem dX6_leastLines_12 : decode cX6_leastLines 12 = .ok (.bipush (-2), 2) := by decide +kernel
theorem dX6_leastLines_14 : decode cX6_leastLines 14 = .ok (.ireturn, 1) := by decide +kernel
theorem dX6_leastLines_15 : decode cX6_leastLines 15 = .ok (.bipush (-6), 2) := by decide +kernel
theorem dX6_leastLines_17 : decode cX6_leastLines 17 = .ok (.istore_n 2, 1) := by decide +kernel
theorem dX6_leastLines_18 : decode cX6_leastLines 18 = .ok (.bipush 40, 2) := by decide +kernel
theorem dX6_leastLines_20 : decode cX6_leastLines 20 = .ok (.istore_n 3, 1) := by decide +kernel
theorem dX6_leastLines_21 : decode cX6_leastLines 21 = .ok (.iload_n 3, 1) := by decide +kernel
theorem dX6_leastLines_22 : decode cX6_leastLines 22 = .ok (.bipush 6, 2) := by decide +kernel
theorem dX6_leastLines_24 : decode cX6_leastLines 24 = .ok (.if_icmp .lt 25, 3) := by decide +kernel
theorem dX6_leastLines_27 : decode cX6_leastLines 27 = .ok (.aload_n 0, 1) := by decide +kernel
theorem dX6_leastLines_28 : decode cX6_leastLines 28 = .ok (.iconst 0, 1) := by decide +kernel
theorem dX6_leastLines_29 : decode cX6_leastLines 29 = .ok (.iload_n 3, 1) := by decide +kernel
theorem dX6_leastLines_30 : decode cX6_leastLines 30 = .ok (.invokevirtual 231, 3) := by decide +kernel
theorem dX6_leastLines_33 : decode cX6_leastLines 33 = .ok (.iload_n 1, 1) := by decide +kernel
theorem dX6_leastLines_34 : decode cX6_leastLines 34 = .ok (.if_icmp .gt 7, 3) := by decide +kernel
theorem dX6_leastLines_37 : decode cX6_leastLines 37 = .ok (.iload_n 3, 1) := by decide +kernel
theorem dX6_leastLines_38 : decode cX6_leastLines 38 = .ok (.goto 4, 3) := by decide +kernel
theorem dX6_leastLines_41 : decode cX6_leastLines 41 = .ok (.iload_n 2, 1) := by decide +kernel
theorem dX6_leastLines_42 : decode cX6_leastLines 42 = .ok (.istore_n 2, 1) := by decide +kernel
theorem dX6_leastLines_43 : decode cX6_leastLines 43 = .ok (.iinc 3 (-1), 3) := by decide +kernel
theorem dX6_leastLines_46 : decode cX6_leastLines 46 = .ok (.goto (-25), 3) := by decide +kernel
theorem dX6_leastLines_49 : decode cX6_leastLines 49 = .ok (.iload_n 2, 1) := by decide +kernel
theorem dX6_leastLines_50 : decode cX6_leastLines 50 = .ok (.ireturn, 1) := by decide +kernel
set_option maxRecDepth 20000 in
theorem ggX6_bestLines_X6_in : GoodIn wsX6_bestLines wsX6_in := goodIn_r _ [5] (by decide +kernel) (by decide +kernel)
set_option maxRecDepth 20000 in
theorem gX6_bestLines_X6_in : GoodIn wsX6_bestLines (va_wsS RX6 61 yX6_in wsX6_in) := goodIn_app (goodIn_of _ (by decide +kernel)) ggX6_bestLines_X6_in
set_option maxRecDepth 20000 in
theorem ggX6_bestLines_X6_pagesWith : GoodIn wsX6_bestLines wsX6_pagesWith := goodIn_r _ [9, 10, 1, 11, 12, 13, 14, 4, 15, 16, 17, 18, 19, 20, 21, 22, 23, 24, 25, 26, 27, 28, 29, 30, 31, 32, 33, 34, 35, 36, 37, 38, 39, 40, 41, 42, 43, 44, 45, 46, 47, 48, 49, 50, 51, 52, 53, 54, 55, 56, 57, 58, 59, 60, 61, 62, 63, 64, 65, 66, 67, 68, 69, 70, 71, 72, 73, 74, 75, 76, 77, 78, 79, 80, 81, 82, 83, 84, 85, 86, 87, 88, 89, 90, 91, 92, 93, 94, 95, 96, 97, 98, 99] (by decide +kernel) (by decide +kernel)
set_option maxRecDepth 20000 in
theorem gX6_bestLines_X6_pagesWith : GoodIn wsX6_bestLines (wsV RX6 231 RX6 yX6_pagesWith wsX6_pagesWith) := goodIn_app (goodIn_of _ (by decide +kernel)) ggX6_bestLines_X6_pagesWith
theorem dX6_bestLines_0 : decode cX6_bestLines 0 = .ok (.iload_n 1, 1) := by decide +kernel
theorem dX6_bestLines_1 : decode cX6_bestLines 1 = .ok (.i2l, 1) := by decide +kernel
theorem dX6_bestLines_2 : decode cX6_bestLines 2 = .ok (.lconst 0, 1) := by decide +kernel
theorem dX6_bestLines_3 : decode cX6_bestLines 3 = .ok (.lconst 1, 1) := by decide +kernel
theorem dX6_bestLines_4 : decode cX6_bestLines 4 = .ok (.invokestatic 61, 3) := by decide +kernel
theorem dX6_bestLines_7 : decode cX6_bestLines 7 = .ok (.ifCond .ne 6, 3) := by decide +kernel
theorem dX6_bestLines_10 : decode cX6_bestLines 10 = .ok (.bipush (-2), 2) := by decide +kernel
theorem dX6_bestLines_12 : decode cX6_bestLines 12 = .ok (.ireturn, 1) := by decide +kernel
theorem dX6_bestLines_13 : decode cX6_bestLines 13 = .ok (.iconst 0, 1) := by decide +kernel
theorem dX6_bestLines_14 : decode cX6_bestLines 14 = .ok (.istore_n 2, 1) := by decide +kernel
theorem dX6_bestLines_15 : decode cX6_bestLines 15 = .ok (.iconst 0, 1) := by decide +kernel
theorem dX6_bestLines_16 : decode cX6_bestLines 16 = .ok (.istore_n 3, 1) := by decide +kernel
theorem dX6_bestLines_17 : decode cX6_bestLines 17 = .ok (.bipush 40, 2) := by decide +kernel
theorem dX6_bestLines_19 : decode cX6_bestLines 19 = .ok (.istore 4, 2) := by decide +kernel
theorem dX6_bestLines_21 : decode cX6_bestLines 21 = .ok (.iload 4, 2) := by decide +kernel
theorem dX6_bestLines_23 : decode cX6_bestLines 23 = .ok (.bipush 6, 2) := by decide +kernel
theorem dX6_bestLines_25 : decode cX6_bestLines 25 = .ok (.if_icmp .lt 62, 3) := by decide +kernel
theorem dX6_bestLines_28 : decode cX6_bestLines 28 = .ok (.aload_n 0, 1) := by decide +kernel
theorem dX6_bestLines_29 : decode cX6_bestLines 29 = .ok (.iconst 0, 1) := by decide +kernel
theorem dX6_bestLines_30 : decode cX6_bestLines 30 = .ok (.iload 4, 2) := by decide +kernel
theorem dX6_bestLines_32 : decode cX6_bestLines 32 = .ok (.invokevirtual 231, 3) := by decide +kernel
theorem dX6_bestLines_35 : decode cX6_bestLines 35 = .ok (.pop, 1) := by decide +kernel
theorem dX6_bestLines_36 : decode cX6_bestLines 36 = .ok (.iload_n 2, 1) := by decide +kernel
theorem dX6_bestLines_37 : decode cX6_bestLines 37 = .ok (.ifCond .eq 11, 3) := by decide +kernel
theorem dX6_bestLines_40 : decode cX6_bestLines 40 = .ok (.aload_n 0, 1) := by decide +kernel
theorem dX6_bestLines_41 : decode cX6_bestLines 41 = .ok (.getfield 228, 3) := by decide +kernel
theorem dX6_bestLines_44 : decode cX6_bestLines 44 = .ok (.iload_n 3, 1) := by decide +kernel
theorem dX6_bestLines_45 : decode cX6_bestLines 45 = .ok (.if_icmp .gt 7, 3) := by decide +kernel
theorem dX6_bestLines_48 : decode cX6_bestLines 48 = .ok (.iconst 1, 1) := by decide +kernel
theorem dX6_bestLines_49 : decode cX6_bestLines 49 = .ok (.goto 4, 3) := by decide +kernel
theorem dX6_bestLines_52 : decode cX6_bestLines 52 = .ok (.iconst 0, 1) := by decide +kernel
theorem dX6_bestLines_53 : decode cX6_bestLines 53 = .ok (.istore 5, 2) := by decide +kernel
theorem dX6_bestLines_55 : decode cX6_bestLines 55 = .ok (.iload 5, 2) := by decide +kernel
theorem dX6_bestLines_57 : decode cX6_bestLines 57 = .ok (.ifCond .eq 8, 3) := by decide +kernel
theorem dX6_bestLines_60 : decode cX6_bestLines 60 = .ok (.iload 4, 2) := by decide +kernel
theorem dX6_bestLines_62 : decode cX6_bestLines 62 = .ok (.goto 4, 3) := by decide +kernel
theorem dX6_bestLines_65 : decode cX6_bestLines 65 = .ok (.iload_n 2, 1) := by decide +kernel
theorem dX6_bestLines_66 : decode cX6_bestLines 66 = .ok (.istore_n 2, 1) := by decide +kernel
theorem dX6_bestLines_67 : decode cX6_bestLines 67 = .ok (.iload 5, 2) := by decide +kernel
theorem dX6_bestLines_69 : decode cX6_bestLines 69 = .ok (.ifCond .eq 10, 3) := by decide +kernel
theorem dX6_bestLines_72 : decode cX6_bestLines 72 = .ok (.aload_n 0, 1) := by decide +kernel
theorem dX6_bestLines_73 : decode cX6_bestLines 73 = .ok (.getfield 228, 3) := by decide +kernel
theorem dX6_bestLines_76 : decode cX6_bestLines 76 = .ok (.goto 4, 3) := by decide +kernel
theorem dX6_bestLines_79 : decode cX6_bestLines 79 = .ok (.iload_n 3, 1) := by decide +kernel
theorem dX6_bestLines_80 : decode cX6_bestLines 80 = .ok (.istore_n 3, 1) := by decide +kernel
theorem dX6_bestLines_81 : decode cX6_bestLines 81 = .ok (.iinc 4 (-1), 3) := by decide +kernel
theorem dX6_bestLines_84 : decode cX6_bestLines 84 = .ok (.goto (-63), 3) := by decide +kernel
theorem dX6_bestLines_87 : decode cX6_bestLines 87 = .ok (.iload_n 1, 1) := by decide +kernel
theorem dX6_bestLines_88 : decode cX6_bestLines 88 = .ok (.ifCond .ne 7, 3) := by decide +kernel
theorem dX6_bestLines_91 : decode cX6_bestLines 91 = .ok (.iload_n 2, 1) := by decide +kernel
theorem dX6_bestLines_92 : decode cX6_bestLines 92 = .ok (.goto 4, 3) := by decide +kernel
theorem dX6_bestLines_95 : decode cX6_bestLines 95 = .ok (.iload_n 3, 1) := by decide +kernel
theorem dX6_bestLines_96 : decode cX6_bestLines 96 = .ok (.ireturn, 1) := by decide +kernel
theorem dJ9_min_7cf53_0 : decode cJ9_min_7cf53 0 = .ok (.iload_n 0, 1) := by decide +kernel
theorem dJ9_min_7cf53_1 : decode cJ9_min_7cf53 1 = .ok (.iload_n 1, 1) := by decide +kernel
theorem dJ9_min_7cf53_2 : decode cJ9_min_7cf53 2 = .ok (.if_icmp .gt 7, 3) := by decide +kernel
theorem dJ9_min_7cf53_5 : decode cJ9_min_7cf53 5 = .ok (.iload_n 0, 1) := by decide +kernel
theorem dJ9_min_7cf53_6 : decode cJ9_min_7cf53 6 = .ok (.goto 4, 3) := by decide +kernel
theorem dJ9_min_7cf53_9 : decode cJ9_min_7cf53 9 = .ok (.iload_n 1, 1) := by decide +kernel
theorem dJ9_min_7cf53_10 : decode cJ9_min_7cf53 10 = .ok (.ireturn, 1) := by decide +kernel
set_option maxRecDepth 20000 in
theorem ggL_law_X5_init : GoodIn wsL_law wsX5_init := goodIn_r _ [9, 10, 11, 12, 13, 14, 15, 16, 17, 18, 19, 20, 21, 22, 23, 24, 25, 26, 27, 28, 29, 30, 31, 32, 33, 34, 35, 36, 37, 38, 39, 40, 41, 42, 43, 44, 45, 46, 47, 48, 49, 50, 51, 52, 53, 54, 55, 56, 57, 58, 59, 60, 61, 62, 63, 64, 65, 66, 67, 68, 69, 70, 71, 72, 73, 74, 75, 2, 76, 77, 78, 79, 80, 81, 82, 83, 84, 85, 86, 87, 88, 89, 90, 91, 92, 93, 94, 95, 96, 97, 98, 99, 100, 101, 102, 103, 104, 105, 106, 107, 108, 109, 110, 111, 112, 113, 114, 115, 116, 117, 118, 119, 120, 121, 122, 123, 124, 125, 126, 127, 128, 129, 130, 131, 132, 133, 134, 135, 136, 699, 700, 701, 702, 669, 670, 671, 672, 673, 674, 675, 676, 703, 704, 705, 706, 707, 708, 709, 710, 711, 712, 713, 714, 715, 716, 717, 718, 719, 720, 721] (by decide +kernel) (by decide +kernel)
set_option maxRecDepth 20000 in
theorem gL_law_X5_init : GoodIn wsL_law (wsX5_init) := ggL_law_X5_init
set_option maxRecDepth 20000 in
theorem ggL_law_X6_init : GoodIn wsL_law wsX6_init := goodIn_r _ [139, 140, 11, 12, 40, 141, 142, 143, 144, 32, 145, 37, 146, 147, 148, 149, 150, 151, 152, 153, 154, 155, 156, 157, 677, 678, 679, 680, 681, 682, 683, 684, 685, 686, 687, 688, 689, 690, 691, 692, 693, 694, 695, 696, 697, 698] (by decide +kernel) (by decide +kernel)
set_option maxRecDepth 20000 in
theorem gL_law_X6_init : GoodIn wsL_law (wsX6_init) := ggL_law_X6_init
set_option maxRecDepth 20000 in
theorem ggL_law_X5_set : GoodIn wsL_law wsX5_set := goodIn_r _ [161, 30, 16, 77, 162, 163, 2, 164, 165, 166, 167, 168, 169, 29, 170, 72, 71, 171, 172, 173, 174, 175, 176, 177, 15, 178, 38, 42, 39, 41, 73, 74, 75, 76, 21, 78, 79, 80, 20, 81, 59, 55, 57, 56, 58, 82, 83, 84, 85, 60, 86, 87, 88, 89, 90, 91, 92, 93, 94, 95, 48, 96, 97, 98, 99, 100, 101, 102, 103, 53, 54, 51, 52, 104, 105, 106, 107, 46, 47, 108, 109, 110, 111, 112, 113, 114, 115, 49, 50, 116, 117, 118, 119, 120, 121, 122, 123, 124, 125, 126, 127, 128, 129, 130, 131, 132, 133, 134, 135, 136, 669, 670, 671, 672, 673, 674, 675, 676, 699, 700, 701, 702, 720, 721, 703, 704, 705, 706, 707, 708, 709, 710, 711, 712, 713, 714, 715, 716, 717] (by decide +kernel) (by decide +kernel)
set_option maxRecDepth 20000 in
theorem gL_law_X5_set : GoodIn wsL_law (wsV RL 13 RX5 yX5_set wsX5_set) := goodIn_app (goodIn_of _ (by decide +kernel)) ggL_law_X5_set
set_option maxRecDepth 20000 in
theorem ggL_law_X6_set : GoodIn wsL_law wsX6_set := goodIn_r _ [182, 141, 183, 184, 5, 185, 186, 187, 188, 189, 190, 191, 192, 193, 194, 195, 196, 197, 198, 143, 199, 200, 201, 677, 678, 679, 680, 681, 682, 683, 684, 685, 686, 687, 688, 689, 690, 691, 692, 693, 694, 695, 696, 697, 698] (by decide +kernel) (by decide +kernel)
set_option maxRecDepth 20000 in
theorem gL_law_X6_set : GoodIn wsL_law (wsV RL 17 RX6 yX6_set wsX6_set) := goodIn_app (goodIn_of _ (by decide +kernel)) ggL_law_X6_set
set_option maxRecDepth 20000 in
theorem ggL_law_X5_read : GoodIn wsL_law wsX5_read := goodIn_r _ [205, 26, 17, 16, 30, 206, 207, 208, 209, 25, 210, 65, 64, 211, 212, 213, 214, 215, 216, 217, 218, 219, 220, 221, 222, 223, 176, 177, 15, 178, 38, 42, 39, 41, 224, 225, 226, 227, 228, 229, 134, 230, 231, 133, 135, 136, 232, 233, 234, 235, 236, 237, 238, 239, 240, 241, 242, 128, 129, 130, 131, 243, 244, 245, 246, 167, 168, 169, 29, 170, 72, 71, 171, 172, 173, 174, 175, 247, 248, 249, 250, 73, 74, 75, 2, 76, 21, 77, 78, 79, 80, 20, 81, 59, 55, 57, 56, 58, 82, 83, 84, 85, 60, 86, 87, 88, 89, 90, 91, 92, 93, 94, 95, 48, 96, 97, 98, 99, 100, 101, 102, 103, 53, 54, 51, 52, 104, 105, 106, 107, 46, 47, 108, 109, 110, 111, 112, 113, 114, 115, 49, 50, 116, 117, 118, 119, 120, 121, 122, 123, 124, 125, 126, 127, 132, 669, 670, 671, 672, 673, 674, 675, 676, 699, 700, 701, 702, 718, 719, 720, 721, 703, 704, 705, 706, 707, 708, 709, 710, 711, 712, 713, 714, 715, 716, 717] (by decide +kernel) (by decide +kernel)
set_option maxRecDepth 20000 in
theorem gL_law_X5_read : GoodIn wsL_law (wsV RL 18 RX5 yX5_read wsX5_read) := goodIn_app (goodIn_of _ (by decide +kernel)) ggL_law_X5_read
set_option maxRecDepth 20000 in
theorem ggL_law_X6_read : GoodIn wsL_law wsX6_read := goodIn_r _ [254, 141, 142, 255, 147, 148, 256, 257, 258, 259, 5, 260, 261, 262, 263, 264, 265, 146, 266, 267, 268, 269, 270, 271, 272, 273, 191, 192, 193, 274, 275, 276, 277, 278, 279, 280, 281, 199, 200, 201, 282, 283, 284, 285, 286, 287, 288, 289, 290, 291, 292, 293, 294, 295, 296, 297, 194, 195, 196, 197, 198, 143, 677, 678, 679, 680, 681, 682, 683, 684, 685, 686, 687, 688, 689, 690, 691, 692, 693, 694, 695, 696, 697, 698] (by decide +kernel) (by decide +kernel)
set_option maxRecDepth 20000 in
theorem gL_law_X6_read : GoodIn wsL_law (wsV RL 22 RX6 yX6_read wsX6_read) := goodIn_app (goodIn_of _ (by decide +kernel)) ggL_law_X6_read
set_option maxRecDepth 20000 in
theorem ggL_law_X5_change : GoodIn wsL_law wsX5_change := goodIn_r _ [301, 16, 30, 302, 303, 129, 130, 15, 131, 42, 167, 168, 169, 29, 170, 72, 71, 171, 172, 173, 174, 175, 176, 177, 178, 38, 39, 41, 73, 74, 75, 2, 76, 21, 77, 78, 79, 80, 20, 81, 59, 55, 57, 56, 58, 82, 83, 84, 85, 60, 86, 87, 88, 89, 90, 91, 92, 93, 94, 95, 48, 96, 97, 98, 99, 100, 101, 102, 103, 53, 54, 51, 52, 104, 105, 106, 107, 46, 47, 108, 109, 110, 111, 112, 113, 114, 115, 49, 50, 116, 117, 118, 119, 120, 121, 122, 123, 124, 125, 126, 127, 128, 132, 133, 134, 135, 136, 669, 670, 671, 672, 673, 674, 675, 676, 699, 700, 701, 702, 720, 721, 703, 704, 705, 706, 707, 708, 709, 710, 711, 712, 713, 714, 715, 716, 717] (by decide +kernel) (by decide +kernel)
set_option maxRecDepth 20000 in
theorem gL_law_X5_change : GoodIn wsL_law (wsV RL 23 RX5 yX5_change wsX5_change) := goodIn_app (goodIn_of _ (by decide +kernel)) ggL_law_X5_change
set_option maxRecDepth 20000 in
theorem ggL_law_X6_change : GoodIn wsL_law wsX6_change := goodIn_r _ [307, 187, 141, 308, 309, 310, 5, 311, 191, 192, 193, 194, 195, 196, 197, 198, 143, 199, 200, 201, 312, 313, 314, 315, 677, 678, 679, 680, 681, 682, 683, 684, 685, 686, 687, 688, 689, 690, 691, 692, 693, 694, 695, 696, 697, 698] (by decide +kernel) (by decide +kernel)
set_option maxRecDepth 20000 in
theorem gL_law_X6_change : GoodIn wsL_law (wsV RL 26 RX6 yX6_change wsX6_change) := goodIn_app (goodIn_of _ (by decide +kernel)) ggL_law_X6_change
set_option maxRecDepth 20000 in
theorem ggL_law_X5_drop : GoodIn wsL_law wsX5_drop := goodIn_r _ [319, 16, 30, 302, 303, 129, 130, 15, 131, 42, 167, 168, 169, 29, 170, 72, 71, 171, 172, 173, 174, 175, 176, 177, 178, 38, 39, 41, 320, 321, 322, 323, 128, 73, 74, 75, 2, 76, 21, 77, 78, 79, 80, 20, 81, 59, 55, 57, 56, 58, 82, 83, 84, 85, 60, 86, 87, 88, 89, 90, 91, 92, 93, 94, 95, 48, 96, 97, 98, 99, 100, 101, 102, 103, 53, 54, 51, 52, 104, 105, 106, 107, 46, 47, 108, 109, 110, 111, 112, 113, 114, 115, 49, 50, 116, 117, 118, 119, 120, 121, 122, 123, 124, 125, 126, 127, 132, 133, 134, 135, 136, 669, 670, 671, 672, 673, 674, 675, 676, 699, 700, 701, 702, 720, 721, 703, 704, 705, 706, 707, 708, 709, 710, 711, 712, 713, 714, 715, 716, 717] (by decide +kernel) (by decide +kernel)
set_option maxRecDepth 20000 in
theorem gL_law_X5_drop : GoodIn wsL_law (wsV RL 27 RX5 yX5_drop wsX5_drop) := goodIn_app (goodIn_of _ (by decide +kernel)) ggL_law_X5_drop
set_option maxRecDepth 20000 in
theorem ggL_law_X6_drop : GoodIn wsL_law wsX6_drop := goodIn_r _ [327, 308, 309, 310, 5, 311, 141, 191, 192, 193, 194, 195, 196, 197, 198, 143, 199, 200, 201, 312, 313, 314, 315, 328, 329, 330, 331, 286, 287, 288, 289, 677, 678, 679, 680, 681, 682, 683, 684, 685, 686, 687, 688, 689, 690, 691, 692, 693, 694, 695, 696, 697, 698] (by decide +kernel) (by decide +kernel)
set_option maxRecDepth 20000 in
theorem gL_law_X6_drop : GoodIn wsL_law (wsV RL 31 RX6 yX6_drop wsX6_drop) := goodIn_app (goodIn_of _ (by decide +kernel)) ggL_law_X6_drop
set_option maxRecDepth 20000 in
theorem ggL_law_X5_join : GoodIn wsL_law wsX5_join := goodIn_r _ [335, 16, 302, 30, 303, 129, 130, 15, 131, 42, 167, 168, 169, 29, 170, 72, 71, 171, 172, 173, 174, 175, 176, 177, 178, 38, 39, 41, 320, 321, 322, 323, 128, 73, 74, 75, 2, 76, 21, 77, 78, 79, 80, 20, 81, 59, 55, 57, 56, 58, 82, 83, 84, 85, 60, 86, 87, 88, 89, 90, 91, 92, 93, 94, 95, 48, 96, 97, 98, 99, 100, 101, 102, 103, 53, 54, 51, 52, 104, 105, 106, 107, 46, 47, 108, 109, 110, 111, 112, 113, 114, 115, 49, 50, 116, 117, 118, 119, 120, 121, 122, 123, 124, 125, 126, 127, 132, 133, 134, 135, 136, 669, 670, 671, 672, 673, 674, 675, 676, 699, 700, 701, 702, 720, 721, 703, 704, 705, 706, 707, 708, 709, 710, 711, 712, 713, 714, 715, 716, 717] (by decide +kernel) (by decide +kernel)
set_option maxRecDepth 20000 in
theorem gL_law_X5_join : GoodIn wsL_law (wsV RL 32 RX5 yX5_join wsX5_join) := goodIn_app (goodIn_of _ (by decide +kernel)) ggL_law_X5_join
set_option maxRecDepth 20000 in
theorem ggL_law_X6_join : GoodIn wsL_law wsX6_join := goodIn_r _ [339, 141, 308, 309, 310, 5, 311, 191, 192, 193, 312, 313, 314, 315, 194, 195, 196, 197, 198, 143, 199, 200, 201, 328, 329, 330, 331, 286, 287, 288, 289, 677, 678, 679, 680, 681, 682, 683, 684, 685, 686, 687, 688, 689, 690, 691, 692, 693, 694, 695, 696, 697, 698] (by decide +kernel) (by decide +kernel)
set_option maxRecDepth 20000 in
theorem gL_law_X6_join : GoodIn wsL_law (wsV RL 35 RX6 yX6_join wsX6_join) := goodIn_app (goodIn_of _ (by decide +kernel)) ggL_law_X6_join
set_option maxRecDepth 20000 in
theorem ggL_law_X5_rename : GoodIn wsL_law wsX5_rename := goodIn_r _ [343, 16, 26, 30, 302, 303, 129, 130, 15, 131, 42, 344, 345, 346, 25, 347, 65, 64, 214, 215, 216, 348, 349, 350, 351, 228, 229, 134, 230, 231, 133, 135, 136, 232, 233, 234, 352, 353, 354, 355, 41, 239, 240, 241, 242, 128, 167, 168, 169, 29, 170, 72, 71, 171, 172, 173, 174, 175, 176, 177, 178, 38, 39, 320, 321, 322, 323, 356, 236, 237, 238, 243, 244, 245, 246, 247, 248, 249, 250, 73, 74, 75, 2, 76, 21, 77, 78, 79, 80, 20, 81, 59, 55, 57, 56, 58, 82, 83, 84, 85, 60, 86, 87, 88, 89, 90, 91, 92, 93, 94, 95, 48, 96, 97, 98, 99, 100, 101, 102, 103, 53, 54, 51, 52, 104, 105, 106, 107, 46, 47, 108, 109, 110, 111, 112, 113, 114, 115, 49, 50, 116, 117, 118, 119, 120, 121, 122, 123, 124, 125, 126, 127, 132, 669, 670, 671, 672, 673, 674, 675, 676, 699, 700, 701, 702, 718, 719, 720, 721, 703, 704, 705, 706, 707, 708, 709, 710, 711, 712, 713, 714, 715, 716, 717] (by decide +kernel) (by decide +kernel)
set_option maxRecDepth 20000 in
theorem gL_law_X5_rename : GoodIn wsL_law (wsV RL 36 RX5 yX5_rename wsX5_rename) := goodIn_app (goodIn_of _ (by decide +kernel)) ggL_law_X5_rename
set_option maxRecDepth 20000 in
theorem ggL_law_X6_rename : GoodIn wsL_law wsX6_rename := goodIn_r _ [360, 141, 256, 308, 309, 310, 5, 311, 191, 192, 193, 361, 362, 363, 364, 261, 266, 267, 268, 269, 146, 270, 271, 272, 273, 274, 275, 276, 277, 282, 283, 284, 285, 286, 287, 288, 289, 194, 195, 196, 197, 198, 143, 199, 200, 201, 328, 329, 330, 331, 290, 291, 292, 293, 677, 678, 679, 680, 681, 682, 683, 684, 685, 686, 687, 688, 689, 690, 691, 692, 693, 694, 695, 696, 697, 698] (by decide +kernel) (by decide +kernel)
set_option maxRecDepth 20000 in
theorem gL_law_X6_rename : GoodIn wsL_law (wsV RL 39 RX6 yX6_rename wsX6_rename) := goodIn_app (goodIn_of _ (by decide +kernel)) ggL_law_X6_rename
set_option maxRecDepth 20000 in
theorem ggL_law_X5_entry : GoodIn wsL_law wsX5_entry := goodIn_r _ [368, 16, 302, 21, 369, 370, 371, 303, 129, 130, 15, 131, 42, 372, 373, 374, 20, 375, 48, 46, 376, 125, 126, 127, 41, 128, 377, 133, 134, 135, 136, 378, 379, 380, 231, 232, 233, 234, 381, 382, 2, 383, 669, 670, 671, 672, 673, 674, 675, 676, 699, 700, 701, 702, 703, 704, 705, 706, 707, 708, 709, 710, 711, 712, 713, 714, 715, 716, 717] (by decide +kernel) (by decide +kernel)
set_option maxRecDepth 20000 in
theorem gL_law_X5_entry : GoodIn wsL_law (wsV RL 40 RX5 yX5_entry wsX5_entry) := goodIn_app (goodIn_of _ (by decide +kernel)) ggL_law_X5_entry
set_option maxRecDepth 20000 in
theorem ggL_law_X6_entry : GoodIn wsL_law wsX6_entry := goodIn_r _ [387, 153, 154, 155, 141, 308, 309, 310, 5, 311, 191, 192, 193, 388, 389, 390, 391, 149, 392, 393, 394, 395, 396, 397, 150, 286, 287, 288, 289, 398, 399, 400, 401, 312, 313, 314, 315, 402, 403, 404, 405, 406, 407, 408, 409, 410, 411, 412, 413, 151, 152, 414, 415, 416, 417, 418, 419, 420, 421, 422, 423, 424, 425, 426, 427, 428, 429, 430, 431, 277, 274, 275, 276, 677, 678, 679, 680, 681, 682, 683, 684, 685, 686, 687, 688, 689, 690, 691, 692, 693, 694, 695, 696, 697, 698] (by decide +kernel) (by decide +kernel)
set_option maxRecDepth 20000 in
theorem gL_law_X6_entry : GoodIn wsL_law (wsV RL 43 RX6 yX6_entry wsX6_entry) := goodIn_app (goodIn_of _ (by decide +kernel)) ggL_law_X6_entry
set_option maxRecDepth 20000 in
theorem ggL_law_X5_page : GoodIn wsL_law wsX5_page := goodIn_r _ [435, 21, 436, 437, 438, 439, 440, 16, 441, 109, 110, 20, 111, 55, 442, 443, 444, 445, 59, 53, 52, 446, 121, 122, 123, 49, 50, 124, 125, 126, 15, 127, 41, 128, 129, 130, 131, 42, 132, 133, 134, 135, 136, 447, 448, 449, 450, 451, 379, 380, 231, 232, 233, 234, 381, 382, 2, 383, 669, 670, 671, 672, 673, 674, 675, 676, 703, 704, 705, 706, 707, 708, 709, 710, 711, 712, 713, 714, 715, 716, 717, 699, 700, 701, 702] (by decide +kernel) (by decide +kernel)
set_option maxRecDepth 20000 in
theorem gL_law_X5_page : GoodIn wsL_law (wsV RL 44 RX5 yX5_page wsX5_page) := goodIn_app (goodIn_of _ (by decide +kernel)) ggL_law_X5_page
set_option maxRecDepth 20000 in
theorem ggL_law_X6_page : GoodIn wsL_law wsX6_page := goodIn_r _ [455, 393, 151, 152, 150, 149, 388, 389, 390, 5, 391, 392, 394, 395, 396, 397, 155, 286, 287, 288, 289, 141, 398, 399, 400, 401, 312, 313, 314, 315, 402, 403, 404, 405, 406, 407, 408, 409, 410, 411, 412, 413, 153, 154, 414, 415, 416, 417, 418, 419, 420, 421, 422, 423, 424, 425, 426, 427, 428, 429, 430, 431, 277, 274, 275, 276, 191, 192, 193, 456, 457, 458, 459, 460, 461, 462, 463, 677, 678, 679, 680, 681, 682, 683, 684, 685, 686, 687, 688, 689, 690, 691, 692, 693, 694, 695, 696, 697, 698] (by decide +kernel) (by decide +kernel)
set_option maxRecDepth 20000 in
theorem gL_law_X6_page : GoodIn wsL_law (wsV RL 47 RX6 yX6_page wsX6_page) := goodIn_app (goodIn_of _ (by decide +kernel)) ggL_law_X6_page
set_option maxRecDepth 20000 in
theorem ggL_law_X5_fold : GoodIn wsL_law wsX5_fold := goodIn_r _ [467, 21, 468, 469, 470, 20, 471, 55, 472, 473, 474, 475, 50, 441, 109, 110, 111, 476, 477, 478, 479, 51, 49, 669, 670, 671, 672, 673, 674, 675, 676, 703, 704, 705, 706, 707, 708, 709, 710, 711, 712, 713, 714, 715, 716, 717] (by decide +kernel) (by decide +kernel)
set_option maxRecDepth 20000 in
theorem gL_law_X5_fold : GoodIn wsL_law (wsV RL 48 RX5 yX5_fold wsX5_fold) := goodIn_app (goodIn_of _ (by decide +kernel)) ggL_law_X5_fold
set_option maxRecDepth 20000 in
theorem ggL_law_X6_fold : GoodIn wsL_law wsX6_fold := goodIn_r _ [483, 393, 388, 389, 390, 5, 391, 149, 392, 394, 395, 396, 397, 150, 155, 286, 287, 288, 289, 141, 398, 399, 400, 401, 312, 313, 314, 315, 402, 403, 404, 405, 406, 407, 408, 409, 410, 411, 412, 413, 151, 152, 153, 154, 414, 415, 416, 417, 418, 419, 420, 421, 422, 423, 424, 425, 426, 427, 428, 429, 430, 431, 277, 274, 275, 276, 484, 485, 486, 487, 191, 192, 193, 488, 489, 490, 491, 677, 678, 679, 680, 681, 682, 683, 684, 685, 686, 687, 688, 689, 690, 691, 692, 693, 694, 695, 696, 697, 698] (by decide +kernel) (by decide +kernel)
set_option maxRecDepth 20000 in
theorem gL_law_X6_fold : GoodIn wsL_law (wsV RL 52 RX6 yX6_fold wsX6_fold) := goodIn_app (goodIn_of _ (by decide +kernel)) ggL_law_X6_fold
set_option maxRecDepth 20000 in
theorem ggL_law_X5_count : GoodIn wsL_law wsX5_count := goodIn_r _ [495, 16, 77, 206, 26, 496, 30, 497, 498, 499, 500, 15, 501, 42, 39, 502, 503, 504, 2, 505, 21, 506, 507, 508, 468, 469, 470, 20, 471, 55, 509, 510, 511, 512, 513, 443, 444, 445, 59, 53, 52, 514, 515, 516, 517, 51, 518, 519, 520, 521, 522, 373, 374, 375, 48, 46, 523, 524, 525, 526, 669, 670, 671, 672, 673, 674, 675, 676, 699, 700, 701, 702, 718, 719, 720, 721, 703, 704, 705, 706, 707, 708, 709, 710, 711, 712, 713, 714, 715, 716, 717] (by decide +kernel) (by decide +kernel)
set_option maxRecDepth 20000 in
theorem gL_law_X5_count : GoodIn wsL_law (wsV RL 53 RX5 yX5_count wsX5_count) := goodIn_app (goodIn_of _ (by decide +kernel)) ggL_law_X5_count
set_option maxRecDepth 20000 in
theorem ggL_law_X6_count : GoodIn wsL_law wsX6_count := goodIn_r _ [530, 141, 393, 392, 256, 198, 388, 389, 390, 5, 391, 149, 394, 395, 396, 397, 150, 155, 286, 287, 288, 289, 398, 399, 400, 401, 312, 313, 314, 315, 402, 403, 404, 405, 406, 407, 408, 409, 410, 411, 412, 413, 151, 152, 153, 154, 414, 415, 416, 417, 418, 419, 420, 421, 422, 423, 424, 425, 426, 427, 428, 429, 430, 431, 277, 274, 275, 276, 484, 485, 486, 487, 531, 532, 533, 534, 535, 536, 537, 538, 539, 540, 541, 542, 456, 457, 458, 459, 543, 544, 545, 546, 547, 548, 549, 550, 677, 678, 679, 680, 681, 682, 683, 684, 685, 686, 687, 688, 689, 690, 691, 692, 693, 694, 695, 696, 697, 698] (by decide +kernel) (by decide +kernel)
set_option maxRecDepth 20000 in
theorem gL_law_X6_count : GoodIn wsL_law (wsV RL 56 RX6 yX6_count wsX6_count) := goodIn_app (goodIn_of _ (by decide +kernel)) ggL_law_X6_count
set_option maxRecDepth 20000 in
theorem ggL_law_X5_lookFor : GoodIn wsL_law wsX5_lookFor := goodIn_r _ [554, 26, 21, 506, 16, 437, 344, 345, 346, 25, 347, 65, 64, 214, 215, 216, 348, 349, 350, 351, 228, 229, 134, 230, 231, 133, 135, 136, 232, 233, 234, 376, 125, 126, 15, 127, 41, 128, 129, 130, 131, 42, 669, 670, 671, 672, 673, 674, 675, 676, 703, 704, 705, 706, 707, 708, 709, 710, 711, 712, 713, 714, 715, 716, 717, 718, 719, 699, 700, 701, 702] (by decide +kernel) (by decide +kernel)
set_option maxRecDepth 20000 in
theorem gL_law_X5_lookFor : GoodIn wsL_law (wsV RL 57 RX5 yX5_lookFor wsX5_lookFor) := goodIn_app (goodIn_of _ (by decide +kernel)) ggL_law_X5_lookFor
set_option maxRecDepth 20000 in
theorem ggL_law_X6_lookFor : GoodIn wsL_law wsX6_lookFor := goodIn_r _ [558, 393, 141, 152, 361, 362, 363, 5, 364, 261, 256, 266, 267, 268, 269, 146, 270, 271, 272, 273, 191, 192, 193, 274, 275, 276, 277, 388, 389, 390, 391, 149, 392, 394, 395, 396, 397, 150, 155, 286, 287, 288, 289, 398, 399, 400, 401, 312, 313, 314, 315, 402, 403, 404, 405, 406, 407, 408, 409, 410, 411, 412, 413, 151, 153, 154, 414, 415, 416, 417, 418, 419, 420, 421, 422, 423, 424, 425, 426, 427, 428, 429, 430, 431, 677, 678, 679, 680, 681, 682, 683, 684, 685, 686, 687, 688, 689, 690, 691, 692, 693, 694, 695, 696, 697, 698] (by decide +kernel) (by decide +kernel)
set_option maxRecDepth 20000 in
theorem gL_law_X6_lookFor : GoodIn wsL_law (wsV RL 60 RX6 yX6_lookFor wsX6_lookFor) := goodIn_app (goodIn_of _ (by decide +kernel)) ggL_law_X6_lookFor
set_option maxRecDepth 20000 in
theorem ggL_law_X5_find : GoodIn wsL_law wsX5_find := goodIn_r _ [562, 26, 16, 344, 345, 346, 25, 347, 65, 64, 214, 215, 216, 348, 349, 350, 351, 228, 229, 134, 230, 231, 133, 135, 136, 232, 233, 234, 352, 353, 354, 15, 355, 41, 239, 240, 241, 242, 42, 128, 129, 130, 131, 669, 670, 671, 672, 673, 674, 675, 676, 718, 719, 699, 700, 701, 702] (by decide +kernel) (by decide +kernel)
set_option maxRecDepth 20000 in
theorem gL_law_X5_find : GoodIn wsL_law (wsV RL 61 RX5 yX5_find wsX5_find) := goodIn_app (goodIn_of _ (by decide +kernel)) ggL_law_X5_find
set_option maxRecDepth 20000 in
theorem ggL_law_X6_find : GoodIn wsL_law wsX6_find := goodIn_r _ [566, 361, 362, 363, 5, 364, 261, 256, 266, 267, 268, 269, 146, 270, 271, 272, 273, 191, 192, 193, 274, 275, 276, 277, 282, 283, 284, 285, 141, 286, 287, 288, 289, 677, 678, 679, 680, 681, 682, 683, 684, 685, 686, 687, 688, 689, 690, 691, 692, 693, 694, 695, 696, 697, 698] (by decide +kernel) (by decide +kernel)
set_option maxRecDepth 20000 in
theorem gL_law_X6_find : GoodIn wsL_law (wsV RL 64 RX6 yX6_find wsX6_find) := goodIn_app (goodIn_of _ (by decide +kernel)) ggL_law_X6_find
set_option maxRecDepth 20000 in
theorem ggL_law_X5_ifSet : GoodIn wsL_law wsX5_ifSet := goodIn_r _ [570, 16, 77, 22, 506, 162, 163, 2, 164, 165, 166, 78, 79, 80, 20, 81, 59, 55, 57, 56, 58, 82, 83, 84, 85, 60, 86, 87, 88, 89, 90, 91, 92, 93, 94, 95, 48, 96, 97, 98, 99, 100, 101, 102, 103, 53, 54, 51, 52, 104, 105, 106, 107, 46, 47, 108, 109, 110, 111, 112, 113, 114, 115, 49, 50, 116, 117, 118, 119, 120, 121, 122, 123, 124, 125, 126, 15, 127, 41, 128, 129, 130, 131, 42, 132, 133, 134, 135, 136, 669, 670, 671, 672, 673, 674, 675, 676, 699, 700, 701, 702, 703, 704, 705, 706, 707, 708, 709, 710, 711, 712, 713, 714, 715, 716, 717] (by decide +kernel) (by decide +kernel)
set_option maxRecDepth 20000 in
theorem gL_law_X5_ifSet : GoodIn wsL_law (wsV RL 65 RX5 yX5_ifSet wsX5_ifSet) := goodIn_app (goodIn_of _ (by decide +kernel)) ggL_law_X5_ifSet
set_option maxRecDepth 20000 in
theorem ggL_law_X6_ifSet : GoodIn wsL_law wsX6_ifSet := goodIn_r _ [574, 183, 184, 5, 185, 186, 187, 188, 189, 190, 191, 192, 193, 575, 576, 577, 578, 141, 579, 393, 388, 389, 390, 391, 149, 392, 394, 395, 396, 397, 150, 155, 286, 287, 288, 289, 398, 399, 400, 401, 312, 313, 314, 315, 402, 403, 404, 405, 406, 407, 408, 409, 410, 411, 412, 413, 151, 152, 153, 154, 414, 415, 416, 417, 418, 419, 420, 421, 422, 423, 424, 425, 426, 427, 428, 429, 430, 431, 277, 274, 275, 276, 535, 536, 537, 538, 677, 678, 679, 680, 681, 682, 683, 684, 685, 686, 687, 688, 689, 690, 691, 692, 693, 694, 695, 696, 697, 698] (by decide +kernel) (by decide +kernel)
set_option maxRecDepth 20000 in
theorem gL_law_X6_ifSet : GoodIn wsL_law (wsV RL 68 RX6 yX6_ifSet wsX6_ifSet) := goodIn_app (goodIn_of _ (by decide +kernel)) ggL_law_X6_ifSet
set_option maxRecDepth 20000 in
theorem ggL_law_X5_leastLines : GoodIn wsL_law wsX5_leastLines := goodIn_r _ [583, 165, 166, 22, 506, 584, 585, 586, 2, 587, 16, 77, 78, 79, 80, 20, 81, 59, 55, 57, 56, 58, 82, 83, 84, 85, 60, 86, 87, 88, 89, 90, 91, 92, 93, 94, 95, 48, 96, 97, 98, 99, 100, 101, 102, 103, 53, 54, 51, 52, 104, 105, 106, 107, 46, 47, 108, 109, 110, 111, 112, 113, 114, 115, 49, 50, 116, 117, 118, 119, 120, 121, 122, 123, 124, 125, 126, 15, 127, 41, 128, 129, 130, 131, 42, 132, 133, 134, 135, 136, 669, 670, 671, 672, 673, 674, 675, 676, 703, 704, 705, 706, 707, 708, 709, 710, 711, 712, 713, 714, 715, 716, 717, 699, 700, 701, 702] (by decide +kernel) (by decide +kernel)
set_option maxRecDepth 20000 in
theorem gL_law_X5_leastLines : GoodIn wsL_law (wsV RL 69 RX5 yX5_leastLines wsX5_leastLines) := goodIn_app (goodIn_of _ (by decide +kernel)) ggL_law_X5_leastLines
set_option maxRecDepth 20000 in
theorem ggL_law_X6_leastLines : GoodIn wsL_law wsX6_leastLines := goodIn_r _ [591, 592, 191, 192, 5, 193, 575, 576, 577, 578, 141, 579, 393, 388, 389, 390, 391, 149, 392, 394, 395, 396, 397, 150, 155, 286, 287, 288, 289, 398, 399, 400, 401, 312, 313, 314, 315, 402, 403, 404, 405, 406, 407, 408, 409, 410, 411, 412, 413, 151, 152, 153, 154, 414, 415, 416, 417, 418, 419, 420, 421, 422, 423, 424, 425, 426, 427, 428, 429, 430, 431, 277, 274, 275, 276, 535, 536, 537, 538, 677, 678, 679, 680, 681, 682, 683, 684, 685, 686, 687, 688, 689, 690, 691, 692, 693, 694, 695, 696, 697, 698] (by decide +kernel) (by decide +kernel)
set_option maxRecDepth 20000 in
theorem gL_law_X6_leastLines : GoodIn wsL_law (wsV RL 72 RX6 yX6_leastLines wsX6_leastLines) := goodIn_app (goodIn_of _ (by decide +kernel)) ggL_law_X6_leastLines
set_option maxRecDepth 20000 in
theorem ggL_law_X5_bestLines : GoodIn wsL_law wsX5_bestLines := goodIn_r _ [596, 165, 22, 166, 584, 585, 586, 2, 587, 16, 77, 78, 79, 80, 20, 81, 59, 55, 57, 56, 58, 82, 83, 84, 85, 60, 86, 87, 88, 89, 90, 91, 92, 93, 94, 95, 48, 96, 97, 98, 99, 100, 101, 102, 103, 53, 54, 51, 52, 104, 105, 106, 107, 46, 47, 108, 109, 110, 111, 112, 113, 114, 115, 49, 50, 116, 117, 118, 119, 120, 121, 122, 123, 124, 125, 126, 15, 127, 41, 128, 129, 130, 131, 42, 132, 133, 134, 135, 136, 509, 510, 511, 512, 513, 443, 444, 445, 669, 670, 671, 672, 673, 674, 675, 676, 699, 700, 701, 702, 703, 704, 705, 706, 707, 708, 709, 710, 711, 712, 713, 714, 715, 716, 717] (by decide +kernel) (by decide +kernel)
set_option maxRecDepth 20000 in
theorem gL_law_X5_bestLines : GoodIn wsL_law (wsV RL 73 RX5 yX5_bestLines wsX5_bestLines) := goodIn_app (goodIn_of _ (by decide +kernel)) ggL_law_X5_bestLines
set_option maxRecDepth 20000 in
theorem ggL_law_X6_bestLines : GoodIn wsL_law wsX6_bestLines := goodIn_r _ [600, 579, 191, 192, 5, 193, 575, 576, 577, 578, 141, 393, 388, 389, 390, 391, 149, 392, 394, 395, 396, 397, 150, 155, 286, 287, 288, 289, 398, 399, 400, 401, 312, 313, 314, 315, 402, 403, 404, 405, 406, 407, 408, 409, 410, 411, 412, 413, 151, 152, 153, 154, 414, 415, 416, 417, 418, 419, 420, 421, 422, 423, 424, 425, 426, 427, 428, 429, 430, 431, 277, 274, 275, 276, 535, 536, 537, 538, 677, 678, 679, 680, 681, 682, 683, 684, 685, 686, 687, 688, 689, 690, 691, 692, 693, 694, 695, 696, 697, 698] (by decide +kernel) (by decide +kernel)
set_option maxRecDepth 20000 in
theorem gL_law_X6_bestLines : GoodIn wsL_law (wsV RL 76 RX6 yX6_bestLines wsX6_bestLines) := goodIn_app (goodIn_of _ (by decide +kernel)) ggL_law_X6_bestLines
set_option maxRecDepth 20000 in
theorem ggL_law_X5_put : GoodIn wsL_law wsX5_put := goodIn_r _ [604, 26, 496, 605, 606, 2, 607, 608, 609, 610, 611, 612, 613, 25, 614, 65, 64, 669, 670, 671, 672, 673, 674, 675, 676, 718, 719] (by decide +kernel) (by decide +kernel)
set_option maxRecDepth 20000 in
theorem gL_law_X5_put : GoodIn wsL_law (wsV RL 79 RX5 yX5_put wsX5_put) := goodIn_app (goodIn_of _ (by decide +kernel)) ggL_law_X5_put
set_option maxRecDepth 20000 in
theorem ggL_law_X6_put : GoodIn wsL_law wsX6_put := goodIn_r _ [618, 619, 620, 621, 256, 146, 191, 192, 5, 193, 677, 678, 679, 680, 681, 682, 683, 684, 685, 686, 687, 688, 689, 690, 691, 692, 693, 694, 695, 696, 697, 698] (by decide +kernel) (by decide +kernel)
set_option maxRecDepth 20000 in
theorem gL_law_X6_put : GoodIn wsL_law (wsV RL 83 RX6 yX6_put wsX6_put) := goodIn_app (goodIn_of _ (by decide +kernel)) ggL_law_X6_put
set_option maxRecDepth 20000 in
theorem ggL_law_X5_wipe : GoodIn wsL_law wsX5_wipe := goodIn_r _ [625, 26, 496, 247, 248, 249, 25, 250, 65, 669, 670, 671, 672, 673, 674, 675, 676, 718, 719] (by decide +kernel) (by decide +kernel)
set_option maxRecDepth 20000 in
theorem gL_law_X5_wipe : GoodIn wsL_law (wsV RL 84 RX5 yX5_wipe wsX5_wipe) := goodIn_app (goodIn_of _ (by decide +kernel)) ggL_law_X5_wipe
set_option maxRecDepth 20000 in
theorem ggL_law_X6_wipe : GoodIn wsL_law wsX6_wipe := goodIn_r _ [629, 256, 677, 678, 679, 680, 681, 682, 683, 684, 685, 686, 687, 688, 689, 690, 691, 692, 693, 694, 695, 696, 697, 698] (by decide +kernel) (by decide +kernel)
set_option maxRecDepth 20000 in
theorem gL_law_X6_wipe : GoodIn wsL_law (wsV RL 87 RX6 yX6_wipe wsX6_wipe) := goodIn_app (goodIn_of _ (by decide +kernel)) ggL_law_X6_wipe
set_option maxRecDepth 20000 in
theorem ggL_law_X5_fault : GoodIn wsL_law wsX5_fault := goodIn_r _ [633, 26, 207, 208, 209, 25, 210, 65, 64, 211, 212, 213, 214, 215, 216, 217, 218, 219, 220, 221, 222, 669, 670, 671, 672, 673, 674, 675, 676, 718, 719] (by decide +kernel) (by decide +kernel)
set_option maxRecDepth 20000 in
theorem gL_law_X5_fault : GoodIn wsL_law (wsV RL 88 RX5 yX5_fault wsX5_fault) := goodIn_app (goodIn_of _ (by decide +kernel)) ggL_law_X5_fault
set_option maxRecDepth 20000 in
theorem ggL_law_X6_fault : GoodIn wsL_law wsX6_fault := goodIn_r _ [637, 261, 257, 258, 259, 5, 260, 255, 256, 262, 263, 264, 265, 146, 147, 148, 266, 267, 268, 269, 270, 271, 272, 273, 191, 192, 193, 274, 275, 276, 277, 278, 279, 280, 281, 677, 678, 679, 680, 681, 682, 683, 684, 685, 686, 687, 688, 689, 690, 691, 692, 693, 694, 695, 696, 697, 698] (by decide +kernel) (by decide +kernel)
set_option maxRecDepth 20000 in
theorem gL_law_X6_fault : GoodIn wsL_law (wsV RL 91 RX6 yX6_fault wsX6_fault) := goodIn_app (goodIn_of _ (by decide +kernel)) ggL_law_X6_fault
set_option maxRecDepth 20000 in
theorem ggL_law_X5_undo : GoodIn wsL_law wsX5_undo := goodIn_r _ [641, 30, 497, 16, 642, 643, 644, 29, 645, 72, 71, 175, 176, 177, 15, 178, 38, 42, 39, 41, 73, 74, 75, 2, 76, 21, 77, 78, 79, 80, 20, 81, 59, 55, 57, 56, 58, 82, 83, 84, 85, 60, 86, 87, 88, 89, 90, 91, 92, 93, 94, 95, 48, 96, 97, 98, 99, 100, 101, 102, 103, 53, 54, 51, 52, 104, 105, 106, 107, 46, 47, 108, 109, 110, 111, 112, 113, 114, 115, 49, 50, 116, 117, 118, 119, 120, 121, 122, 123, 124, 125, 126, 127, 128, 129, 130, 131, 132, 133, 134, 135, 136, 669, 670, 671, 672, 673, 674, 675, 676, 720, 721, 699, 700, 701, 702, 703, 704, 705, 706, 707, 708, 709, 710, 711, 712, 713, 714, 715, 716, 717] (by decide +kernel) (by decide +kernel)
set_option maxRecDepth 20000 in
theorem gL_law_X5_undo : GoodIn wsL_law (wsV RL 92 RX5 yX5_undo wsX5_undo) := goodIn_app (goodIn_of _ (by decide +kernel)) ggL_law_X5_undo
set_option maxRecDepth 20000 in
theorem ggL_law_X6_undo : GoodIn wsL_law wsX6_undo := goodIn_r _ [649, 198, 143, 141, 199, 200, 5, 201, 677, 678, 679, 680, 681, 682, 683, 684, 685, 686, 687, 688, 689, 690, 691, 692, 693, 694, 695, 696, 697, 698] (by decide +kernel) (by decide +kernel)
set_option maxRecDepth 20000 in
theorem gL_law_X6_undo : GoodIn wsL_law (wsV RL 95 RX6 yX6_undo wsX6_undo) := goodIn_app (goodIn_of _ (by decide +kernel)) ggL_law_X6_undo
set_option maxRecDepth 20000 in
theorem ggL_law_X5_save : GoodIn wsL_law wsX5_save := goodIn_r _ [653, 31, 16, 33, 206, 654, 655, 2, 656, 223, 176, 177, 15, 178, 38, 42, 39, 41, 669, 670, 671, 672, 673, 674, 675, 676, 699, 700, 701, 702] (by decide +kernel) (by decide +kernel)
set_option maxRecDepth 20000 in
theorem gL_law_X5_save : GoodIn wsL_law (wsV RL 96 RX5 yX5_save wsX5_save) := goodIn_app (goodIn_of _ (by decide +kernel)) ggL_law_X5_save
set_option maxRecDepth 20000 in
theorem ggL_law_X6_save : GoodIn wsL_law wsX6_save := goodIn_r _ [660, 141, 144, 145, 191, 192, 5, 193, 199, 200, 201, 286, 287, 288, 289, 677, 678, 679, 680, 681, 682, 683, 684, 685, 686, 687, 688, 689, 690, 691, 692, 693, 694, 695, 696, 697, 698] (by decide +kernel) (by decide +kernel)
set_option maxRecDepth 20000 in
theorem gL_law_X6_save : GoodIn wsL_law (wsV RL 99 RX6 yX6_save wsX6_save) := goodIn_app (goodIn_of _ (by decide +kernel)) ggL_law_X6_save
set_option maxRecDepth 20000 in
theorem ggL_law_X5_restore : GoodIn wsL_law wsX5_restore := goodIn_r _ [664, 33, 30, 16, 31, 206, 654, 655, 2, 656, 167, 168, 169, 29, 170, 72, 71, 171, 172, 173, 174, 175, 176, 177, 15, 178, 38, 42, 39, 41, 223, 73, 74, 75, 76, 21, 77, 78, 79, 80, 20, 81, 59, 55, 57, 56, 58, 82, 83, 84, 85, 60, 86, 87, 88, 89, 90, 91, 92, 93, 94, 95, 48, 96, 97, 98, 99, 100, 101, 102, 103, 53, 54, 51, 52, 104, 105, 106, 107, 46, 47, 108, 109, 110, 111, 112, 113, 114, 115, 49, 50, 116, 117, 118, 119, 120, 121, 122, 123, 124, 125, 126, 127, 128, 129, 130, 131, 132, 133, 134, 135, 136, 669, 670, 671, 672, 673, 674, 675, 676, 699, 700, 701, 702, 720, 721, 703, 704, 705, 706, 707, 708, 709, 710, 711, 712, 713, 714, 715, 716, 717] (by decide +kernel) (by decide +kernel)
set_option maxRecDepth 20000 in
theorem gL_law_X5_restore : GoodIn wsL_law (wsV RL 100 RX5 yX5_restore wsX5_restore) := goodIn_app (goodIn_of _ (by decide +kernel)) ggL_law_X5_restore
set_option maxRecDepth 20000 in
theorem ggL_law_X6_restore : GoodIn wsL_law wsX6_restore := goodIn_r _ [668, 145, 144, 141, 191, 192, 5, 193, 194, 195, 196, 197, 198, 143, 199, 200, 201, 286, 287, 288, 289, 677, 678, 679, 680, 681, 682, 683, 684, 685, 686, 687, 688, 689, 690, 691, 692, 693, 694, 695, 696, 697, 698] (by decide +kernel) (by decide +kernel)
set_option maxRecDepth 20000 in
theorem gL_law_X6_restore : GoodIn wsL_law (wsV RL 103 RX6 yX6_restore wsX6_restore) := goodIn_app (goodIn_of _ (by decide +kernel)) ggL_law_X6_restore
theorem dL_law_0 : decode cL_law 0 = .ok (.new 7, 3) := by decide +kernel
theorem dL_law_3 : decode cL_law 3 = .ok (.dup, 1) := by decide +kernel
theorem dL_law_4 : decode cL_law 4 = .ok (.invokespecial 9, 3) := by decide +kernel
theorem dL_law_7 : decode cL_law 7 = .ok (.astore_n 1, 1) := by decide +kernel
theorem dL_law_8 : decode cL_law 8 = .ok (.new 10, 3) := by decide +kernel
theorem dL_law_11 : decode cL_law 11 = .ok (.dup, 1) := by decide +kernel
theorem dL_law_12 : decode cL_law 12 = .ok (.invokespecial 12, 3) := by decide +kernel
theorem dL_law_15 : decode cL_law 15 = .ok (.astore_n 2, 1) := by decide +kernel
theorem dL_law_16 : decode cL_law 16 = .ok (.iconst 0, 1) := by decide +kernel
theorem dL_law_17 : decode cL_law 17 = .ok (.istore_n 3, 1) := by decide +kernel
theorem dL_law_18 : decode cL_law 18 = .ok (.iload_n 3, 1) := by decide +kernel
theorem dL_law_19 : decode cL_law 19 = .ok (.aload_n 0, 1) := by decide +kernel
theorem dL_law_20 : decode cL_law 20 = .ok (.arraylength, 1) := by decide +kernel
theorem dL_law_21 : decode cL_law 21 = .ok (.iconst 3, 1) := by decide +kernel
theorem dL_law_22 : decode cL_law 22 = .ok (.isub, 1) := by decide +kernel
theorem dL_law_23 : decode cL_law 23 = .ok (.if_icmp .gt 644, 3) := by decide +kernel
theorem dL_law_26 : decode cL_law 26 = .ok (.aload_n 0, 1) := by decide +kernel
theorem dL_law_27 : decode cL_law 27 = .ok (.iload_n 3, 1) := by decide +kernel
theorem dL_law_28 : decode cL_law 28 = .ok (.iaload, 1) := by decide +kernel
theorem dL_law_29 : decode cL_law 29 = .ok (.bipush 31, 2) := by decide +kernel
theorem dL_law_31 : decode cL_law 31 = .ok (.iand, 1) := by decide +kernel
theorem dL_law_32 : decode cL_law 32 = .ok (.tableswitch 629 0 20 #[100, 133, 146, 179, 202, 225, 248, 281, 314, 363, 386, 399, 412, 445, 468, 491, 544, 557, 570, 583, 606], 100) := by decide +kernel
theorem dL_law_132 : decode cL_law 132 = .ok (.aload_n 1, 1) := by decide +kernel
theorem dL_law_133 : decode cL_law 133 = .ok (.aload_n 0, 1) := by decide +kernel
theorem dL_law_134 : decode cL_law 134 = .ok (.iload_n 3, 1) := by decide +kernel
theorem dL_law_135 : decode cL_law 135 = .ok (.iconst 1, 1) := by decide +kernel
theorem dL_law_136 : decode cL_law 136 = .ok (.iadd, 1) := by decide +kernel
theorem dL_law_137 : decode cL_law 137 = .ok (.iaload, 1) := by decide +kernel
theorem dL_law_138 : decode cL_law 138 = .ok (.aload_n 0, 1) := by decide +kernel
theorem dL_law_139 : decode cL_law 139 = .ok (.iload_n 3, 1) := by decide +kernel
theorem dL_law_140 : decode cL_law 140 = .ok (.iconst 2, 1) := by decide +kernel
theorem dL_law_141 : decode cL_law 141 = .ok (.iadd, 1) := by decide +kernel
theorem dL_law_142 : decode cL_law 142 = .ok (.iaload, 1) := by decide +kernel
theorem dL_law_143 : decode cL_law 143 = .ok (.invokevirtual 13, 3) := by decide +kernel
theorem dL_law_146 : decode cL_law 146 = .ok (.aload_n 2, 1) := by decide +kernel
theorem dL_law_147 : decode cL_law 147 = .ok (.aload_n 0, 1) := by decide +kernel
theorem dL_law_148 : decode cL_law 148 = .ok (.iload_n 3, 1) := by decide +kernel
theorem dL_law_149 : decode cL_law 149 = .ok (.iconst 1, 1) := by decide +kernel
theorem dL_law_150 : decode cL_law 150 = .ok (.iadd, 1) := by decide +kernel
theorem dL_law_151 : decode cL_law 151 = .ok (.iaload, 1) := by decide +kernel
theorem dL_law_152 : decode cL_law 152 = .ok (.aload_n 0, 1) := by decide +kernel
theorem dL_law_153 : decode cL_law 153 = .ok (.iload_n 3, 1) := by decide +kernel
theorem dL_law_154 : decode cL_law 154 = .ok (.iconst 2, 1) := by decide +kernel
theorem dL_law_155 : decode cL_law 155 = .ok (.iadd, 1) := by decide +kernel
theorem dL_law_156 : decode cL_law 156 = .ok (.iaload, 1) := by decide +kernel
theorem dL_law_157 : decode cL_law 157 = .ok (.invokevirtual 17, 3) := by decide +kernel
theorem dL_law_160 : decode cL_law 160 = .ok (.if_icmp .eq 501, 3) := by decide +kernel
theorem dL_law_163 : decode cL_law 163 = .ok (.iconst 0, 1) := by decide +kernel
theorem dL_law_164 : decode cL_law 164 = .ok (.ireturn, 1) := by decide +kernel
theorem dL_law_165 : decode cL_law 165 = .ok (.aload_n 1, 1) := by decide +kernel
theorem dL_law_166 : decode cL_law 166 = .ok (.invokevirtual 18, 3) := by decide +kernel
theorem dL_law_169 : decode cL_law 169 = .ok (.aload_n 2, 1) := by decide +kernel
theorem dL_law_170 : decode cL_law 170 = .ok (.invokevirtual 22, 3) := by decide +kernel
theorem dL_law_173 : decode cL_law 173 = .ok (.if_icmp .eq 488, 3) := by decide +kernel
theorem dL_law_176 : decode cL_law 176 = .ok (.iconst 0, 1) := by decide +kernel
theorem dL_law_177 : decode cL_law 177 = .ok (.ireturn, 1) := by decide +kernel
theorem dL_law_178 : decode cL_law 178 = .ok (.aload_n 1, 1) := by decide +kernel
theorem dL_law_179 : decode cL_law 179 = .ok (.aload_n 0, 1) := by decide +kernel
theorem dL_law_180 : decode cL_law 180 = .ok (.iload_n 3, 1) := by decide +kernel
theorem dL_law_181 : decode cL_law 181 = .ok (.iconst 1, 1) := by decide +kernel
theorem dL_law_182 : decode cL_law 182 = .ok (.iadd, 1) := by decide +kernel
theorem dL_law_183 : decode cL_law 183 = .ok (.iaload, 1) := by decide +kernel
theorem dL_law_184 : decode cL_law 184 = .ok (.aload_n 0, 1) := by decide +kernel
theorem dL_law_185 : decode cL_law 185 = .ok (.iload_n 3, 1) := by decide +kernel
theorem dL_law_186 : decode cL_law 186 = .ok (.iconst 2, 1) := by decide +kernel
theorem dL_law_187 : decode cL_law 187 = .ok (.iadd, 1) := by decide +kernel
theorem dL_law_188 : decode cL_law 188 = .ok (.iaload, 1) := by decide +kernel
theorem dL_law_189 : decode cL_law 189 = .ok (.invokevirtual 23, 3) := by decide +kernel
theorem dL_law_192 : decode cL_law 192 = .ok (.aload_n 2, 1) := by decide +kernel
theorem dL_law_193 : decode cL_law 193 = .ok (.aload_n 0, 1) := by decide +kernel
theorem dL_law_194 : decode cL_law 194 = .ok (.iload_n 3, 1) := by decide +kernel
theorem dL_law_195 : decode cL_law 195 = .ok (.iconst 1, 1) := by decide +kernel
theorem dL_law_196 : decode cL_law 196 = .ok (.iadd, 1) := by decide +kernel
theorem dL_law_197 : decode cL_law 197 = .ok (.iaload, 1) := by decide +kernel
theorem dL_law_198 : decode cL_law 198 = .ok (.aload_n 0, 1) := by decide +kernel
theorem dL_law_199 : decode cL_law 199 = .ok (.iload_n 3, 1) := by decide +kernel
theorem dL_law_200 : decode cL_law 200 = .ok (.iconst 2, 1) := by decide +kernel
theorem dL_law_201 : decode cL_law 201 = .ok (.iadd, 1) := by decide +kernel
theorem dL_law_202 : decode cL_law 202 = .ok (.iaload, 1) := by decide +kernel
theorem dL_law_203 : decode cL_law 203 = .ok (.invokevirtual 26, 3) := by decide +kernel
theorem dL_law_206 : decode cL_law 206 = .ok (.if_icmp .eq 455, 3) := by decide +kernel
theorem dL_law_209 : decode cL_law 209 = .ok (.iconst 0, 1) := by decide +kernel
theorem dL_law_210 : decode cL_law 210 = .ok (.ireturn, 1) := by decide +kernel
theorem dL_law_211 : decode cL_law 211 = .ok (.aload_n 1, 1) := by decide +kernel
theorem dL_law_212 : decode cL_law 212 = .ok (.aload_n 0, 1) := by decide +kernel
theorem dL_law_213 : decode cL_law 213 = .ok (.iload_n 3, 1) := by decide +kernel
theorem dL_law_214 : decode cL_law 214 = .ok (.iconst 1, 1) := by decide +kernel
theorem dL_law_215 : decode cL_law 215 = .ok (.iadd, 1) := by decide +kernel
theorem dL_law_216 : decode cL_law 216 = .ok (.iaload, 1) := by decide +kernel
theorem dL_law_217 : decode cL_law 217 = .ok (.invokevirtual 27, 3) := by decide +kernel
theorem dL_law_220 : decode cL_law 220 = .ok (.aload_n 2, 1) := by decide +kernel
theorem dL_law_221 : decode cL_law 221 = .ok (.aload_n 0, 1) := by decide +kernel
theorem dL_law_222 : decode cL_law 222 = .ok (.iload_n 3, 1) := by decide +kernel
theorem dL_law_223 : decode cL_law 223 = .ok (.iconst 1, 1) := by decide +kernel
theorem dL_law_224 : decode cL_law 224 = .ok (.iadd, 1) := by decide +kernel
theorem dL_law_225 : decode cL_law 225 = .ok (.iaload, 1) := by decide +kernel
theorem dL_law_226 : decode cL_law 226 = .ok (.invokevirtual 31, 3) := by decide +kernel
theorem dL_law_229 : decode cL_law 229 = .ok (.if_icmp .eq 432, 3) := by decide +kernel
theorem dL_law_232 : decode cL_law 232 = .ok (.iconst 0, 1) := by decide +kernel
theorem dL_law_233 : decode cL_law 233 = .ok (.ireturn, 1) := by decide +kernel
theorem dL_law_234 : decode cL_law 234 = .ok (.aload_n 1, 1) := by decide +kernel
theorem dL_law_235 : decode cL_law 235 = .ok (.aload_n 0, 1) := by decide +kernel
theorem dL_law_236 : decode cL_law 236 = .ok (.iload_n 3, 1) := by decide +kernel
theorem dL_law_237 : decode cL_law 237 = .ok (.iconst 1, 1) := by decide +kernel
theorem dL_law_238 : decode cL_law 238 = .ok (.iadd, 1) := by decide +kernel
theorem dL_law_239 : decode cL_law 239 = .ok (.iaload, 1) := by decide +kernel
theorem dL_law_240 : decode cL_law 240 = .ok (.invokevirtual 32, 3) := by decide +kernel
theorem dL_law_243 : decode cL_law 243 = .ok (.aload_n 2, 1) := by decide +kernel
theorem dL_law_244 : decode cL_law 244 = .ok (.aload_n 0, 1) := by decide +kernel
theorem dL_law_245 : decode cL_law 245 = .ok (.iload_n 3, 1) := by decide +kernel
theorem dL_law_246 : decode cL_law 246 = .ok (.iconst 1, 1) := by decide +kernel
theorem dL_law_247 : decode cL_law 247 = .ok (.iadd, 1) := by decide +kernel
theorem dL_law_248 : decode cL_law 248 = .ok (.iaload, 1) := by decide +kernel
theorem dL_law_249 : decode cL_law 249 = .ok (.invokevirtual 35, 3) := by decide +kernel
theorem dL_law_252 : decode cL_law 252 = .ok (.if_icmp .eq 409, 3) := by decide +kernel
theorem dL_law_255 : decode cL_law 255 = .ok (.iconst 0, 1) := by decide +kernel
theorem dL_law_256 : decode cL_law 256 = .ok (.ireturn, 1) := by decide +kernel
theorem dL_law_257 : decode cL_law 257 = .ok (.aload_n 1, 1) := by decide +kernel
theorem dL_law_258 : decode cL_law 258 = .ok (.aload_n 0, 1) := by decide +kernel
theorem dL_law_259 : decode cL_law 259 = .ok (.iload_n 3, 1) := by decide +kernel
theorem dL_law_260 : decode cL_law 260 = .ok (.iconst 1, 1) := by decide +kernel
theorem dL_law_261 : decode cL_law 261 = .ok (.iadd, 1) := by decide +kernel
theorem dL_law_262 : decode cL_law 262 = .ok (.iaload, 1) := by decide +kernel
theorem dL_law_263 : decode cL_law 263 = .ok (.invokevirtual 36, 3) := by decide +kernel
theorem dL_law_266 : decode cL_law 266 = .ok (.aload_n 2, 1) := by decide +kernel
theorem dL_law_267 : decode cL_law 267 = .ok (.aload_n 0, 1) := by decide +kernel
theorem dL_law_268 : decode cL_law 268 = .ok (.iload_n 3, 1) := by decide +kernel
theorem dL_law_269 : decode cL_law 269 = .ok (.iconst 1, 1) := by decide +kernel
theorem dL_law_270 : decode cL_law 270 = .ok (.iadd, 1) := by decide +kernel
theorem dL_law_271 : decode cL_law 271 = .ok (.iaload, 1) := by decide +kernel
theorem dL_law_272 : decode cL_law 272 = .ok (.invokevirtual 39, 3) := by decide +kernel
theorem dL_law_275 : decode cL_law 275 = .ok (.if_icmp .eq 386, 3) := by decide +kernel
theorem dL_law_278 : decode cL_law 278 = .ok (.iconst 0, 1) := by decide +kernel
theorem dL_law_279 : decode cL_law 279 = .ok (.ireturn, 1) := by decide +kernel
theorem dL_law_280 : decode cL_law 280 = .ok (.aload_n 1, 1) := by decide +kernel
theorem dL_law_281 : decode cL_law 281 = .ok (.aload_n 0, 1) := by decide +kernel
theorem dL_law_282 : decode cL_law 282 = .ok (.iload_n 3, 1) := by decide +kernel
theorem dL_law_283 : decode cL_law 283 = .ok (.iconst 1, 1) := by decide +kernel
theorem dL_law_284 : decode cL_law 284 = .ok (.iadd, 1) := by decide +kernel
theorem dL_law_285 : decode cL_law 285 = .ok (.iaload, 1) := by decide +kernel
theorem dL_law_286 : decode cL_law 286 = .ok (.aload_n 0, 1) := by decide +kernel
theorem dL_law_287 : decode cL_law 287 = .ok (.iload_n 3, 1) := by decide +kernel
theorem dL_law_288 : decode cL_law 288 = .ok (.iconst 2, 1) := by decide +kernel
theorem dL_law_289 : decode cL_law 289 = .ok (.iadd, 1) := by decide +kernel
theorem dL_law_290 : decode cL_law 290 = .ok (.iaload, 1) := by decide +kernel
theorem dL_law_291 : decode cL_law 291 = .ok (.invokevirtual 40, 3) := by decide +kernel
theorem dL_law_294 : decode cL_law 294 = .ok (.aload_n 2, 1) := by decide +kernel
theorem dL_law_295 : decode cL_law 295 = .ok (.aload_n 0, 1) := by decide +kernel
theorem dL_law_296 : decode cL_law 296 = .ok (.iload_n 3, 1) := by decide +kernel
theorem dL_law_297 : decode cL_law 297 = .ok (.iconst 1, 1) := by decide +kernel
theorem dL_law_298 : decode cL_law 298 = .ok (.iadd, 1) := by decide +kernel
theorem dL_law_299 : decode cL_law 299 = .ok (.iaload, 1) := by decide +kernel
theorem dL_law_300 : decode cL_law 300 = .ok (.aload_n 0, 1) := by decide +kernel
theorem dL_law_301 : decode cL_law 301 = .ok (.iload_n 3, 1) := by decide +kernel
theorem dL_law_302 : decode cL_law 302 = .ok (.iconst 2, 1) := by decide +kernel
theorem dL_law_303 : decode cL_law 303 = .ok (.iadd, 1) := by decide +kernel
theorem dL_law_304 : decode cL_law 304 = .ok (.iaload, 1) := by decide +kernel
theorem dL_law_305 : decode cL_law 305 = .ok (.invokevirtual 43, 3) := by decide +kernel
theorem dL_law_308 : decode cL_law 308 = .ok (.if_icmp .eq 353, 3) := by decide +kernel
theorem dL_law_311 : decode cL_law 311 = .ok (.iconst 0, 1) := by decide +kernel
theorem dL_law_312 : decode cL_law 312 = .ok (.ireturn, 1) := by decide +kernel
theorem dL_law_313 : decode cL_law 313 = .ok (.aload_n 1, 1) := by decide +kernel
theorem dL_law_314 : decode cL_law 314 = .ok (.aload_n 0, 1) := by decide +kernel
theorem dL_law_315 : decode cL_law 315 = .ok (.iload_n 3, 1) := by decide +kernel
theorem dL_law_316 : decode cL_law 316 = .ok (.iconst 1, 1) := by decide +kernel
theorem dL_law_317 : decode cL_law 317 = .ok (.iadd, 1) := by decide +kernel
theorem dL_law_318 : decode cL_law 318 = .ok (.iaload, 1) := by decide +kernel
theorem dL_law_319 : decode cL_law 319 = .ok (.aload_n 0, 1) := by decide +kernel
theorem dL_law_320 : decode cL_law 320 = .ok (.iload_n 3, 1) := by decide +kernel
theorem dL_law_321 : decode cL_law 321 = .ok (.iconst 2, 1) := by decide +kernel
theorem dL_law_322 : decode cL_law 322 = .ok (.iadd, 1) := by decide +kernel
theorem dL_law_323 : decode cL_law 323 = .ok (.iaload, 1) := by decide +kernel
theorem dL_law_324 : decode cL_law 324 = .ok (.invokevirtual 44, 3) := by decide +kernel
theorem dL_law_327 : decode cL_law 327 = .ok (.aload_n 2, 1) := by decide +kernel
theorem dL_law_328 : decode cL_law 328 = .ok (.aload_n 0, 1) := by decide +kernel
theorem dL_law_329 : decode cL_law 329 = .ok (.iload_n 3, 1) := by decide +kernel
theorem dL_law_330 : decode cL_law 330 = .ok (.iconst 1, 1) := by decide +kernel
theorem dL_law_331 : decode cL_law 331 = .ok (.iadd, 1) := by decide +kernel
theorem dL_law_332 : decode cL_law 332 = .ok (.iaload, 1) := by decide +kernel
theorem dL_law_333 : decode cL_law 333 = .ok (.aload_n 0, 1) := by decide +kernel
theorem dL_law_334 : decode cL_law 334 = .ok (.iload_n 3, 1) := by decide +kernel
theorem dL_law_335 : decode cL_law 335 = .ok (.iconst 2, 1) := by decide +kernel
theorem dL_law_336 : decode cL_law 336 = .ok (.iadd, 1) := by decide +kernel
theorem dL_law_337 : decode cL_law 337 = .ok (.iaload, 1) := by decide +kernel
theorem dL_law_338 : decode cL_law 338 = .ok (.invokevirtual 47, 3) := by decide +kernel
theorem dL_law_341 : decode cL_law 341 = .ok (.if_icmp .eq 320, 3) := by decide +kernel
theorem dL_law_344 : decode cL_law 344 = .ok (.iconst 0, 1) := by decide +kernel
theorem dL_law_345 : decode cL_law 345 = .ok (.ireturn, 1) := by decide +kernel
theorem dL_law_346 : decode cL_law 346 = .ok (.aload_n 1, 1) := by decide +kernel
theorem dL_law_347 : decode cL_law 347 = .ok (.aload_n 0, 1) := by decide +kernel
theorem dL_law_348 : decode cL_law 348 = .ok (.iload_n 3, 1) := by decide +kernel
theorem dL_law_349 : decode cL_law 349 = .ok (.iconst 1, 1) := by decide +kernel
theorem dL_law_350 : decode cL_law 350 = .ok (.iadd, 1) := by decide +kernel
theorem dL_law_351 : decode cL_law 351 = .ok (.iaload, 1) := by decide +kernel
theorem dL_law_352 : decode cL_law 352 = .ok (.aload_n 0, 1) := by decide +kernel
theorem dL_law_353 : decode cL_law 353 = .ok (.iload_n 3, 1) := by decide +kernel
theorem dL_law_354 : decode cL_law 354 = .ok (.iconst 2, 1) := by decide +kernel
theorem dL_law_355 : decode cL_law 355 = .ok (.iadd, 1) := by decide +kernel
theorem dL_law_356 : decode cL_law 356 = .ok (.iaload, 1) := by decide +kernel
theorem dL_law_357 : decode cL_law 357 = .ok (.ifCond .eq 7, 3) := by decide +kernel
theorem dL_law_360 : decode cL_law 360 = .ok (.iconst 1, 1) := by decide +kernel
theorem dL_law_361 : decode cL_law 361 = .ok (.goto 4, 3) := by decide +kernel
theorem dL_law_364 : decode cL_law 364 = .ok (.iconst 0, 1) := by decide +kernel
theorem dL_law_365 : decode cL_law 365 = .ok (.invokevirtual 48, 3) := by decide +kernel
theorem dL_law_368 : decode cL_law 368 = .ok (.aload_n 2, 1) := by decide +kernel
theorem dL_law_369 : decode cL_law 369 = .ok (.aload_n 0, 1) := by decide +kernel
theorem dL_law_370 : decode cL_law 370 = .ok (.iload_n 3, 1) := by decide +kernel
theorem dL_law_371 : decode cL_law 371 = .ok (.iconst 1, 1) := by decide +kernel
theorem dL_law_372 : decode cL_law 372 = .ok (.iadd, 1) := by decide +kernel
theorem dL_law_373 : decode cL_law 373 = .ok (.iaload, 1) := by decide +kernel
theorem dL_law_374 : decode cL_law 374 = .ok (.aload_n 0, 1) := by decide +kernel
theorem dL_law_375 : decode cL_law 375 = .ok (.iload_n 3, 1) := by decide +kernel
theorem dL_law_376 : decode cL_law 376 = .ok (.iconst 2, 1) := by decide +kernel
theorem dL_law_377 : decode cL_law 377 = .ok (.iadd, 1) := by decide +kernel
theorem dL_law_378 : decode cL_law 378 = .ok (.iaload, 1) := by decide +kernel
theorem dL_law_379 : decode cL_law 379 = .ok (.ifCond .eq 7, 3) := by decide +kernel
theorem dL_law_382 : decode cL_law 382 = .ok (.iconst 1, 1) := by decide +kernel
theorem dL_law_383 : decode cL_law 383 = .ok (.goto 4, 3) := by decide +kernel
theorem dL_law_386 : decode cL_law 386 = .ok (.iconst 0, 1) := by decide +kernel
theorem dL_law_387 : decode cL_law 387 = .ok (.invokevirtual 52, 3) := by decide +kernel
theorem dL_law_390 : decode cL_law 390 = .ok (.if_icmp .eq 271, 3) := by decide +kernel
theorem dL_law_393 : decode cL_law 393 = .ok (.iconst 0, 1) := by decide +kernel
theorem dL_law_394 : decode cL_law 394 = .ok (.ireturn, 1) := by decide +kernel
theorem dL_law_395 : decode cL_law 395 = .ok (.aload_n 1, 1) := by decide +kernel
theorem dL_law_396 : decode cL_law 396 = .ok (.aload_n 0, 1) := by decide +kernel
theorem dL_law_397 : decode cL_law 397 = .ok (.iload_n 3, 1) := by decide +kernel
theorem dL_law_398 : decode cL_law 398 = .ok (.iconst 1, 1) := by decide +kernel
theorem dL_law_399 : decode cL_law 399 = .ok (.iadd, 1) := by decide +kernel
theorem dL_law_400 : decode cL_law 400 = .ok (.iaload, 1) := by decide +kernel
theorem dL_law_401 : decode cL_law 401 = .ok (.invokevirtual 53, 3) := by decide +kernel
theorem dL_law_404 : decode cL_law 404 = .ok (.aload_n 2, 1) := by decide +kernel
theorem dL_law_405 : decode cL_law 405 = .ok (.aload_n 0, 1) := by decide +kernel
theorem dL_law_406 : decode cL_law 406 = .ok (.iload_n 3, 1) := by decide +kernel
theorem dL_law_407 : decode cL_law 407 = .ok (.iconst 1, 1) := by decide +kernel
theorem dL_law_408 : decode cL_law 408 = .ok (.iadd, 1) := by decide +kernel
theorem dL_law_409 : decode cL_law 409 = .ok (.iaload, 1) := by decide +kernel
theorem dL_law_410 : decode cL_law 410 = .ok (.invokevirtual 56, 3) := by decide +kernel
theorem dL_law_413 : decode cL_law 413 = .ok (.if_icmp .eq 248, 3) := by decide +kernel
theorem dL_law_416 : decode cL_law 416 = .ok (.iconst 0, 1) := by decide +kernel
theorem dL_law_417 : decode cL_law 417 = .ok (.ireturn, 1) := by decide +kernel
theorem dL_law_418 : decode cL_law 418 = .ok (.aload_n 1, 1) := by decide +kernel
theorem dL_law_419 : decode cL_law 419 = .ok (.invokevirtual 57, 3) := by decide +kernel
theorem dL_law_422 : decode cL_law 422 = .ok (.aload_n 2, 1) := by decide +kernel
theorem dL_law_423 : decode cL_law 423 = .ok (.invokevirtual 60, 3) := by decide +kernel
theorem dL_law_426 : decode cL_law 426 = .ok (.if_icmp .eq 235, 3) := by decide +kernel
theorem dL_law_429 : decode cL_law 429 = .ok (.iconst 0, 1) := by decide +kernel
theorem dL_law_430 : decode cL_law 430 = .ok (.ireturn, 1) := by decide +kernel
theorem dL_law_431 : decode cL_law 431 = .ok (.aload_n 1, 1) := by decide +kernel
theorem dL_law_432 : decode cL_law 432 = .ok (.invokevirtual 61, 3) := by decide +kernel
theorem dL_law_435 : decode cL_law 435 = .ok (.aload_n 2, 1) := by decide +kernel
theorem dL_law_436 : decode cL_law 436 = .ok (.invokevirtual 64, 3) := by decide +kernel
theorem dL_law_439 : decode cL_law 439 = .ok (.if_icmp .eq 222, 3) := by decide +kernel
theorem dL_law_442 : decode cL_law 442 = .ok (.iconst 0, 1) := by decide +kernel
theorem dL_law_443 : decode cL_law 443 = .ok (.ireturn, 1) := by decide +kernel
theorem dL_law_444 : decode cL_law 444 = .ok (.aload_n 1, 1) := by decide +kernel
theorem dL_law_445 : decode cL_law 445 = .ok (.aload_n 0, 1) := by decide +kernel
theorem dL_law_446 : decode cL_law 446 = .ok (.iload_n 3, 1) := by decide +kernel
theorem dL_law_447 : decode cL_law 447 = .ok (.iconst 1, 1) := by decide +kernel
theorem dL_law_448 : decode cL_law 448 = .ok (.iadd, 1) := by decide +kernel
theorem dL_law_449 : decode cL_law 449 = .ok (.iaload, 1) := by decide +kernel
theorem dL_law_450 : decode cL_law 450 = .ok (.aload_n 0, 1) := by decide +kernel
theorem dL_law_451 : decode cL_law 451 = .ok (.iload_n 3, 1) := by decide +kernel
theorem dL_law_452 : decode cL_law 452 = .ok (.iconst 2, 1) := by decide +kernel
theorem dL_law_453 : decode cL_law 453 = .ok (.iadd, 1) := by decide +kernel
theorem dL_law_454 : decode cL_law 454 = .ok (.iaload, 1) := by decide +kernel
theorem dL_law_455 : decode cL_law 455 = .ok (.invokevirtual 65, 3) := by decide +kernel
theorem dL_law_458 : decode cL_law 458 = .ok (.aload_n 2, 1) := by decide +kernel
theorem dL_law_459 : decode cL_law 459 = .ok (.aload_n 0, 1) := by decide +kernel
theorem dL_law_460 : decode cL_law 460 = .ok (.iload_n 3, 1) := by decide +kernel
theorem dL_law_461 : decode cL_law 461 = .ok (.iconst 1, 1) := by decide +kernel
theorem dL_law_462 : decode cL_law 462 = .ok (.iadd, 1) := by decide +kernel
theorem dL_law_463 : decode cL_law 463 = .ok (.iaload, 1) := by decide +kernel
theorem dL_law_464 : decode cL_law 464 = .ok (.aload_n 0, 1) := by decide +kernel
theorem dL_law_465 : decode cL_law 465 = .ok (.iload_n 3, 1) := by decide +kernel
theorem dL_law_466 : decode cL_law 466 = .ok (.iconst 2, 1) := by decide +kernel
theorem dL_law_467 : decode cL_law 467 = .ok (.iadd, 1) := by decide +kernel
theorem dL_law_468 : decode cL_law 468 = .ok (.iaload, 1) := by decide +kernel
theorem dL_law_469 : decode cL_law 469 = .ok (.invokevirtual 68, 3) := by decide +kernel
theorem dL_law_472 : decode cL_law 472 = .ok (.if_icmp .eq 189, 3) := by decide +kernel
theorem dL_law_475 : decode cL_law 475 = .ok (.iconst 0, 1) := by decide +kernel
theorem dL_law_476 : decode cL_law 476 = .ok (.ireturn, 1) := by decide +kernel
theorem dL_law_477 : decode cL_law 477 = .ok (.aload_n 1, 1) := by decide +kernel
theorem dL_law_478 : decode cL_law 478 = .ok (.aload_n 0, 1) := by decide +kernel
theorem dL_law_479 : decode cL_law 479 = .ok (.iload_n 3, 1) := by decide +kernel
theorem dL_law_480 : decode cL_law 480 = .ok (.iconst 1, 1) := by decide +kernel
theorem dL_law_481 : decode cL_law 481 = .ok (.iadd, 1) := by decide +kernel
theorem dL_law_482 : decode cL_law 482 = .ok (.iaload, 1) := by decide +kernel
theorem dL_law_483 : decode cL_law 483 = .ok (.invokevirtual 69, 3) := by decide +kernel
theorem dL_law_486 : decode cL_law 486 = .ok (.aload_n 2, 1) := by decide +kernel
theorem dL_law_487 : decode cL_law 487 = .ok (.aload_n 0, 1) := by decide +kernel
theorem dL_law_488 : decode cL_law 488 = .ok (.iload_n 3, 1) := by decide +kernel
theorem dL_law_489 : decode cL_law 489 = .ok (.iconst 1, 1) := by decide +kernel
theorem dL_law_490 : decode cL_law 490 = .ok (.iadd, 1) := by decide +kernel
theorem dL_law_491 : decode cL_law 491 = .ok (.iaload, 1) := by decide +kernel
theorem dL_law_492 : decode cL_law 492 = .ok (.invokevirtual 72, 3) := by decide +kernel
theorem dL_law_495 : decode cL_law 495 = .ok (.if_icmp .eq 166, 3) := by decide +kernel
theorem dL_law_498 : decode cL_law 498 = .ok (.iconst 0, 1) := by decide +kernel
theorem dL_law_499 : decode cL_law 499 = .ok (.ireturn, 1) := by decide +kernel
theorem dL_law_500 : decode cL_law 500 = .ok (.aload_n 1, 1) := by decide +kernel
theorem dL_law_501 : decode cL_law 501 = .ok (.aload_n 0, 1) := by decide +kernel
theorem dL_law_502 : decode cL_law 502 = .ok (.iload_n 3, 1) := by decide +kernel
theorem dL_law_503 : decode cL_law 503 = .ok (.iconst 1, 1) := by decide +kernel
theorem dL_law_504 : decode cL_law 504 = .ok (.iadd, 1) := by decide +kernel
theorem dL_law_505 : decode cL_law 505 = .ok (.iaload, 1) := by decide +kernel
theorem dL_law_506 : decode cL_law 506 = .ok (.invokevirtual 73, 3) := by decide +kernel
theorem dL_law_509 : decode cL_law 509 = .ok (.aload_n 2, 1) := by decide +kernel
theorem dL_law_510 : decode cL_law 510 = .ok (.aload_n 0, 1) := by decide +kernel
theorem dL_law_511 : decode cL_law 511 = .ok (.iload_n 3, 1) := by decide +kernel
theorem dL_law_512 : decode cL_law 512 = .ok (.iconst 1, 1) := by decide +kernel
theorem dL_law_513 : decode cL_law 513 = .ok (.iadd, 1) := by decide +kernel
theorem dL_law_514 : decode cL_law 514 = .ok (.iaload, 1) := by decide +kernel
theorem dL_law_515 : decode cL_law 515 = .ok (.invokevirtual 76, 3) := by decide +kernel
theorem dL_law_518 : decode cL_law 518 = .ok (.if_icmp .eq 143, 3) := by decide +kernel
theorem dL_law_521 : decode cL_law 521 = .ok (.iconst 0, 1) := by decide +kernel
theorem dL_law_522 : decode cL_law 522 = .ok (.ireturn, 1) := by decide +kernel
theorem dL_law_523 : decode cL_law 523 = .ok (.aload_n 1, 1) := by decide +kernel
theorem dL_law_524 : decode cL_law 524 = .ok (.aload_n 0, 1) := by decide +kernel
theorem dL_law_525 : decode cL_law 525 = .ok (.iload_n 3, 1) := by decide +kernel
theorem dL_law_526 : decode cL_law 526 = .ok (.iconst 1, 1) := by decide +kernel
theorem dL_law_527 : decode cL_law 527 = .ok (.iadd, 1) := by decide +kernel
theorem dL_law_528 : decode cL_law 528 = .ok (.iaload, 1) := by decide +kernel
theorem dL_law_529 : decode cL_law 529 = .ok (.i2l, 1) := by decide +kernel
theorem dL_law_530 : decode cL_law 530 = .ok (.bipush 32, 2) := by decide +kernel
theorem dL_law_532 : decode cL_law 532 = .ok (.lshl, 1) := by decide +kernel
theorem dL_law_533 : decode cL_law 533 = .ok (.aload_n 0, 1) := by decide +kernel
theorem dL_law_534 : decode cL_law 534 = .ok (.iload_n 3, 1) := by decide +kernel
theorem dL_law_535 : decode cL_law 535 = .ok (.iconst 2, 1) := by decide +kernel
theorem dL_law_536 : decode cL_law 536 = .ok (.iadd, 1) := by decide +kernel
theorem dL_law_537 : decode cL_law 537 = .ok (.iaload, 1) := by decide +kernel
theorem dL_law_538 : decode cL_law 538 = .ok (.i2l, 1) := by decide +kernel
theorem dL_law_539 : decode cL_law 539 = .ok (.ldc2_w 77, 3) := by decide +kernel
theorem dL_law_542 : decode cL_law 542 = .ok (.land, 1) := by decide +kernel
theorem dL_law_543 : decode cL_law 543 = .ok (.lor, 1) := by decide +kernel
theorem dL_law_544 : decode cL_law 544 = .ok (.invokevirtual 79, 3) := by decide +kernel
theorem dL_law_547 : decode cL_law 547 = .ok (.aload_n 2, 1) := by decide +kernel
theorem dL_law_548 : decode cL_law 548 = .ok (.aload_n 0, 1) := by decide +kernel
theorem dL_law_549 : decode cL_law 549 = .ok (.iload_n 3, 1) := by decide +kernel
theorem dL_law_550 : decode cL_law 550 = .ok (.iconst 1, 1) := by decide +kernel
theorem dL_law_551 : decode cL_law 551 = .ok (.iadd, 1) := by decide +kernel
theorem dL_law_552 : decode cL_law 552 = .ok (.iaload, 1) := by decide +kernel
theorem dL_law_553 : decode cL_law 553 = .ok (.i2l, 1) := by decide +kernel
theorem dL_law_554 : decode cL_law 554 = .ok (.bipush 32, 2) := by decide +kernel
theorem dL_law_556 : decode cL_law 556 = .ok (.lshl, 1) := by decide +kernel
theorem dL_law_557 : decode cL_law 557 = .ok (.aload_n 0, 1) := by decide +kernel
theorem dL_law_558 : decode cL_law 558 = .ok (.iload_n 3, 1) := by decide +kernel
theorem dL_law_559 : decode cL_law 559 = .ok (.iconst 2, 1) := by decide +kernel
theorem dL_law_560 : decode cL_law 560 = .ok (.iadd, 1) := by decide +kernel
theorem dL_law_561 : decode cL_law 561 = .ok (.iaload, 1) := by decide +kernel
theorem dL_law_562 : decode cL_law 562 = .ok (.i2l, 1) := by decide +kernel
theorem dL_law_563 : decode cL_law 563 = .ok (.ldc2_w 77, 3) := by decide +kernel
theorem dL_law_566 : decode cL_law 566 = .ok (.land, 1) := by decide +kernel
theorem dL_law_567 : decode cL_law 567 = .ok (.lor, 1) := by decide +kernel
theorem dL_law_568 : decode cL_law 568 = .ok (.invokevirtual 83, 3) := by decide +kernel
theorem dL_law_571 : decode cL_law 571 = .ok (.if_icmp .eq 90, 3) := by decide +kernel
theorem dL_law_574 : decode cL_law 574 = .ok (.iconst 0, 1) := by decide +kernel
theorem dL_law_575 : decode cL_law 575 = .ok (.ireturn, 1) := by decide +kernel
theorem dL_law_576 : decode cL_law 576 = .ok (.aload_n 1, 1) := by decide +kernel
theorem dL_law_577 : decode cL_law 577 = .ok (.invokevirtual 84, 3) := by decide +kernel
theorem dL_law_580 : decode cL_law 580 = .ok (.aload_n 2, 1) := by decide +kernel
theorem dL_law_581 : decode cL_law 581 = .ok (.invokevirtual 87, 3) := by decide +kernel
theorem dL_law_584 : decode cL_law 584 = .ok (.if_icmp .eq 77, 3) := by decide +kernel
theorem dL_law_587 : decode cL_law 587 = .ok (.iconst 0, 1) := by decide +kernel
theorem dL_law_588 : decode cL_law 588 = .ok (.ireturn, 1) := by decide +kernel
theorem dL_law_589 : decode cL_law 589 = .ok (.aload_n 1, 1) := by decide +kernel
theorem dL_law_590 : decode cL_law 590 = .ok (.invokevirtual 88, 3) := by decide +kernel
theorem dL_law_593 : decode cL_law 593 = .ok (.aload_n 2, 1) := by decide +kernel
theorem dL_law_594 : decode cL_law 594 = .ok (.invokevirtual 91, 3) := by decide +kernel
theorem dL_law_597 : decode cL_law 597 = .ok (.if_icmp .eq 64, 3) := by decide +kernel
theorem dL_law_600 : decode cL_law 600 = .ok (.iconst 0, 1) := by decide +kernel
theorem dL_law_601 : decode cL_law 601 = .ok (.ireturn, 1) := by decide +kernel
theorem dL_law_602 : decode cL_law 602 = .ok (.aload_n 1, 1) := by decide +kernel
theorem dL_law_603 : decode cL_law 603 = .ok (.invokevirtual 92, 3) := by decide +kernel
theorem dL_law_606 : decode cL_law 606 = .ok (.aload_n 2, 1) := by decide +kernel
theorem dL_law_607 : decode cL_law 607 = .ok (.invokevirtual 95, 3) := by decide +kernel
theorem dL_law_610 : decode cL_law 610 = .ok (.if_icmp .eq 51, 3) := by decide +kernel
theorem dL_law_613 : decode cL_law 613 = .ok (.iconst 0, 1) := by decide +kernel
theorem dL_law_614 : decode cL_law 614 = .ok (.ireturn, 1) := by decide +kernel

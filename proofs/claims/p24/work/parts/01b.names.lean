theorem dX0_init_0 : decode cX0_init 0 = .ok (.aload_n 0, 1) := by decide +kernel
theorem dX0_init_1 : decode cX0_init 1 = .ok (.invokespecial 3, 3) := by decide +kernel
theorem dX0_init_4 : decode cX0_init 4 = .ok (.aload_n 0, 1) := by decide +kernel
theorem dX0_init_5 : decode cX0_init 5 = .ok (.bipush 30, 2) := by decide +kernel
theorem dX0_init_7 : decode cX0_init 7 = .ok (.newarray .int, 2) := by decide +kernel
theorem dX0_init_9 : decode cX0_init 9 = .ok (.putfield 9, 3) := by decide +kernel
theorem dX0_init_12 : decode cX0_init 12 = .ok (.aload_n 0, 1) := by decide +kernel
theorem dX0_init_13 : decode cX0_init 13 = .ok (.bipush 30, 2) := by decide +kernel
theorem dX0_init_15 : decode cX0_init 15 = .ok (.newarray .int, 2) := by decide +kernel
theorem dX0_init_17 : decode cX0_init 17 = .ok (.putfield 15, 3) := by decide +kernel
theorem dX0_init_20 : decode cX0_init 20 = .ok (.aload_n 0, 1) := by decide +kernel
theorem dX0_init_21 : decode cX0_init 21 = .ok (.bipush 30, 2) := by decide +kernel
theorem dX0_init_23 : decode cX0_init 23 = .ok (.newarray .int, 2) := by decide +kernel
theorem dX0_init_25 : decode cX0_init 25 = .ok (.putfield 18, 3) := by decide +kernel
theorem dX0_init_28 : decode cX0_init 28 = .ok (.aload_n 0, 1) := by decide +kernel
theorem dX0_init_29 : decode cX0_init 29 = .ok (.sipush 300, 3) := by decide +kernel
theorem dX0_init_32 : decode cX0_init 32 = .ok (.newarray .int, 2) := by decide +kernel
theorem dX0_init_34 : decode cX0_init 34 = .ok (.putfield 21, 3) := by decide +kernel
theorem dX0_init_37 : decode cX0_init 37 = .ok (.aload_n 0, 1) := by decide +kernel
theorem dX0_init_38 : decode cX0_init 38 = .ok (.sipush 300, 3) := by decide +kernel
theorem dX0_init_41 : decode cX0_init 41 = .ok (.newarray .int, 2) := by decide +kernel
theorem dX0_init_43 : decode cX0_init 43 = .ok (.putfield 24, 3) := by decide +kernel
theorem dX0_init_46 : decode cX0_init 46 = .ok (.aload_n 0, 1) := by decide +kernel
theorem dX0_init_47 : decode cX0_init 47 = .ok (.sipush 300, 3) := by decide +kernel
theorem dX0_init_50 : decode cX0_init 50 = .ok (.newarray .int, 2) := by decide +kernel
theorem dX0_init_52 : decode cX0_init 52 = .ok (.putfield 27, 3) := by decide +kernel
theorem dX0_init_55 : decode cX0_init 55 = .ok (.aload_n 0, 1) := by decide +kernel
theorem dX0_init_56 : decode cX0_init 56 = .ok (.sipush 300, 3) := by decide +kernel
theorem dX0_init_59 : decode cX0_init 59 = .ok (.newarray .int, 2) := by decide +kernel
theorem dX0_init_61 : decode cX0_init 61 = .ok (.putfield 30, 3) := by decide +kernel
theorem dX0_init_64 : decode cX0_init 64 = .ok (.aload_n 0, 1) := by decide +kernel
theorem dX0_init_65 : decode cX0_init 65 = .ok (.sipush 300, 3) := by decide +kernel
theorem dX0_init_68 : decode cX0_init 68 = .ok (.newarray .int, 2) := by decide +kernel
theorem dX0_init_70 : decode cX0_init 70 = .ok (.putfield 33, 3) := by decide +kernel
theorem dX0_init_73 : decode cX0_init 73 = .ok (.aload_n 0, 1) := by decide +kernel
theorem dX0_init_74 : decode cX0_init 74 = .ok (.sipush 300, 3) := by decide +kernel
theorem dX0_init_77 : decode cX0_init 77 = .ok (.newarray .int, 2) := by decide +kernel
theorem dX0_init_79 : decode cX0_init 79 = .ok (.putfield 36, 3) := by decide +kernel
theorem dX0_init_82 : decode cX0_init 82 = .ok (.aload_n 0, 1) := by decide +kernel
theorem dX0_init_83 : decode cX0_init 83 = .ok (.iconst 0, 1) := by decide +kernel
theorem dX0_init_84 : decode cX0_init 84 = .ok (.putfield 39, 3) := by decide +kernel
theorem dX0_init_87 : decode cX0_init 87 = .ok (.aload_n 0, 1) := by decide +kernel
theorem dX0_init_88 : decode cX0_init 88 = .ok (.iconst 0, 1) := by decide +kernel
theorem dX0_init_89 : decode cX0_init 89 = .ok (.putfield 43, 3) := by decide +kernel
theorem dX0_init_92 : decode cX0_init 92 = .ok (.aload_n 0, 1) := by decide +kernel
theorem dX0_init_93 : decode cX0_init 93 = .ok (.iconst 0, 1) := by decide +kernel
theorem dX0_init_94 : decode cX0_init 94 = .ok (.putfield 46, 3) := by decide +kernel
theorem dX0_init_97 : decode cX0_init 97 = .ok (.aload_n 0, 1) := by decide +kernel
theorem dX0_init_98 : decode cX0_init 98 = .ok (.iconst 0, 1) := by decide +kernel
theorem dX0_init_99 : decode cX0_init 99 = .ok (.putfield 50, 3) := by decide +kernel
theorem dX0_init_102 : decode cX0_init 102 = .ok (.aload_n 0, 1) := by decide +kernel
theorem dX0_init_103 : decode cX0_init 103 = .ok (.iconst 0, 1) := by decide +kernel
theorem dX0_init_104 : decode cX0_init 104 = .ok (.putfield 53, 3) := by decide +kernel
theorem dX0_init_107 : decode cX0_init 107 = .ok (.aload_n 0, 1) := by decide +kernel
theorem dX0_init_108 : decode cX0_init 108 = .ok (.iconst 0, 1) := by decide +kernel
theorem dX0_init_109 : decode cX0_init 109 = .ok (.putfield 56, 3) := by decide +kernel
theorem dX0_init_112 : decode cX0_init 112 = .ok (.return_, 1) := by decide +kernel
set_option maxRecDepth 20000 in
theorem ggX0_lay_X0_layOnce : GoodIn wsX0_lay wsX0_layOnce := goodIn_r _ [10, 2, 11, 12, 13, 14, 15, 16, 9, 17, 18, 19, 20, 21, 22, 23, 24, 25, 26, 27, 28, 29, 30, 31, 5, 32, 1, 33, 34, 35, 36, 37, 38, 39, 40, 41, 42, 43, 44, 45, 46, 47, 48, 49, 50, 75, 76, 77, 78, 79, 80, 81, 82, 83, 84, 85, 86, 87, 88, 89, 90, 91, 92, 93] (by decide +kernel) (by decide +kernel)
set_option maxRecDepth 20000 in
theorem gX0_lay_X0_layOnce : GoodIn wsX0_lay (wsV RX0 59 RX0 yX0_layOnce wsX0_layOnce) := goodIn_app (goodIn_of _ (by decide +kernel)) ggX0_lay_X0_layOnce
set_option maxRecDepth 20000 in
theorem ggX0_lay_X0_askHeads : GoodIn wsX0_lay wsX0_askHeads := goodIn_r _ [54, 2, 32, 31, 55, 56, 57, 9, 58, 49, 50, 59, 60, 61, 62, 63, 64, 65, 66, 67, 68, 69, 70, 71, 72, 73, 74, 75, 76, 77, 78, 79, 80, 81, 82, 83, 84, 85, 86, 87, 88, 89, 90, 91, 92, 93] (by decide +kernel) (by decide +kernel)
set_option maxRecDepth 20000 in
theorem gX0_lay_X0_askHeads : GoodIn wsX0_lay (wsV RX0 63 RX0 yX0_askHeads wsX0_askHeads) := goodIn_app (goodIn_of _ (by decide +kernel)) ggX0_lay_X0_askHeads
theorem dX0_lay_0 : decode cX0_lay 0 = .ok (.aload_n 0, 1) := by decide +kernel
theorem dX0_lay_1 : decode cX0_lay 1 = .ok (.iload_n 2, 1) := by decide +kernel
theorem dX0_lay_2 : decode cX0_lay 2 = .ok (.putfield 53, 3) := by decide +kernel
theorem dX0_lay_5 : decode cX0_lay 5 = .ok (.aload_n 0, 1) := by decide +kernel
theorem dX0_lay_6 : decode cX0_lay 6 = .ok (.iconst 0, 1) := by decide +kernel
theorem dX0_lay_7 : decode cX0_lay 7 = .ok (.putfield 39, 3) := by decide +kernel
theorem dX0_lay_10 : decode cX0_lay 10 = .ok (.aload_n 0, 1) := by decide +kernel
theorem dX0_lay_11 : decode cX0_lay 11 = .ok (.iconst 0, 1) := by decide +kernel
theorem dX0_lay_12 : decode cX0_lay 12 = .ok (.putfield 46, 3) := by decide +kernel
theorem dX0_lay_15 : decode cX0_lay 15 = .ok (.iconst 1, 1) := by decide +kernel
theorem dX0_lay_16 : decode cX0_lay 16 = .ok (.istore 5, 2) := by decide +kernel
theorem dX0_lay_18 : decode cX0_lay 18 = .ok (.iload 5, 2) := by decide +kernel
theorem dX0_lay_20 : decode cX0_lay 20 = .ok (.bipush 10, 2) := by decide +kernel
theorem dX0_lay_22 : decode cX0_lay 22 = .ok (.if_icmp .gt 47, 3) := by decide +kernel
theorem dX0_lay_25 : decode cX0_lay 25 = .ok (.aload_n 0, 1) := by decide +kernel
theorem dX0_lay_26 : decode cX0_lay 26 = .ok (.getfield 46, 3) := by decide +kernel
theorem dX0_lay_29 : decode cX0_lay 29 = .ok (.ifCond .ne 40, 3) := by decide +kernel
theorem dX0_lay_32 : decode cX0_lay 32 = .ok (.aload_n 0, 1) := by decide +kernel
theorem dX0_lay_33 : decode cX0_lay 33 = .ok (.iload 5, 2) := by decide +kernel
theorem dX0_lay_35 : decode cX0_lay 35 = .ok (.putfield 43, 3) := by decide +kernel
theorem dX0_lay_38 : decode cX0_lay 38 = .ok (.aload_n 0, 1) := by decide +kernel
theorem dX0_lay_39 : decode cX0_lay 39 = .ok (.aload_n 0, 1) := by decide +kernel
theorem dX0_lay_40 : decode cX0_lay 40 = .ok (.getfield 39, 3) := by decide +kernel
theorem dX0_lay_43 : decode cX0_lay 43 = .ok (.putfield 50, 3) := by decide +kernel
theorem dX0_lay_46 : decode cX0_lay 46 = .ok (.aload_n 0, 1) := by decide +kernel
theorem dX0_lay_47 : decode cX0_lay 47 = .ok (.aload_n 1, 1) := by decide +kernel
theorem dX0_lay_48 : decode cX0_lay 48 = .ok (.iload 4, 2) := by decide +kernel
theorem dX0_lay_50 : decode cX0_lay 50 = .ok (.invokevirtual 59, 3) := by decide +kernel
theorem dX0_lay_53 : decode cX0_lay 53 = .ok (.aload_n 0, 1) := by decide +kernel
theorem dX0_lay_54 : decode cX0_lay 54 = .ok (.aload_n 0, 1) := by decide +kernel
theorem dX0_lay_55 : decode cX0_lay 55 = .ok (.aload_n 1, 1) := by decide +kernel
theorem dX0_lay_56 : decode cX0_lay 56 = .ok (.iload_n 3, 1) := by decide +kernel
theorem dX0_lay_57 : decode cX0_lay 57 = .ok (.invokevirtual 63, 3) := by decide +kernel
theorem dX0_lay_60 : decode cX0_lay 60 = .ok (.putfield 46, 3) := by decide +kernel
theorem dX0_lay_63 : decode cX0_lay 63 = .ok (.iinc 5 1, 3) := by decide +kernel
theorem dX0_lay_66 : decode cX0_lay 66 = .ok (.goto (-48), 3) := by decide +kernel
theorem dX0_lay_69 : decode cX0_lay 69 = .ok (.return_, 1) := by decide +kernel
set_option maxRecDepth 20000 in
theorem ggX0_layOnce_X0_layEntry : GoodIn wsX0_layOnce wsX0_layEntry := goodIn_r _ [9, 2, 10, 11, 12, 13, 14, 1, 15, 16, 17, 8, 18, 19, 20, 21, 22, 23, 24, 25, 26, 27, 28, 29, 30, 31, 32, 33, 34, 35, 36, 37, 38, 39, 40, 41, 42, 43, 44, 45, 46, 47, 48, 49, 50, 51, 52, 53, 54, 55, 56, 57, 58, 59] (by decide +kernel) (by decide +kernel)
set_option maxRecDepth 20000 in
theorem gX0_layOnce_X0_layEntry : GoodIn wsX0_layOnce (wsV RX0 75 RX0 yX0_layEntry wsX0_layEntry) := goodIn_app (goodIn_of _ (by decide +kernel)) ggX0_layOnce_X0_layEntry
theorem dX0_layOnce_0 : decode cX0_layOnce 0 = .ok (.aload_n 0, 1) := by decide +kernel
theorem dX0_layOnce_1 : decode cX0_layOnce 1 = .ok (.iconst 0, 1) := by decide +kernel
theorem dX0_layOnce_2 : decode cX0_layOnce 2 = .ok (.putfield 39, 3) := by decide +kernel
theorem dX0_layOnce_5 : decode cX0_layOnce 5 = .ok (.aload_n 0, 1) := by decide +kernel
theorem dX0_layOnce_6 : decode cX0_layOnce 6 = .ok (.iconst 0, 1) := by decide +kernel
theorem dX0_layOnce_7 : decode cX0_layOnce 7 = .ok (.putfield 56, 3) := by decide +kernel
theorem dX0_layOnce_10 : decode cX0_layOnce 10 = .ok (.iconst 0, 1) := by decide +kernel
theorem dX0_layOnce_11 : decode cX0_layOnce 11 = .ok (.istore_n 3, 1) := by decide +kernel
theorem dX0_layOnce_12 : decode cX0_layOnce 12 = .ok (.iload_n 3, 1) := by decide +kernel
theorem dX0_layOnce_13 : decode cX0_layOnce 13 = .ok (.aload_n 1, 1) := by decide +kernel
theorem dX0_layOnce_14 : decode cX0_layOnce 14 = .ok (.getfield 67, 3) := by decide +kernel
theorem dX0_layOnce_17 : decode cX0_layOnce 17 = .ok (.if_icmp .ge 21, 3) := by decide +kernel
theorem dX0_layOnce_20 : decode cX0_layOnce 20 = .ok (.aload_n 0, 1) := by decide +kernel
theorem dX0_layOnce_21 : decode cX0_layOnce 21 = .ok (.iload_n 3, 1) := by decide +kernel
theorem dX0_layOnce_22 : decode cX0_layOnce 22 = .ok (.aload_n 1, 1) := by decide +kernel
theorem dX0_layOnce_23 : decode cX0_layOnce 23 = .ok (.getfield 72, 3) := by decide +kernel
theorem dX0_layOnce_26 : decode cX0_layOnce 26 = .ok (.iload_n 3, 1) := by decide +kernel
theorem dX0_layOnce_27 : decode cX0_layOnce 27 = .ok (.iaload, 1) := by decide +kernel
theorem dX0_layOnce_28 : decode cX0_layOnce 28 = .ok (.iload_n 2, 1) := by decide +kernel
theorem dX0_layOnce_29 : decode cX0_layOnce 29 = .ok (.invokevirtual 75, 3) := by decide +kernel
theorem dX0_layOnce_32 : decode cX0_layOnce 32 = .ok (.iinc 3 1, 3) := by decide +kernel
theorem dX0_layOnce_35 : decode cX0_layOnce 35 = .ok (.goto (-23), 3) := by decide +kernel
theorem dX0_layOnce_38 : decode cX0_layOnce 38 = .ok (.return_, 1) := by decide +kernel
set_option maxRecDepth 20000 in
theorem ggX0_layEntry_X0_linesHere : GoodIn wsX0_layEntry wsX0_linesHere := goodIn_r _ [12, 1, 39, 40, 41, 42, 43, 44, 45, 46, 47, 48, 49, 50, 51, 52, 53] (by decide +kernel) (by decide +kernel)
set_option maxRecDepth 20000 in
theorem gX0_layEntry_X0_linesHere : GoodIn wsX0_layEntry (wsV RX0 79 RX0 yX0_linesHere wsX0_linesHere) := goodIn_app (goodIn_of _ (by decide +kernel)) ggX0_layEntry_X0_linesHere
set_option maxRecDepth 20000 in
theorem ggX0_layEntry_X0_openPage : GoodIn wsX0_layEntry wsX0_openPage := goodIn_r _ [16, 7, 17, 18, 19, 20, 1, 21, 22, 39, 40, 41, 42, 43, 44, 45, 46, 47, 48, 49, 50, 51, 52, 53] (by decide +kernel) (by decide +kernel)
set_option maxRecDepth 20000 in
theorem gX0_layEntry_X0_openPage : GoodIn wsX0_layEntry (wsV RX0 83 RX0 yX0_openPage wsX0_openPage) := goodIn_app (goodIn_of _ (by decide +kernel)) ggX0_layEntry_X0_openPage
set_option maxRecDepth 20000 in
theorem ggX0_layEntry_X0_begin : GoodIn wsX0_layEntry wsX0_begin := goodIn_r _ [26, 7, 27, 28, 22, 21, 29, 30, 31, 11, 32, 39, 40, 41, 42, 43, 44, 45, 46, 47, 48, 49, 50, 51, 52, 53] (by decide +kernel) (by decide +kernel)
set_option maxRecDepth 20000 in
theorem gX0_layEntry_X0_begin : GoodIn wsX0_layEntry (wsV RX0 86 RX0 yX0_begin wsX0_begin) := goodIn_app (goodIn_of _ (by decide +kernel)) ggX0_layEntry_X0_begin
set_option maxRecDepth 20000 in
theorem ggX0_layEntry_X0_fill : GoodIn wsX0_layEntry wsX0_fill := goodIn_r _ [36, 7, 22, 37, 38, 1, 29, 30, 31, 11, 32, 39, 40, 41, 42, 43, 44, 45, 46, 47, 48, 49, 50, 51, 52, 53] (by decide +kernel) (by decide +kernel)
set_option maxRecDepth 20000 in
theorem gX0_layEntry_X0_fill : GoodIn wsX0_layEntry (wsV RX0 90 RX0 yX0_fill wsX0_fill) := goodIn_app (goodIn_of _ (by decide +kernel)) ggX0_layEntry_X0_fill
theorem dX0_layEntry_0 : decode cX0_layEntry 0 = .ok (.aload_n 0, 1) := by decide +kernel
theorem dX0_layEntry_1 : decode cX0_layEntry 1 = .ok (.iload_n 2, 1) := by decide +kernel
theorem dX0_layEntry_2 : decode cX0_layEntry 2 = .ok (.iload_n 3, 1) := by decide +kernel
theorem dX0_layEntry_3 : decode cX0_layEntry 3 = .ok (.invokevirtual 79, 3) := by decide +kernel
theorem dX0_layEntry_6 : decode cX0_layEntry 6 = .ok (.istore 4, 2) := by decide +kernel
theorem dX0_layEntry_8 : decode cX0_layEntry 8 = .ok (.iload 4, 2) := by decide +kernel
theorem dX0_layEntry_10 : decode cX0_layEntry 10 = .ok (.ifCond .ne 15, 3) := by decide +kernel
theorem dX0_layEntry_13 : decode cX0_layEntry 13 = .ok (.aload_n 0, 1) := by decide +kernel
theorem dX0_layEntry_14 : decode cX0_layEntry 14 = .ok (.invokevirtual 83, 3) := by decide +kernel
theorem dX0_layEntry_17 : decode cX0_layEntry 17 = .ok (.aload_n 0, 1) := by decide +kernel
theorem dX0_layEntry_18 : decode cX0_layEntry 18 = .ok (.iload_n 2, 1) := by decide +kernel
theorem dX0_layEntry_19 : decode cX0_layEntry 19 = .ok (.iload_n 3, 1) := by decide +kernel
theorem dX0_layEntry_20 : decode cX0_layEntry 20 = .ok (.invokevirtual 79, 3) := by decide +kernel
theorem dX0_layEntry_23 : decode cX0_layEntry 23 = .ok (.istore 4, 2) := by decide +kernel
theorem dX0_layEntry_25 : decode cX0_layEntry 25 = .ok (.iload 4, 2) := by decide +kernel
theorem dX0_layEntry_27 : decode cX0_layEntry 27 = .ok (.ifCond .ne 9, 3) := by decide +kernel
theorem dX0_layEntry_30 : decode cX0_layEntry 30 = .ok (.aload_n 0, 1) := by decide +kernel
theorem dX0_layEntry_31 : decode cX0_layEntry 31 = .ok (.getfield 56, 3) := by decide +kernel
theorem dX0_layEntry_34 : decode cX0_layEntry 34 = .ok (.istore 4, 2) := by decide +kernel
theorem dX0_layEntry_36 : decode cX0_layEntry 36 = .ok (.aload_n 0, 1) := by decide +kernel
theorem dX0_layEntry_37 : decode cX0_layEntry 37 = .ok (.iload_n 1, 1) := by decide +kernel
theorem dX0_layEntry_38 : decode cX0_layEntry 38 = .ok (.invokevirtual 86, 3) := by decide +kernel
theorem dX0_layEntry_41 : decode cX0_layEntry 41 = .ok (.aload_n 0, 1) := by decide +kernel
theorem dX0_layEntry_42 : decode cX0_layEntry 42 = .ok (.iload_n 1, 1) := by decide +kernel
theorem dX0_layEntry_43 : decode cX0_layEntry 43 = .ok (.iload 4, 2) := by decide +kernel
theorem dX0_layEntry_45 : decode cX0_layEntry 45 = .ok (.invokevirtual 90, 3) := by decide +kernel
theorem dX0_layEntry_48 : decode cX0_layEntry 48 = .ok (.iload_n 2, 1) := by decide +kernel
theorem dX0_layEntry_49 : decode cX0_layEntry 49 = .ok (.iload 4, 2) := by decide +kernel
theorem dX0_layEntry_51 : decode cX0_layEntry 51 = .ok (.isub, 1) := by decide +kernel
theorem dX0_layEntry_52 : decode cX0_layEntry 52 = .ok (.istore 5, 2) := by decide +kernel
theorem dX0_layEntry_54 : decode cX0_layEntry 54 = .ok (.iconst 0, 1) := by decide +kernel
theorem dX0_layEntry_55 : decode cX0_layEntry 55 = .ok (.istore 6, 2) := by decide +kernel
theorem dX0_layEntry_57 : decode cX0_layEntry 57 = .ok (.iload 6, 2) := by decide +kernel
theorem dX0_layEntry_59 : decode cX0_layEntry 59 = .ok (.bipush 40, 2) := by decide +kernel
theorem dX0_layEntry_61 : decode cX0_layEntry 61 = .ok (.if_icmp .ge 43, 3) := by decide +kernel
theorem dX0_layEntry_64 : decode cX0_layEntry 64 = .ok (.iload 5, 2) := by decide +kernel
theorem dX0_layEntry_66 : decode cX0_layEntry 66 = .ok (.ifCond .le 38, 3) := by decide +kernel
theorem dX0_layEntry_69 : decode cX0_layEntry 69 = .ok (.aload_n 0, 1) := by decide +kernel
theorem dX0_layEntry_70 : decode cX0_layEntry 70 = .ok (.invokevirtual 83, 3) := by decide +kernel
theorem dX0_layEntry_73 : decode cX0_layEntry 73 = .ok (.iload 5, 2) := by decide +kernel
theorem dX0_layEntry_75 : decode cX0_layEntry 75 = .ok (.aload_n 0, 1) := by decide +kernel
theorem dX0_layEntry_76 : decode cX0_layEntry 76 = .ok (.getfield 56, 3) := by decide +kernel
theorem dX0_layEntry_79 : decode cX0_layEntry 79 = .ok (.invokestatic 94, 3) := by decide +kernel
theorem dX0_layEntry_82 : decode cX0_layEntry 82 = .ok (.istore 7, 2) := by decide +kernel
theorem dX0_layEntry_84 : decode cX0_layEntry 84 = .ok (.aload_n 0, 1) := by decide +kernel
theorem dX0_layEntry_85 : decode cX0_layEntry 85 = .ok (.iload_n 1, 1) := by decide +kernel
theorem dX0_layEntry_86 : decode cX0_layEntry 86 = .ok (.iload 7, 2) := by decide +kernel
theorem dX0_layEntry_88 : decode cX0_layEntry 88 = .ok (.invokevirtual 90, 3) := by decide +kernel
theorem dX0_layEntry_91 : decode cX0_layEntry 91 = .ok (.iload 5, 2) := by decide +kernel
theorem dX0_layEntry_93 : decode cX0_layEntry 93 = .ok (.iload 7, 2) := by decide +kernel
theorem dX0_layEntry_95 : decode cX0_layEntry 95 = .ok (.isub, 1) := by decide +kernel
theorem dX0_layEntry_96 : decode cX0_layEntry 96 = .ok (.istore 5, 2) := by decide +kernel
theorem dX0_layEntry_98 : decode cX0_layEntry 98 = .ok (.iinc 6 1, 3) := by decide +kernel
theorem dX0_layEntry_101 : decode cX0_layEntry 101 = .ok (.goto (-44), 3) := by decide +kernel
theorem dX0_layEntry_104 : decode cX0_layEntry 104 = .ok (.aload_n 0, 1) := by decide +kernel
theorem dX0_layEntry_105 : decode cX0_layEntry 105 = .ok (.getfield 18, 3) := by decide +kernel
theorem dX0_layEntry_108 : decode cX0_layEntry 108 = .ok (.iload_n 1, 1) := by decide +kernel
theorem dX0_layEntry_109 : decode cX0_layEntry 109 = .ok (.aload_n 0, 1) := by decide +kernel
theorem dX0_layEntry_110 : decode cX0_layEntry 110 = .ok (.getfield 39, 3) := by decide +kernel
theorem dX0_layEntry_113 : decode cX0_layEntry 113 = .ok (.iconst 1, 1) := by decide +kernel
theorem dX0_layEntry_114 : decode cX0_layEntry 114 = .ok (.isub, 1) := by decide +kernel
theorem dX0_layEntry_115 : decode cX0_layEntry 115 = .ok (.iastore, 1) := by decide +kernel
theorem dX0_layEntry_116 : decode cX0_layEntry 116 = .ok (.return_, 1) := by decide +kernel
theorem dX0_linesHere_0 : decode cX0_linesHere 0 = .ok (.iload_n 1, 1) := by decide +kernel
theorem dX0_linesHere_1 : decode cX0_linesHere 1 = .ok (.aload_n 0, 1) := by decide +kernel
theorem dX0_linesHere_2 : decode cX0_linesHere 2 = .ok (.getfield 56, 3) := by decide +kernel
theorem dX0_linesHere_5 : decode cX0_linesHere 5 = .ok (.if_icmp .gt 5, 3) := by decide +kernel
theorem dX0_linesHere_8 : decode cX0_linesHere 8 = .ok (.iload_n 1, 1) := by decide +kernel
theorem dX0_linesHere_9 : decode cX0_linesHere 9 = .ok (.ireturn, 1) := by decide +kernel
theorem dX0_linesHere_10 : decode cX0_linesHere 10 = .ok (.aload_n 0, 1) := by decide +kernel
theorem dX0_linesHere_11 : decode cX0_linesHere 11 = .ok (.getfield 56, 3) := by decide +kernel
theorem dX0_linesHere_14 : decode cX0_linesHere 14 = .ok (.iload_n 2, 1) := by decide +kernel
theorem dX0_linesHere_15 : decode cX0_linesHere 15 = .ok (.if_icmp .ge 5, 3) := by decide +kernel
theorem dX0_linesHere_18 : decode cX0_linesHere 18 = .ok (.iconst 0, 1) := by decide +kernel
theorem dX0_linesHere_19 : decode cX0_linesHere 19 = .ok (.ireturn, 1) := by decide +kernel
theorem dX0_linesHere_20 : decode cX0_linesHere 20 = .ok (.iload_n 1, 1) := by decide +kernel
theorem dX0_linesHere_21 : decode cX0_linesHere 21 = .ok (.aload_n 0, 1) := by decide +kernel
theorem dX0_linesHere_22 : decode cX0_linesHere 22 = .ok (.getfield 56, 3) := by decide +kernel
theorem dX0_linesHere_25 : decode cX0_linesHere 25 = .ok (.isub, 1) := by decide +kernel
theorem dX0_linesHere_26 : decode cX0_linesHere 26 = .ok (.iload_n 2, 1) := by decide +kernel
theorem dX0_linesHere_27 : decode cX0_linesHere 27 = .ok (.if_icmp .lt 8, 3) := by decide +kernel
theorem dX0_linesHere_30 : decode cX0_linesHere 30 = .ok (.aload_n 0, 1) := by decide +kernel
theorem dX0_linesHere_31 : decode cX0_linesHere 31 = .ok (.getfield 56, 3) := by decide +kernel
theorem dX0_linesHere_34 : decode cX0_linesHere 34 = .ok (.ireturn, 1) := by decide +kernel
theorem dX0_linesHere_35 : decode cX0_linesHere 35 = .ok (.iload_n 1, 1) := by decide +kernel
theorem dX0_linesHere_36 : decode cX0_linesHere 36 = .ok (.iload_n 2, 1) := by decide +kernel
theorem dX0_linesHere_37 : decode cX0_linesHere 37 = .ok (.isub, 1) := by decide +kernel
theorem dX0_linesHere_38 : decode cX0_linesHere 38 = .ok (.iload_n 2, 1) := by decide +kernel
theorem dX0_linesHere_39 : decode cX0_linesHere 39 = .ok (.if_icmp .lt 9, 3) := by decide +kernel
theorem dX0_linesHere_42 : decode cX0_linesHere 42 = .ok (.iload_n 1, 1) := by decide +kernel
theorem dX0_linesHere_43 : decode cX0_linesHere 43 = .ok (.iload_n 2, 1) := by decide +kernel
theorem dX0_linesHere_44 : decode cX0_linesHere 44 = .ok (.isub, 1) := by decide +kernel
theorem dX0_linesHere_45 : decode cX0_linesHere 45 = .ok (.goto 4, 3) := by decide +kernel
theorem dX0_linesHere_48 : decode cX0_linesHere 48 = .ok (.iconst 0, 1) := by decide +kernel
theorem dX0_linesHere_49 : decode cX0_linesHere 49 = .ok (.ireturn, 1) := by decide +kernel
theorem dX0_openPage_0 : decode cX0_openPage 0 = .ok (.aload_n 0, 1) := by decide +kernel
theorem dX0_openPage_1 : decode cX0_openPage 1 = .ok (.getfield 39, 3) := by decide +kernel
theorem dX0_openPage_4 : decode cX0_openPage 4 = .ok (.sipush 300, 3) := by decide +kernel
theorem dX0_openPage_7 : decode cX0_openPage 7 = .ok (.if_icmp .lt 4, 3) := by decide +kernel
theorem dX0_openPage_10 : decode cX0_openPage 10 = .ok (.return_, 1) := by decide +kernel
theorem dX0_openPage_11 : decode cX0_openPage 11 = .ok (.aload_n 0, 1) := by decide +kernel
theorem dX0_openPage_12 : decode cX0_openPage 12 = .ok (.getfield 33, 3) := by decide +kernel
theorem dX0_openPage_15 : decode cX0_openPage 15 = .ok (.aload_n 0, 1) := by decide +kernel
theorem dX0_openPage_16 : decode cX0_openPage 16 = .ok (.getfield 39, 3) := by decide +kernel
theorem dX0_openPage_19 : decode cX0_openPage 19 = .ok (.aload_n 0, 1) := by decide +kernel
theorem dX0_openPage_20 : decode cX0_openPage 20 = .ok (.getfield 39, 3) := by decide +kernel
theorem dX0_openPage_23 : decode cX0_openPage 23 = .ok (.aload_n 0, 1) := by decide +kernel
theorem dX0_openPage_24 : decode cX0_openPage 24 = .ok (.getfield 50, 3) := by decide +kernel
theorem dX0_openPage_27 : decode cX0_openPage 27 = .ok (.if_icmp .ge 15, 3) := by decide +kernel
theorem dX0_openPage_30 : decode cX0_openPage 30 = .ok (.aload_n 0, 1) := by decide +kernel
theorem dX0_openPage_31 : decode cX0_openPage 31 = .ok (.getfield 36, 3) := by decide +kernel
theorem dX0_openPage_34 : decode cX0_openPage 34 = .ok (.aload_n 0, 1) := by decide +kernel
theorem dX0_openPage_35 : decode cX0_openPage 35 = .ok (.getfield 39, 3) := by decide +kernel
theorem dX0_openPage_38 : decode cX0_openPage 38 = .ok (.iaload, 1) := by decide +kernel
theorem dX0_openPage_39 : decode cX0_openPage 39 = .ok (.goto 4, 3) := by decide +kernel
theorem dX0_openPage_42 : decode cX0_openPage 42 = .ok (.iconst 1, 1) := by decide +kernel
theorem dX0_openPage_43 : decode cX0_openPage 43 = .ok (.iastore, 1) := by decide +kernel
theorem dX0_openPage_44 : decode cX0_openPage 44 = .ok (.aload_n 0, 1) := by decide +kernel
theorem dX0_openPage_45 : decode cX0_openPage 45 = .ok (.aload_n 0, 1) := by decide +kernel
theorem dX0_openPage_46 : decode cX0_openPage 46 = .ok (.getfield 53, 3) := by decide +kernel
theorem dX0_openPage_49 : decode cX0_openPage 49 = .ok (.aload_n 0, 1) := by decide +kernel
theorem dX0_openPage_50 : decode cX0_openPage 50 = .ok (.getfield 33, 3) := by decide +kernel
theorem dX0_openPage_53 : decode cX0_openPage 53 = .ok (.aload_n 0, 1) := by decide +kernel
theorem dX0_openPage_54 : decode cX0_openPage 54 = .ok (.getfield 39, 3) := by decide +kernel
theorem dX0_openPage_57 : decode cX0_openPage 57 = .ok (.iaload, 1) := by decide +kernel
theorem dX0_openPage_58 : decode cX0_openPage 58 = .ok (.isub, 1) := by decide +kernel
theorem dX0_openPage_59 : decode cX0_openPage 59 = .ok (.putfield 56, 3) := by decide +kernel
theorem dX0_openPage_62 : decode cX0_openPage 62 = .ok (.aload_n 0, 1) := by decide +kernel
theorem dX0_openPage_63 : decode cX0_openPage 63 = .ok (.getfield 27, 3) := by decide +kernel
theorem dX0_openPage_66 : decode cX0_openPage 66 = .ok (.aload_n 0, 1) := by decide +kernel
theorem dX0_openPage_67 : decode cX0_openPage 67 = .ok (.getfield 39, 3) := by decide +kernel
theorem dX0_openPage_70 : decode cX0_openPage 70 = .ok (.iconst 0, 1) := by decide +kernel
theorem dX0_openPage_71 : decode cX0_openPage 71 = .ok (.iastore, 1) := by decide +kernel
theorem dX0_openPage_72 : decode cX0_openPage 72 = .ok (.aload_n 0, 1) := by decide +kernel
theorem dX0_openPage_73 : decode cX0_openPage 73 = .ok (.getfield 30, 3) := by decide +kernel
theorem dX0_openPage_76 : decode cX0_openPage 76 = .ok (.aload_n 0, 1) := by decide +kernel
theorem dX0_openPage_77 : decode cX0_openPage 77 = .ok (.getfield 39, 3) := by decide +kernel
theorem dX0_openPage_80 : decode cX0_openPage 80 = .ok (.iconst 0, 1) := by decide +kernel
theorem dX0_openPage_81 : decode cX0_openPage 81 = .ok (.iastore, 1) := by decide +kernel
theorem dX0_openPage_82 : decode cX0_openPage 82 = .ok (.aload_n 0, 1) := by decide +kernel
theorem dX0_openPage_83 : decode cX0_openPage 83 = .ok (.dup, 1) := by decide +kernel
theorem dX0_openPage_84 : decode cX0_openPage 84 = .ok (.getfield 39, 3) := by decide +kernel
theorem dX0_openPage_87 : decode cX0_openPage 87 = .ok (.iconst 1, 1) := by decide +kernel
theorem dX0_openPage_88 : decode cX0_openPage 88 = .ok (.iadd, 1) := by decide +kernel
theorem dX0_openPage_89 : decode cX0_openPage 89 = .ok (.putfield 39, 3) := by decide +kernel
theorem dX0_openPage_92 : decode cX0_openPage 92 = .ok (.return_, 1) := by decide +kernel
set_option maxRecDepth 20000 in
theorem ggX0_begin_X0_hasPage : GoodIn wsX0_begin wsX0_hasPage := goodIn_r _ [10, 1, 11, 12, 13, 14, 15, 16, 17, 18, 19, 20, 21, 22, 23, 24, 25] (by decide +kernel) (by decide +kernel)
set_option maxRecDepth 20000 in
theorem gX0_begin_X0_hasPage : GoodIn wsX0_begin (wsV RX0 99 RX0 yX0_hasPage wsX0_hasPage) := goodIn_app (goodIn_of _ (by decide +kernel)) ggX0_begin_X0_hasPage
theorem dX0_begin_0 : decode cX0_begin 0 = .ok (.aload_n 0, 1) := by decide +kernel
theorem dX0_begin_1 : decode cX0_begin 1 = .ok (.getfield 39, 3) := by decide +kernel
theorem dX0_begin_4 : decode cX0_begin 4 = .ok (.iconst 1, 1) := by decide +kernel
theorem dX0_begin_5 : decode cX0_begin 5 = .ok (.isub, 1) := by decide +kernel
theorem dX0_begin_6 : decode cX0_begin 6 = .ok (.istore_n 2, 1) := by decide +kernel
theorem dX0_begin_7 : decode cX0_begin 7 = .ok (.aload_n 0, 1) := by decide +kernel
theorem dX0_begin_8 : decode cX0_begin 8 = .ok (.iload_n 2, 1) := by decide +kernel
theorem dX0_begin_9 : decode cX0_begin 9 = .ok (.invokevirtual 99, 3) := by decide +kernel
theorem dX0_begin_12 : decode cX0_begin 12 = .ok (.ifCond .ne 4, 3) := by decide +kernel
theorem dX0_begin_15 : decode cX0_begin 15 = .ok (.return_, 1) := by decide +kernel
theorem dX0_begin_16 : decode cX0_begin 16 = .ok (.aload_n 0, 1) := by decide +kernel
theorem dX0_begin_17 : decode cX0_begin 17 = .ok (.getfield 9, 3) := by decide +kernel
theorem dX0_begin_20 : decode cX0_begin 20 = .ok (.iload_n 1, 1) := by decide +kernel
theorem dX0_begin_21 : decode cX0_begin 21 = .ok (.iload_n 2, 1) := by decide +kernel
theorem dX0_begin_22 : decode cX0_begin 22 = .ok (.iastore, 1) := by decide +kernel
theorem dX0_begin_23 : decode cX0_begin 23 = .ok (.aload_n 0, 1) := by decide +kernel
theorem dX0_begin_24 : decode cX0_begin 24 = .ok (.getfield 15, 3) := by decide +kernel
theorem dX0_begin_27 : decode cX0_begin 27 = .ok (.iload_n 1, 1) := by decide +kernel
theorem dX0_begin_28 : decode cX0_begin 28 = .ok (.aload_n 0, 1) := by decide +kernel
theorem dX0_begin_29 : decode cX0_begin 29 = .ok (.getfield 30, 3) := by decide +kernel
theorem dX0_begin_32 : decode cX0_begin 32 = .ok (.iload_n 2, 1) := by decide +kernel
theorem dX0_begin_33 : decode cX0_begin 33 = .ok (.iaload, 1) := by decide +kernel
theorem dX0_begin_34 : decode cX0_begin 34 = .ok (.iastore, 1) := by decide +kernel
theorem dX0_begin_35 : decode cX0_begin 35 = .ok (.aload_n 0, 1) := by decide +kernel
theorem dX0_begin_36 : decode cX0_begin 36 = .ok (.getfield 27, 3) := by decide +kernel
theorem dX0_begin_39 : decode cX0_begin 39 = .ok (.iload_n 2, 1) := by decide +kernel
theorem dX0_begin_40 : decode cX0_begin 40 = .ok (.dup2, 1) := by decide +kernel
theorem dX0_begin_41 : decode cX0_begin 41 = .ok (.iaload, 1) := by decide +kernel
theorem dX0_begin_42 : decode cX0_begin 42 = .ok (.iconst 1, 1) := by decide +kernel
theorem dX0_begin_43 : decode cX0_begin 43 = .ok (.iadd, 1) := by decide +kernel
theorem dX0_begin_44 : decode cX0_begin 44 = .ok (.iastore, 1) := by decide +kernel
theorem dX0_begin_45 : decode cX0_begin 45 = .ok (.return_, 1) := by decide +kernel
set_option maxRecDepth 20000 in
theorem ggX0_fill_X0_hasPage : GoodIn wsX0_fill wsX0_hasPage := goodIn_r _ [10, 1, 11, 12, 13, 14, 15, 16, 17, 18, 19, 20, 21, 22, 23, 24, 25] (by decide +kernel) (by decide +kernel)
set_option maxRecDepth 20000 in
theorem gX0_fill_X0_hasPage : GoodIn wsX0_fill (wsV RX0 99 RX0 yX0_hasPage wsX0_hasPage) := goodIn_app (goodIn_of _ (by decide +kernel)) ggX0_fill_X0_hasPage
theorem dX0_fill_0 : decode cX0_fill 0 = .ok (.aload_n 0, 1) := by decide +kernel
theorem dX0_fill_1 : decode cX0_fill 1 = .ok (.getfield 39, 3) := by decide +kernel
theorem dX0_fill_4 : decode cX0_fill 4 = .ok (.iconst 1, 1) := by decide +kernel
theorem dX0_fill_5 : decode cX0_fill 5 = .ok (.isub, 1) := by decide +kernel
theorem dX0_fill_6 : decode cX0_fill 6 = .ok (.istore_n 3, 1) := by decide +kernel
theorem dX0_fill_7 : decode cX0_fill 7 = .ok (.aload_n 0, 1) := by decide +kernel
theorem dX0_fill_8 : decode cX0_fill 8 = .ok (.iload_n 3, 1) := by decide +kernel
theorem dX0_fill_9 : decode cX0_fill 9 = .ok (.invokevirtual 99, 3) := by decide +kernel
theorem dX0_fill_12 : decode cX0_fill 12 = .ok (.ifCond .ne 4, 3) := by decide +kernel
theorem dX0_fill_15 : decode cX0_fill 15 = .ok (.return_, 1) := by decide +kernel
theorem dX0_fill_16 : decode cX0_fill 16 = .ok (.aload_n 0, 1) := by decide +kernel
theorem dX0_fill_17 : decode cX0_fill 17 = .ok (.getfield 30, 3) := by decide +kernel
theorem dX0_fill_20 : decode cX0_fill 20 = .ok (.iload_n 3, 1) := by decide +kernel
theorem dX0_fill_21 : decode cX0_fill 21 = .ok (.iaload, 1) := by decide +kernel
theorem dX0_fill_22 : decode cX0_fill 22 = .ok (.ifCond .ne 10, 3) := by decide +kernel
theorem dX0_fill_25 : decode cX0_fill 25 = .ok (.aload_n 0, 1) := by decide +kernel
theorem dX0_fill_26 : decode cX0_fill 26 = .ok (.getfield 21, 3) := by decide +kernel
theorem dX0_fill_29 : decode cX0_fill 29 = .ok (.iload_n 3, 1) := by decide +kernel
theorem dX0_fill_30 : decode cX0_fill 30 = .ok (.iload_n 1, 1) := by decide +kernel
theorem dX0_fill_31 : decode cX0_fill 31 = .ok (.iastore, 1) := by decide +kernel
theorem dX0_fill_32 : decode cX0_fill 32 = .ok (.aload_n 0, 1) := by decide +kernel
theorem dX0_fill_33 : decode cX0_fill 33 = .ok (.getfield 24, 3) := by decide +kernel
theorem dX0_fill_36 : decode cX0_fill 36 = .ok (.iload_n 3, 1) := by decide +kernel
theorem dX0_fill_37 : decode cX0_fill 37 = .ok (.iload_n 1, 1) := by decide +kernel
theorem dX0_fill_38 : decode cX0_fill 38 = .ok (.iastore, 1) := by decide +kernel
theorem dX0_fill_39 : decode cX0_fill 39 = .ok (.aload_n 0, 1) := by decide +kernel
theorem dX0_fill_40 : decode cX0_fill 40 = .ok (.getfield 30, 3) := by decide +kernel
theorem dX0_fill_43 : decode cX0_fill 43 = .ok (.iload_n 3, 1) := by decide +kernel
theorem dX0_fill_44 : decode cX0_fill 44 = .ok (.dup2, 1) := by decide +kernel
theorem dX0_fill_45 : decode cX0_fill 45 = .ok (.iaload, 1) := by decide +kernel
theorem dX0_fill_46 : decode cX0_fill 46 = .ok (.iload_n 2, 1) := by decide +kernel
theorem dX0_fill_47 : decode cX0_fill 47 = .ok (.iadd, 1) := by decide +kernel
theorem dX0_fill_48 : decode cX0_fill 48 = .ok (.iastore, 1) := by decide +kernel
theorem dX0_fill_49 : decode cX0_fill 49 = .ok (.aload_n 0, 1) := by decide +kernel
theorem dX0_fill_50 : decode cX0_fill 50 = .ok (.dup, 1) := by decide +kernel
theorem dX0_fill_51 : decode cX0_fill 51 = .ok (.getfield 56, 3) := by decide +kernel
theorem dX0_fill_54 : decode cX0_fill 54 = .ok (.iload_n 2, 1) := by decide +kernel
theorem dX0_fill_55 : decode cX0_fill 55 = .ok (.isub, 1) := by decide +kernel
theorem dX0_fill_56 : decode cX0_fill 56 = .ok (.putfield 56, 3) := by decide +kernel
theorem dX0_fill_59 : decode cX0_fill 59 = .ok (.return_, 1) := by decide +kernel
set_option maxRecDepth 20000 in
theorem ggX0_askHeads_X0_headWidth : GoodIn wsX0_askHeads wsX0_headWidth := goodIn_r _ [8, 9, 10, 11, 12, 13, 14, 15, 16, 17, 18, 19, 20, 21, 22, 23, 24, 25, 26, 27, 28, 29, 30, 31, 32, 33, 34, 35, 36, 37, 38, 39, 40, 41, 42, 43, 44, 45] (by decide +kernel) (by decide +kernel)
set_option maxRecDepth 20000 in
theorem gX0_askHeads_X0_headWidth : GoodIn wsX0_askHeads (wsV RX0 103 RX0 yX0_headWidth wsX0_headWidth) := goodIn_app (goodIn_of _ (by decide +kernel)) ggX0_askHeads_X0_headWidth
theorem dX0_askHeads_0 : decode cX0_askHeads 0 = .ok (.iconst 1, 1) := by decide +kernel
theorem dX0_askHeads_1 : decode cX0_askHeads 1 = .ok (.istore_n 3, 1) := by decide +kernel
theorem dX0_askHeads_2 : decode cX0_askHeads 2 = .ok (.iconst 0, 1) := by decide +kernel
theorem dX0_askHeads_3 : decode cX0_askHeads 3 = .ok (.istore 4, 2) := by decide +kernel
theorem dX0_askHeads_5 : decode cX0_askHeads 5 = .ok (.iload 4, 2) := by decide +kernel
theorem dX0_askHeads_7 : decode cX0_askHeads 7 = .ok (.aload_n 0, 1) := by decide +kernel
theorem dX0_askHeads_8 : decode cX0_askHeads 8 = .ok (.getfield 39, 3) := by decide +kernel
theorem dX0_askHeads_11 : decode cX0_askHeads 11 = .ok (.if_icmp .ge 51, 3) := by decide +kernel
theorem dX0_askHeads_14 : decode cX0_askHeads 14 = .ok (.aload_n 0, 1) := by decide +kernel
theorem dX0_askHeads_15 : decode cX0_askHeads 15 = .ok (.getfield 36, 3) := by decide +kernel
theorem dX0_askHeads_18 : decode cX0_askHeads 18 = .ok (.iload 4, 2) := by decide +kernel
theorem dX0_askHeads_20 : decode cX0_askHeads 20 = .ok (.aload_n 0, 1) := by decide +kernel
theorem dX0_askHeads_21 : decode cX0_askHeads 21 = .ok (.iload 4, 2) := by decide +kernel
theorem dX0_askHeads_23 : decode cX0_askHeads 23 = .ok (.aload_n 1, 1) := by decide +kernel
theorem dX0_askHeads_24 : decode cX0_askHeads 24 = .ok (.invokevirtual 103, 3) := by decide +kernel
theorem dX0_askHeads_27 : decode cX0_askHeads 27 = .ok (.iload_n 2, 1) := by decide +kernel
theorem dX0_askHeads_28 : decode cX0_askHeads 28 = .ok (.if_icmp .gt 7, 3) := by decide +kernel
theorem dX0_askHeads_31 : decode cX0_askHeads 31 = .ok (.iconst 1, 1) := by decide +kernel
theorem dX0_askHeads_32 : decode cX0_askHeads 32 = .ok (.goto 4, 3) := by decide +kernel
theorem dX0_askHeads_35 : decode cX0_askHeads 35 = .ok (.iconst 2, 1) := by decide +kernel
theorem dX0_askHeads_36 : decode cX0_askHeads 36 = .ok (.iastore, 1) := by decide +kernel
theorem dX0_askHeads_37 : decode cX0_askHeads 37 = .ok (.aload_n 0, 1) := by decide +kernel
theorem dX0_askHeads_38 : decode cX0_askHeads 38 = .ok (.getfield 36, 3) := by decide +kernel
theorem dX0_askHeads_41 : decode cX0_askHeads 41 = .ok (.iload 4, 2) := by decide +kernel
theorem dX0_askHeads_43 : decode cX0_askHeads 43 = .ok (.iaload, 1) := by decide +kernel
theorem dX0_askHeads_44 : decode cX0_askHeads 44 = .ok (.aload_n 0, 1) := by decide +kernel
theorem dX0_askHeads_45 : decode cX0_askHeads 45 = .ok (.getfield 33, 3) := by decide +kernel
theorem dX0_askHeads_48 : decode cX0_askHeads 48 = .ok (.iload 4, 2) := by decide +kernel
theorem dX0_askHeads_50 : decode cX0_askHeads 50 = .ok (.iaload, 1) := by decide +kernel
theorem dX0_askHeads_51 : decode cX0_askHeads 51 = .ok (.if_icmp .eq 5, 3) := by decide +kernel
theorem dX0_askHeads_54 : decode cX0_askHeads 54 = .ok (.iconst 0, 1) := by decide +kernel
theorem dX0_askHeads_55 : decode cX0_askHeads 55 = .ok (.istore_n 3, 1) := by decide +kernel
theorem dX0_askHeads_56 : decode cX0_askHeads 56 = .ok (.iinc 4 1, 3) := by decide +kernel
theorem dX0_askHeads_59 : decode cX0_askHeads 59 = .ok (.goto (-54), 3) := by decide +kernel
theorem dX0_askHeads_62 : decode cX0_askHeads 62 = .ok (.iload_n 3, 1) := by decide +kernel
theorem dX0_askHeads_63 : decode cX0_askHeads 63 = .ok (.ireturn, 1) := by decide +kernel
set_option maxRecDepth 20000 in
theorem ggX0_headWidth_X1_wordOf : GoodIn wsX0_headWidth wsX1_wordOf := goodIn_r _ [7, 8, 9, 10, 11, 6, 12, 13, 34, 35, 36, 37] (by decide +kernel) (by decide +kernel)
set_option maxRecDepth 20000 in
theorem gX0_headWidth_X1_wordOf : GoodIn wsX0_headWidth (wsV RX0 107 RX1 yX1_wordOf wsX1_wordOf) := goodIn_app (goodIn_of _ (by decide +kernel)) ggX0_headWidth_X1_wordOf
set_option maxRecDepth 20000 in
theorem ggX0_headWidth_X4_letters : GoodIn wsX0_headWidth wsX4_letters := goodIn_r _ [17, 18] (by decide +kernel) (by decide +kernel)
set_option maxRecDepth 20000 in
theorem gX0_headWidth_X4_letters : GoodIn wsX0_headWidth (va_wsS RX0 111 yX4_letters wsX4_letters) := goodIn_app (goodIn_of _ (by decide +kernel)) ggX0_headWidth_X4_letters
theorem dX0_headWidth_0 : decode cX0_headWidth 0 = .ok (.aload_n 2, 1) := by decide +kernel
theorem dX0_headWidth_1 : decode cX0_headWidth 1 = .ok (.aload_n 0, 1) := by decide +kernel
theorem dX0_headWidth_2 : decode cX0_headWidth 2 = .ok (.getfield 21, 3) := by decide +kernel
theorem dX0_headWidth_5 : decode cX0_headWidth 5 = .ok (.iload_n 1, 1) := by decide +kernel
theorem dX0_headWidth_6 : decode cX0_headWidth 6 = .ok (.iaload, 1) := by decide +kernel
theorem dX0_headWidth_7 : decode cX0_headWidth 7 = .ok (.invokevirtual 107, 3) := by decide +kernel
theorem dX0_headWidth_10 : decode cX0_headWidth 10 = .ok (.invokestatic 111, 3) := by decide +kernel
theorem dX0_headWidth_13 : decode cX0_headWidth 13 = .ok (.istore_n 3, 1) := by decide +kernel
theorem dX0_headWidth_14 : decode cX0_headWidth 14 = .ok (.aload_n 0, 1) := by decide +kernel
theorem dX0_headWidth_15 : decode cX0_headWidth 15 = .ok (.getfield 24, 3) := by decide +kernel
theorem dX0_headWidth_18 : decode cX0_headWidth 18 = .ok (.iload_n 1, 1) := by decide +kernel
theorem dX0_headWidth_19 : decode cX0_headWidth 19 = .ok (.iaload, 1) := by decide +kernel
theorem dX0_headWidth_20 : decode cX0_headWidth 20 = .ok (.aload_n 0, 1) := by decide +kernel
theorem dX0_headWidth_21 : decode cX0_headWidth 21 = .ok (.getfield 21, 3) := by decide +kernel
theorem dX0_headWidth_24 : decode cX0_headWidth 24 = .ok (.iload_n 1, 1) := by decide +kernel
theorem dX0_headWidth_25 : decode cX0_headWidth 25 = .ok (.iaload, 1) := by decide +kernel
theorem dX0_headWidth_26 : decode cX0_headWidth 26 = .ok (.if_icmp .ne 7, 3) := by decide +kernel
theorem dX0_headWidth_29 : decode cX0_headWidth 29 = .ok (.iload_n 3, 1) := by decide +kernel
theorem dX0_headWidth_30 : decode cX0_headWidth 30 = .ok (.goto 20, 3) := by decide +kernel
theorem dX0_headWidth_33 : decode cX0_headWidth 33 = .ok (.iload_n 3, 1) := by decide +kernel
theorem dX0_headWidth_34 : decode cX0_headWidth 34 = .ok (.iconst 1, 1) := by decide +kernel
theorem dX0_headWidth_35 : decode cX0_headWidth 35 = .ok (.iadd, 1) := by decide +kernel
theorem dX0_headWidth_36 : decode cX0_headWidth 36 = .ok (.aload_n 2, 1) := by decide +kernel
theorem dX0_headWidth_37 : decode cX0_headWidth 37 = .ok (.aload_n 0, 1) := by decide +kernel
theorem dX0_headWidth_38 : decode cX0_headWidth 38 = .ok (.getfield 24, 3) := by decide +kernel
theorem dX0_headWidth_41 : decode cX0_headWidth 41 = .ok (.iload_n 1, 1) := by decide +kernel
theorem dX0_headWidth_42 : decode cX0_headWidth 42 = .ok (.iaload, 1) := by decide +kernel
theorem dX0_headWidth_43 : decode cX0_headWidth 43 = .ok (.invokevirtual 107, 3) := by decide +kernel
theorem dX0_headWidth_46 : decode cX0_headWidth 46 = .ok (.invokestatic 111, 3) := by decide +kernel
theorem dX0_headWidth_49 : decode cX0_headWidth 49 = .ok (.iadd, 1) := by decide +kernel
theorem dX0_headWidth_50 : decode cX0_headWidth 50 = .ok (.ireturn, 1) := by decide +kernel
set_option maxRecDepth 20000 in
theorem ggX0_headCode_X1_wordOf : GoodIn wsX0_headCode wsX1_wordOf := goodIn_r _ [7, 8, 9, 10, 11, 6, 12, 13, 41, 42, 43, 44] (by decide +kernel) (by decide +kernel)
set_option maxRecDepth 20000 in
theorem gX0_headCode_X1_wordOf : GoodIn wsX0_headCode (wsV RX0 107 RX1 yX1_wordOf wsX1_wordOf) := goodIn_app (goodIn_of _ (by decide +kernel)) ggX0_headCode_X1_wordOf
set_option maxRecDepth 20000 in
theorem ggX0_headCode_X4_letters : GoodIn wsX0_headCode wsX4_letters := goodIn_r _ [17, 18] (by decide +kernel) (by decide +kernel)
set_option maxRecDepth 20000 in
theorem gX0_headCode_X4_letters : GoodIn wsX0_headCode (va_wsS RX0 111 yX4_letters wsX4_letters) := goodIn_app (goodIn_of _ (by decide +kernel)) ggX0_headCode_X4_letters
set_option maxRecDepth 20000 in
theorem ggX0_headCode_X4_code : GoodIn wsX0_headCode wsX4_code := goodIn_r _ [21, 22, 15, 16, 17, 18, 23, 24, 25] (by decide +kernel) (by decide +kernel)
set_option maxRecDepth 20000 in
theorem gX0_headCode_X4_code : GoodIn wsX0_headCode (va_wsS RX0 117 yX4_code wsX4_code) := goodIn_app (goodIn_of _ (by decide +kernel)) ggX0_headCode_X4_code
theorem dX0_headCode_0 : decode cX0_headCode 0 = .ok (.aload_n 3, 1) := by decide +kernel
theorem dX0_headCode_1 : decode cX0_headCode 1 = .ok (.aload_n 0, 1) := by decide +kernel
theorem dX0_headCode_2 : decode cX0_headCode 2 = .ok (.getfield 21, 3) := by decide +kernel
theorem dX0_headCode_5 : decode cX0_headCode 5 = .ok (.iload_n 1, 1) := by decide +kernel
theorem dX0_headCode_6 : decode cX0_headCode 6 = .ok (.iaload, 1) := by decide +kernel
theorem dX0_headCode_7 : decode cX0_headCode 7 = .ok (.invokevirtual 107, 3) := by decide +kernel
theorem dX0_headCode_10 : decode cX0_headCode 10 = .ok (.lstore 4, 2) := by decide +kernel
theorem dX0_headCode_12 : decode cX0_headCode 12 = .ok (.lload 4, 2) := by decide +kernel
theorem dX0_headCode_14 : decode cX0_headCode 14 = .ok (.invokestatic 111, 3) := by decide +kernel
theorem dX0_headCode_17 : decode cX0_headCode 17 = .ok (.istore 6, 2) := by decide +kernel
theorem dX0_headCode_19 : decode cX0_headCode 19 = .ok (.iload_n 2, 1) := by decide +kernel
theorem dX0_headCode_20 : decode cX0_headCode 20 = .ok (.iload 6, 2) := by decide +kernel
theorem dX0_headCode_22 : decode cX0_headCode 22 = .ok (.if_icmp .lt 18, 3) := by decide +kernel
theorem dX0_headCode_25 : decode cX0_headCode 25 = .ok (.aload_n 0, 1) := by decide +kernel
theorem dX0_headCode_26 : decode cX0_headCode 26 = .ok (.getfield 21, 3) := by decide +kernel
theorem dX0_headCode_29 : decode cX0_headCode 29 = .ok (.iload_n 1, 1) := by decide +kernel
theorem dX0_headCode_30 : decode cX0_headCode 30 = .ok (.iaload, 1) := by decide +kernel
theorem dX0_headCode_31 : decode cX0_headCode 31 = .ok (.aload_n 0, 1) := by decide +kernel
theorem dX0_headCode_32 : decode cX0_headCode 32 = .ok (.getfield 24, 3) := by decide +kernel
theorem dX0_headCode_35 : decode cX0_headCode 35 = .ok (.iload_n 1, 1) := by decide +kernel
theorem dX0_headCode_36 : decode cX0_headCode 36 = .ok (.iaload, 1) := by decide +kernel
theorem dX0_headCode_37 : decode cX0_headCode 37 = .ok (.if_icmp .ne 10, 3) := by decide +kernel
theorem dX0_headCode_40 : decode cX0_headCode 40 = .ok (.lload 4, 2) := by decide +kernel
theorem dX0_headCode_42 : decode cX0_headCode 42 = .ok (.iload_n 2, 1) := by decide +kernel
theorem dX0_headCode_43 : decode cX0_headCode 43 = .ok (.invokestatic 117, 3) := by decide +kernel
theorem dX0_headCode_46 : decode cX0_headCode 46 = .ok (.ireturn, 1) := by decide +kernel
theorem dX0_headCode_47 : decode cX0_headCode 47 = .ok (.iload_n 2, 1) := by decide +kernel
theorem dX0_headCode_48 : decode cX0_headCode 48 = .ok (.iload 6, 2) := by decide +kernel
theorem dX0_headCode_50 : decode cX0_headCode 50 = .ok (.if_icmp .ne 8, 3) := by decide +kernel
theorem dX0_headCode_53 : decode cX0_headCode 53 = .ok (.bipush 45, 2) := by decide +kernel
theorem dX0_headCode_55 : decode cX0_headCode 55 = .ok (.goto 22, 3) := by decide +kernel
theorem dX0_headCode_58 : decode cX0_headCode 58 = .ok (.aload_n 3, 1) := by decide +kernel
theorem dX0_headCode_59 : decode cX0_headCode 59 = .ok (.aload_n 0, 1) := by decide +kernel
theorem dX0_headCode_60 : decode cX0_headCode 60 = .ok (.getfield 24, 3) := by decide +kernel
theorem dX0_headCode_63 : decode cX0_headCode 63 = .ok (.iload_n 1, 1) := by decide +kernel
theorem dX0_headCode_64 : decode cX0_headCode 64 = .ok (.iaload, 1) := by decide +kernel
theorem dX0_headCode_65 : decode cX0_headCode 65 = .ok (.invokevirtual 107, 3) := by decide +kernel
theorem dX0_headCode_68 : decode cX0_headCode 68 = .ok (.iload_n 2, 1) := by decide +kernel
theorem dX0_headCode_69 : decode cX0_headCode 69 = .ok (.iload 6, 2) := by decide +kernel
theorem dX0_headCode_71 : decode cX0_headCode 71 = .ok (.isub, 1) := by decide +kernel
theorem dX0_headCode_72 : decode cX0_headCode 72 = .ok (.iconst 1, 1) := by decide +kernel
theorem dX0_headCode_73 : decode cX0_headCode 73 = .ok (.isub, 1) := by decide +kernel
theorem dX0_headCode_74 : decode cX0_headCode 74 = .ok (.invokestatic 117, 3) := by decide +kernel
theorem dX0_headCode_77 : decode cX0_headCode 77 = .ok (.ireturn, 1) := by decide +kernel
theorem dX0_hasPage_0 : decode cX0_hasPage 0 = .ok (.iload_n 1, 1) := by decide +kernel
theorem dX0_hasPage_1 : decode cX0_hasPage 1 = .ok (.ifCond .lt 15, 3) := by decide +kernel
theorem dX0_hasPage_4 : decode cX0_hasPage 4 = .ok (.iload_n 1, 1) := by decide +kernel
theorem dX0_hasPage_5 : decode cX0_hasPage 5 = .ok (.aload_n 0, 1) := by decide +kernel
theorem dX0_hasPage_6 : decode cX0_hasPage 6 = .ok (.getfield 39, 3) := by decide +kernel
theorem dX0_hasPage_9 : decode cX0_hasPage 9 = .ok (.if_icmp .ge 7, 3) := by decide +kernel
theorem dX0_hasPage_12 : decode cX0_hasPage 12 = .ok (.iconst 1, 1) := by decide +kernel
theorem dX0_hasPage_13 : decode cX0_hasPage 13 = .ok (.goto 4, 3) := by decide +kernel
theorem dX0_hasPage_16 : decode cX0_hasPage 16 = .ok (.iconst 0, 1) := by decide +kernel
theorem dX0_hasPage_17 : decode cX0_hasPage 17 = .ok (.ireturn, 1) := by decide +kernel
theorem dX0_folds_0 : decode cX0_folds 0 = .ok (.aload_n 0, 1) := by decide +kernel
theorem dX0_folds_1 : decode cX0_folds 1 = .ok (.getfield 39, 3) := by decide +kernel
theorem dX0_folds_4 : decode cX0_folds 4 = .ok (.iconst 1, 1) := by decide +kernel
theorem dX0_folds_5 : decode cX0_folds 5 = .ok (.iadd, 1) := by decide +kernel
theorem dX0_folds_6 : decode cX0_folds 6 = .ok (.iconst 2, 1) := by decide +kernel
theorem dX0_folds_7 : decode cX0_folds 7 = .ok (.idiv, 1) := by decide +kernel
theorem dX0_folds_8 : decode cX0_folds 8 = .ok (.ireturn, 1) := by decide +kernel
theorem dX0_leftName_0 : decode cX0_leftName 0 = .ok (.aload_n 0, 1) := by decide +kernel
theorem dX0_leftName_1 : decode cX0_leftName 1 = .ok (.getfield 24, 3) := by decide +kernel
theorem dX0_leftName_4 : decode cX0_leftName 4 = .ok (.iload_n 1, 1) := by decide +kernel
theorem dX0_leftName_5 : decode cX0_leftName 5 = .ok (.iaload, 1) := by decide +kernel
theorem dX0_leftName_6 : decode cX0_leftName 6 = .ok (.ireturn, 1) := by decide +kernel
theorem dX0_rightName_0 : decode cX0_rightName 0 = .ok (.aload_n 0, 1) := by decide +kernel
theorem dX0_rightName_1 : decode cX0_rightName 1 = .ok (.getfield 27, 3) := by decide +kernel
theorem dX0_rightName_4 : decode cX0_rightName 4 = .ok (.iload_n 1, 1) := by decide +kernel
theorem dX0_rightName_5 : decode cX0_rightName 5 = .ok (.iaload, 1) := by decide +kernel
theorem dX0_rightName_6 : decode cX0_rightName 6 = .ok (.ifCond .ne 12, 3) := by decide +kernel
theorem dX0_rightName_9 : decode cX0_rightName 9 = .ok (.aload_n 0, 1) := by decide +kernel
theorem dX0_rightName_10 : decode cX0_rightName 10 = .ok (.getfield 21, 3) := by decide +kernel
theorem dX0_rightName_13 : decode cX0_rightName 13 = .ok (.iload_n 1, 1) := by decide +kernel
theorem dX0_rightName_14 : decode cX0_rightName 14 = .ok (.iaload, 1) := by decide +kernel
theorem dX0_rightName_15 : decode cX0_rightName 15 = .ok (.goto 18, 3) := by decide +kernel
theorem dX0_rightName_18 : decode cX0_rightName 18 = .ok (.aload_n 0, 1) := by decide +kernel
theorem dX0_rightName_19 : decode cX0_rightName 19 = .ok (.getfield 24, 3) := by decide +kernel
theorem dX0_rightName_22 : decode cX0_rightName 22 = .ok (.iload_n 1, 1) := by decide +kernel
theorem dX0_rightName_23 : decode cX0_rightName 23 = .ok (.iaload, 1) := by decide +kernel
theorem dX0_rightName_24 : decode cX0_rightName 24 = .ok (.aload_n 0, 1) := by decide +kernel
theorem dX0_rightName_25 : decode cX0_rightName 25 = .ok (.getfield 27, 3) := by decide +kernel
theorem dX0_rightName_28 : decode cX0_rightName 28 = .ok (.iload_n 1, 1) := by decide +kernel
theorem dX0_rightName_29 : decode cX0_rightName 29 = .ok (.iaload, 1) := by decide +kernel
theorem dX0_rightName_30 : decode cX0_rightName 30 = .ok (.isub, 1) := by decide +kernel
theorem dX0_rightName_31 : decode cX0_rightName 31 = .ok (.iconst 1, 1) := by decide +kernel
theorem dX0_rightName_32 : decode cX0_rightName 32 = .ok (.iadd, 1) := by decide +kernel
theorem dX0_rightName_33 : decode cX0_rightName 33 = .ok (.ireturn, 1) := by decide +kernel
theorem dX0_blankLinesOf_0 : decode cX0_blankLinesOf 0 = .ok (.aload_n 0, 1) := by decide +kernel
theorem dX0_blankLinesOf_1 : decode cX0_blankLinesOf 1 = .ok (.getfield 53, 3) := by decide +kernel
theorem dX0_blankLinesOf_4 : decode cX0_blankLinesOf 4 = .ok (.aload_n 0, 1) := by decide +kernel
theorem dX0_blankLinesOf_5 : decode cX0_blankLinesOf 5 = .ok (.getfield 33, 3) := by decide +kernel
theorem dX0_blankLinesOf_8 : decode cX0_blankLinesOf 8 = .ok (.iload_n 1, 1) := by decide +kernel
theorem dX0_blankLinesOf_9 : decode cX0_blankLinesOf 9 = .ok (.iaload, 1) := by decide +kernel
theorem dX0_blankLinesOf_10 : decode cX0_blankLinesOf 10 = .ok (.isub, 1) := by decide +kernel
theorem dX0_blankLinesOf_11 : decode cX0_blankLinesOf 11 = .ok (.aload_n 0, 1) := by decide +kernel
theorem dX0_blankLinesOf_12 : decode cX0_blankLinesOf 12 = .ok (.getfield 30, 3) := by decide +kernel
theorem dX0_blankLinesOf_15 : decode cX0_blankLinesOf 15 = .ok (.iload_n 1, 1) := by decide +kernel
theorem dX0_blankLinesOf_16 : decode cX0_blankLinesOf 16 = .ok (.iaload, 1) := by decide +kernel
theorem dX0_blankLinesOf_17 : decode cX0_blankLinesOf 17 = .ok (.isub, 1) := by decide +kernel
theorem dX0_blankLinesOf_18 : decode cX0_blankLinesOf 18 = .ok (.ireturn, 1) := by decide +kernel
set_option maxRecDepth 20000 in
theorem ggX0_blankLines_X0_blankLinesOf : GoodIn wsX0_blankLines wsX0_blankLinesOf := goodIn_r _ [6, 7, 8, 9, 10, 11, 12, 13, 14, 15, 16, 17, 18, 19, 20, 21, 22, 23, 24] (by decide +kernel) (by decide +kernel)
set_option maxRecDepth 20000 in
theorem gX0_blankLines_X0_blankLinesOf : GoodIn wsX0_blankLines (wsV RX0 121 RX0 yX0_blankLinesOf wsX0_blankLinesOf) := goodIn_app (goodIn_of _ (by decide +kernel)) ggX0_blankLines_X0_blankLinesOf
theorem dX0_blankLines_0 : decode cX0_blankLines 0 = .ok (.iconst 0, 1) := by decide +kernel
theorem dX0_blankLines_1 : decode cX0_blankLines 1 = .ok (.istore_n 1, 1) := by decide +kernel
theorem dX0_blankLines_2 : decode cX0_blankLines 2 = .ok (.iconst 0, 1) := by decide +kernel
theorem dX0_blankLines_3 : decode cX0_blankLines 3 = .ok (.istore_n 2, 1) := by decide +kernel
theorem dX0_blankLines_4 : decode cX0_blankLines 4 = .ok (.iload_n 2, 1) := by decide +kernel
theorem dX0_blankLines_5 : decode cX0_blankLines 5 = .ok (.aload_n 0, 1) := by decide +kernel
theorem dX0_blankLines_6 : decode cX0_blankLines 6 = .ok (.getfield 39, 3) := by decide +kernel
theorem dX0_blankLines_9 : decode cX0_blankLines 9 = .ok (.if_icmp .ge 17, 3) := by decide +kernel
theorem dX0_blankLines_12 : decode cX0_blankLines 12 = .ok (.iload_n 1, 1) := by decide +kernel
theorem dX0_blankLines_13 : decode cX0_blankLines 13 = .ok (.aload_n 0, 1) := by decide +kernel
theorem dX0_blankLines_14 : decode cX0_blankLines 14 = .ok (.iload_n 2, 1) := by decide +kernel
theorem dX0_blankLines_15 : decode cX0_blankLines 15 = .ok (.invokevirtual 121, 3) := by decide +kernel
theorem dX0_blankLines_18 : decode cX0_blankLines 18 = .ok (.iadd, 1) := by decide +kernel
theorem dX0_blankLines_19 : decode cX0_blankLines 19 = .ok (.istore_n 1, 1) := by decide +kernel
theorem dX0_blankLines_20 : decode cX0_blankLines 20 = .ok (.iinc 2 1, 3) := by decide +kernel
theorem dX0_blankLines_23 : decode cX0_blankLines 23 = .ok (.goto (-19), 3) := by decide +kernel
theorem dX0_blankLines_26 : decode cX0_blankLines 26 = .ok (.iload_n 1, 1) := by decide +kernel
theorem dX0_blankLines_27 : decode cX0_blankLines 27 = .ok (.ireturn, 1) := by decide +kernel
theorem dX0_pagesOf_0 : decode cX0_pagesOf 0 = .ok (.aload_n 0, 1) := by decide +kernel
theorem dX0_pagesOf_1 : decode cX0_pagesOf 1 = .ok (.getfield 18, 3) := by decide +kernel
theorem dX0_pagesOf_4 : decode cX0_pagesOf 4 = .ok (.iload_n 1, 1) := by decide +kernel
theorem dX0_pagesOf_5 : decode cX0_pagesOf 5 = .ok (.iaload, 1) := by decide +kernel
theorem dX0_pagesOf_6 : decode cX0_pagesOf 6 = .ok (.aload_n 0, 1) := by decide +kernel
theorem dX0_pagesOf_7 : decode cX0_pagesOf 7 = .ok (.getfield 9, 3) := by decide +kernel
theorem dX0_pagesOf_10 : decode cX0_pagesOf 10 = .ok (.iload_n 1, 1) := by decide +kernel
theorem dX0_pagesOf_11 : decode cX0_pagesOf 11 = .ok (.iaload, 1) := by decide +kernel
theorem dX0_pagesOf_12 : decode cX0_pagesOf 12 = .ok (.isub, 1) := by decide +kernel
theorem dX0_pagesOf_13 : decode cX0_pagesOf 13 = .ok (.iconst 1, 1) := by decide +kernel
theorem dX0_pagesOf_14 : decode cX0_pagesOf 14 = .ok (.iadd, 1) := by decide +kernel
theorem dX0_pagesOf_15 : decode cX0_pagesOf 15 = .ok (.ireturn, 1) := by decide +kernel
theorem dX0_pagesWithoutBegin_0 : decode cX0_pagesWithoutBegin 0 = .ok (.iconst 0, 1) := by decide +kernel
theorem dX0_pagesWithoutBegin_1 : decode cX0_pagesWithoutBegin 1 = .ok (.istore_n 1, 1) := by decide +kernel
theorem dX0_pagesWithoutBegin_2 : decode cX0_pagesWithoutBegin 2 = .ok (.iconst 0, 1) := by decide +kernel
theorem dX0_pagesWithoutBegin_3 : decode cX0_pagesWithoutBegin 3 = .ok (.istore_n 2, 1) := by decide +kernel
theorem dX0_pagesWithoutBegin_4 : decode cX0_pagesWithoutBegin 4 = .ok (.iload_n 2, 1) := by decide +kernel
theorem dX0_pagesWithoutBegin_5 : decode cX0_pagesWithoutBegin 5 = .ok (.aload_n 0, 1) := by decide +kernel
theorem dX0_pagesWithoutBegin_6 : decode cX0_pagesWithoutBegin 6 = .ok (.getfield 39, 3) := by decide +kernel
theorem dX0_pagesWithoutBegin_9 : decode cX0_pagesWithoutBegin 9 = .ok (.if_icmp .ge 21, 3) := by decide +kernel
theorem dX0_pagesWithoutBegin_12 : decode cX0_pagesWithoutBegin 12 = .ok (.aload_n 0, 1) := by decide +kernel
theorem dX0_pagesWithoutBegin_13 : decode cX0_pagesWithoutBegin 13 = .ok (.getfield 27, 3) := by decide +kernel
theorem dX0_pagesWithoutBegin_16 : decode cX0_pagesWithoutBegin 16 = .ok (.iload_n 2, 1) := by decide +kernel
theorem dX0_pagesWithoutBegin_17 : decode cX0_pagesWithoutBegin 17 = .ok (.iaload, 1) := by decide +kernel
theorem dX0_pagesWithoutBegin_18 : decode cX0_pagesWithoutBegin 18 = .ok (.ifCond .ne 6, 3) := by decide +kernel
theorem dX0_pagesWithoutBegin_21 : decode cX0_pagesWithoutBegin 21 = .ok (.iinc 1 1, 3) := by decide +kernel
theorem dX0_pagesWithoutBegin_24 : decode cX0_pagesWithoutBegin 24 = .ok (.iinc 2 1, 3) := by decide +kernel
theorem dX0_pagesWithoutBegin_27 : decode cX0_pagesWithoutBegin 27 = .ok (.goto (-23), 3) := by decide +kernel
theorem dX0_pagesWithoutBegin_30 : decode cX0_pagesWithoutBegin 30 = .ok (.iload_n 1, 1) := by decide +kernel
theorem dX0_pagesWithoutBegin_31 : decode cX0_pagesWithoutBegin 31 = .ok (.ireturn, 1) := by decide +kernel
set_option maxRecDepth 20000 in
theorem ggX0_partedEntries_X0_pagesOf : GoodIn wsX0_partedEntries wsX0_pagesOf := goodIn_r _ [5, 6, 7, 8, 9, 10, 11, 12, 13, 14, 15, 16, 17, 18, 19, 20, 21, 22] (by decide +kernel) (by decide +kernel)
set_option maxRecDepth 20000 in
theorem gX0_partedEntries_X0_pagesOf : GoodIn wsX0_partedEntries (wsV RX0 125 RX0 yX0_pagesOf wsX0_pagesOf) := goodIn_app (goodIn_of _ (by decide +kernel)) ggX0_partedEntries_X0_pagesOf
theorem dX0_partedEntries_0 : decode cX0_partedEntries 0 = .ok (.iconst 0, 1) := by decide +kernel
theorem dX0_partedEntries_1 : decode cX0_partedEntries 1 = .ok (.istore_n 2, 1) := by decide +kernel
theorem dX0_partedEntries_2 : decode cX0_partedEntries 2 = .ok (.iconst 0, 1) := by decide +kernel
theorem dX0_partedEntries_3 : decode cX0_partedEntries 3 = .ok (.istore_n 3, 1) := by decide +kernel
theorem dX0_partedEntries_4 : decode cX0_partedEntries 4 = .ok (.iload_n 3, 1) := by decide +kernel
theorem dX0_partedEntries_5 : decode cX0_partedEntries 5 = .ok (.iload_n 1, 1) := by decide +kernel
theorem dX0_partedEntries_6 : decode cX0_partedEntries 6 = .ok (.if_icmp .ge 21, 3) := by decide +kernel
theorem dX0_partedEntries_9 : decode cX0_partedEntries 9 = .ok (.aload_n 0, 1) := by decide +kernel
theorem dX0_partedEntries_10 : decode cX0_partedEntries 10 = .ok (.iload_n 3, 1) := by decide +kernel
theorem dX0_partedEntries_11 : decode cX0_partedEntries 11 = .ok (.invokevirtual 125, 3) := by decide +kernel
theorem dX0_partedEntries_14 : decode cX0_partedEntries 14 = .ok (.iconst 1, 1) := by decide +kernel
theorem dX0_partedEntries_15 : decode cX0_partedEntries 15 = .ok (.if_icmp .le 6, 3) := by decide +kernel
theorem dX0_partedEntries_18 : decode cX0_partedEntries 18 = .ok (.iinc 2 1, 3) := by decide +kernel
theorem dX0_partedEntries_21 : decode cX0_partedEntries 21 = .ok (.iinc 3 1, 3) := by decide +kernel
theorem dX0_partedEntries_24 : decode cX0_partedEntries 24 = .ok (.goto (-20), 3) := by decide +kernel
theorem dX0_partedEntries_27 : decode cX0_partedEntries 27 = .ok (.iload_n 2, 1) := by decide +kernel
theorem dX0_partedEntries_28 : decode cX0_partedEntries 28 = .ok (.ireturn, 1) := by decide +kernel
theorem dX0_headsOfTwoLines_0 : decode cX0_headsOfTwoLines 0 = .ok (.iconst 0, 1) := by decide +kernel
theorem dX0_headsOfTwoLines_1 : decode cX0_headsOfTwoLines 1 = .ok (.istore_n 1, 1) := by decide +kernel
theorem dX0_headsOfTwoLines_2 : decode cX0_headsOfTwoLines 2 = .ok (.iconst 0, 1) := by decide +kernel
theorem dX0_headsOfTwoLines_3 : decode cX0_headsOfTwoLines 3 = .ok (.istore_n 2, 1) := by decide +kernel
theorem dX0_headsOfTwoLines_4 : decode cX0_headsOfTwoLines 4 = .ok (.iload_n 2, 1) := by decide +kernel
theorem dX0_headsOfTwoLines_5 : decode cX0_headsOfTwoLines 5 = .ok (.aload_n 0, 1) := by decide +kernel
theorem dX0_headsOfTwoLines_6 : decode cX0_headsOfTwoLines 6 = .ok (.getfield 39, 3) := by decide +kernel
theorem dX0_headsOfTwoLines_9 : decode cX0_headsOfTwoLines 9 = .ok (.if_icmp .ge 22, 3) := by decide +kernel
theorem dX0_headsOfTwoLines_12 : decode cX0_headsOfTwoLines 12 = .ok (.aload_n 0, 1) := by decide +kernel
theorem dX0_headsOfTwoLines_13 : decode cX0_headsOfTwoLines 13 = .ok (.getfield 33, 3) := by decide +kernel
theorem dX0_headsOfTwoLines_16 : decode cX0_headsOfTwoLines 16 = .ok (.iload_n 2, 1) := by decide +kernel
theorem dX0_headsOfTwoLines_17 : decode cX0_headsOfTwoLines 17 = .ok (.iaload, 1) := by decide +kernel
theorem dX0_headsOfTwoLines_18 : decode cX0_headsOfTwoLines 18 = .ok (.iconst 2, 1) := by decide +kernel
theorem dX0_headsOfTwoLines_19 : decode cX0_headsOfTwoLines 19 = .ok (.if_icmp .ne 6, 3) := by decide +kernel
theorem dX0_headsOfTwoLines_22 : decode cX0_headsOfTwoLines 22 = .ok (.iinc 1 1, 3) := by decide +kernel
theorem dX0_headsOfTwoLines_25 : decode cX0_headsOfTwoLines 25 = .ok (.iinc 2 1, 3) := by decide +kernel
theorem dX0_headsOfTwoLines_28 : decode cX0_headsOfTwoLines 28 = .ok (.goto (-24), 3) := by decide +kernel
theorem dX0_headsOfTwoLines_31 : decode cX0_headsOfTwoLines 31 = .ok (.iload_n 1, 1) := by decide +kernel
theorem dX0_headsOfTwoLines_32 : decode cX0_headsOfTwoLines 32 = .ok (.ireturn, 1) := by decide +kernel
theorem dX1_init_0 : decode cX1_init 0 = .ok (.aload_n 0, 1) := by decide +kernel
theorem dX1_init_1 : decode cX1_init 1 = .ok (.invokespecial 3, 3) := by decide +kernel
theorem dX1_init_4 : decode cX1_init 4 = .ok (.aload_n 0, 1) := by decide +kernel
theorem dX1_init_5 : decode cX1_init 5 = .ok (.iconst 3, 1) := by decide +kernel
theorem dX1_init_6 : decode cX1_init 6 = .ok (.newarray .int, 2) := by decide +kernel
theorem dX1_init_8 : decode cX1_init 8 = .ok (.dup, 1) := by decide +kernel
theorem dX1_init_9 : decode cX1_init 9 = .ok (.iconst 0, 1) := by decide +kernel
theorem dX1_init_10 : decode cX1_init 10 = .ok (.getstatic 9, 3) := by decide +kernel
theorem dX1_init_13 : decode cX1_init 13 = .ok (.iconst 0, 1) := by decide +kernel
theorem dX1_init_14 : decode cX1_init 14 = .ok (.iaload, 1) := by decide +kernel
theorem dX1_init_15 : decode cX1_init 15 = .ok (.iastore, 1) := by decide +kernel
theorem dX1_init_16 : decode cX1_init 16 = .ok (.dup, 1) := by decide +kernel
theorem dX1_init_17 : decode cX1_init 17 = .ok (.iconst 1, 1) := by decide +kernel
theorem dX1_init_18 : decode cX1_init 18 = .ok (.getstatic 9, 3) := by decide +kernel
theorem dX1_init_21 : decode cX1_init 21 = .ok (.iconst 1, 1) := by decide +kernel
theorem dX1_init_22 : decode cX1_init 22 = .ok (.iaload, 1) := by decide +kernel
theorem dX1_init_23 : decode cX1_init 23 = .ok (.iastore, 1) := by decide +kernel
theorem dX1_init_24 : decode cX1_init 24 = .ok (.dup, 1) := by decide +kernel
theorem dX1_init_25 : decode cX1_init 25 = .ok (.iconst 2, 1) := by decide +kernel
theorem dX1_init_26 : decode cX1_init 26 = .ok (.getstatic 9, 3) := by decide +kernel
theorem dX1_init_29 : decode cX1_init 29 = .ok (.iconst 2, 1) := by decide +kernel
theorem dX1_init_30 : decode cX1_init 30 = .ok (.iaload, 1) := by decide +kernel
theorem dX1_init_31 : decode cX1_init 31 = .ok (.iastore, 1) := by decide +kernel
theorem dX1_init_32 : decode cX1_init 32 = .ok (.putfield 13, 3) := by decide +kernel
theorem dX1_init_35 : decode cX1_init 35 = .ok (.aload_n 0, 1) := by decide +kernel
theorem dX1_init_36 : decode cX1_init 36 = .ok (.bipush 30, 2) := by decide +kernel
theorem dX1_init_38 : decode cX1_init 38 = .ok (.newarray .int, 2) := by decide +kernel
theorem dX1_init_40 : decode cX1_init 40 = .ok (.putfield 18, 3) := by decide +kernel
theorem dX1_init_43 : decode cX1_init 43 = .ok (.aload_n 0, 1) := by decide +kernel
theorem dX1_init_44 : decode cX1_init 44 = .ok (.bipush 30, 2) := by decide +kernel
theorem dX1_init_46 : decode cX1_init 46 = .ok (.newarray .long, 2) := by decide +kernel
theorem dX1_init_48 : decode cX1_init 48 = .ok (.putfield 21, 3) := by decide +kernel
theorem dX1_init_51 : decode cX1_init 51 = .ok (.aload_n 0, 1) := by decide +kernel
theorem dX1_init_52 : decode cX1_init 52 = .ok (.iconst 0, 1) := by decide +kernel
theorem dX1_init_53 : decode cX1_init 53 = .ok (.putfield 25, 3) := by decide +kernel
theorem dX1_init_56 : decode cX1_init 56 = .ok (.return_, 1) := by decide +kernel
theorem dX1_copyOf_0 : decode cX1_copyOf 0 = .ok (.iconst 0, 1) := by decide +kernel
theorem dX1_copyOf_1 : decode cX1_copyOf 1 = .ok (.istore_n 2, 1) := by decide +kernel
theorem dX1_copyOf_2 : decode cX1_copyOf 2 = .ok (.iload_n 2, 1) := by decide +kernel
theorem dX1_copyOf_3 : decode cX1_copyOf 3 = .ok (.iconst 3, 1) := by decide +kernel
theorem dX1_copyOf_4 : decode cX1_copyOf 4 = .ok (.if_icmp .ge 21, 3) := by decide +kernel
theorem dX1_copyOf_7 : decode cX1_copyOf 7 = .ok (.aload_n 0, 1) := by decide +kernel
theorem dX1_copyOf_8 : decode cX1_copyOf 8 = .ok (.getfield 13, 3) := by decide +kernel
theorem dX1_copyOf_11 : decode cX1_copyOf 11 = .ok (.iload_n 2, 1) := by decide +kernel
theorem dX1_copyOf_12 : decode cX1_copyOf 12 = .ok (.aload_n 1, 1) := by decide +kernel
theorem dX1_copyOf_13 : decode cX1_copyOf 13 = .ok (.getfield 13, 3) := by decide +kernel
theorem dX1_copyOf_16 : decode cX1_copyOf 16 = .ok (.iload_n 2, 1) := by decide +kernel
theorem dX1_copyOf_17 : decode cX1_copyOf 17 = .ok (.iaload, 1) := by decide +kernel
theorem dX1_copyOf_18 : decode cX1_copyOf 18 = .ok (.iastore, 1) := by decide +kernel
theorem dX1_copyOf_19 : decode cX1_copyOf 19 = .ok (.iinc 2 1, 3) := by decide +kernel
theorem dX1_copyOf_22 : decode cX1_copyOf 22 = .ok (.goto (-20), 3) := by decide +kernel
theorem dX1_copyOf_25 : decode cX1_copyOf 25 = .ok (.iconst 0, 1) := by decide +kernel
theorem dX1_copyOf_26 : decode cX1_copyOf 26 = .ok (.istore_n 2, 1) := by decide +kernel
theorem dX1_copyOf_27 : decode cX1_copyOf 27 = .ok (.iload_n 2, 1) := by decide +kernel
theorem dX1_copyOf_28 : decode cX1_copyOf 28 = .ok (.aload_n 1, 1) := by decide +kernel
theorem dX1_copyOf_29 : decode cX1_copyOf 29 = .ok (.getfield 25, 3) := by decide +kernel
theorem dX1_copyOf_32 : decode cX1_copyOf 32 = .ok (.if_icmp .ge 33, 3) := by decide +kernel
theorem dX1_copyOf_35 : decode cX1_copyOf 35 = .ok (.aload_n 0, 1) := by decide +kernel
theorem dX1_copyOf_36 : decode cX1_copyOf 36 = .ok (.getfield 18, 3) := by decide +kernel
theorem dX1_copyOf_39 : decode cX1_copyOf 39 = .ok (.iload_n 2, 1) := by decide +kernel
theorem dX1_copyOf_40 : decode cX1_copyOf 40 = .ok (.aload_n 1, 1) := by decide +kernel
theorem dX1_copyOf_41 : decode cX1_copyOf 41 = .ok (.getfield 18, 3) := by decide +kernel
theorem dX1_copyOf_44 : decode cX1_copyOf 44 = .ok (.iload_n 2, 1) := by decide +kernel
theorem dX1_copyOf_45 : decode cX1_copyOf 45 = .ok (.iaload, 1) := by decide +kernel
theorem dX1_copyOf_46 : decode cX1_copyOf 46 = .ok (.iastore, 1) := by decide +kernel
theorem dX1_copyOf_47 : decode cX1_copyOf 47 = .ok (.aload_n 0, 1) := by decide +kernel
theorem dX1_copyOf_48 : decode cX1_copyOf 48 = .ok (.getfield 21, 3) := by decide +kernel
theorem dX1_copyOf_51 : decode cX1_copyOf 51 = .ok (.iload_n 2, 1) := by decide +kernel
theorem dX1_copyOf_52 : decode cX1_copyOf 52 = .ok (.aload_n 1, 1) := by decide +kernel
theorem dX1_copyOf_53 : decode cX1_copyOf 53 = .ok (.getfield 21, 3) := by decide +kernel
theorem dX1_copyOf_56 : decode cX1_copyOf 56 = .ok (.iload_n 2, 1) := by decide +kernel
theorem dX1_copyOf_57 : decode cX1_copyOf 57 = .ok (.laload, 1) := by decide +kernel
theorem dX1_copyOf_58 : decode cX1_copyOf 58 = .ok (.lastore, 1) := by decide +kernel
theorem dX1_copyOf_59 : decode cX1_copyOf 59 = .ok (.iinc 2 1, 3) := by decide +kernel
theorem dX1_copyOf_62 : decode cX1_copyOf 62 = .ok (.goto (-35), 3) := by decide +kernel
theorem dX1_copyOf_65 : decode cX1_copyOf 65 = .ok (.aload_n 0, 1) := by decide +kernel
theorem dX1_copyOf_66 : decode cX1_copyOf 66 = .ok (.aload_n 1, 1) := by decide +kernel
theorem dX1_copyOf_67 : decode cX1_copyOf 67 = .ok (.getfield 25, 3) := by decide +kernel
theorem dX1_copyOf_70 : decode cX1_copyOf 70 = .ok (.putfield 25, 3) := by decide +kernel
theorem dX1_copyOf_73 : decode cX1_copyOf 73 = .ok (.return_, 1) := by decide +kernel
theorem dX1_hasEntry_0 : decode cX1_hasEntry 0 = .ok (.iload_n 1, 1) := by decide +kernel
theorem dX1_hasEntry_1 : decode cX1_hasEntry 1 = .ok (.ifCond .lt 15, 3) := by decide +kernel
theorem dX1_hasEntry_4 : decode cX1_hasEntry 4 = .ok (.iload_n 1, 1) := by decide +kernel
theorem dX1_hasEntry_5 : decode cX1_hasEntry 5 = .ok (.aload_n 0, 1) := by decide +kernel
theorem dX1_hasEntry_6 : decode cX1_hasEntry 6 = .ok (.getfield 25, 3) := by decide +kernel
theorem dX1_hasEntry_9 : decode cX1_hasEntry 9 = .ok (.if_icmp .ge 7, 3) := by decide +kernel
theorem dX1_hasEntry_12 : decode cX1_hasEntry 12 = .ok (.iconst 1, 1) := by decide +kernel
theorem dX1_hasEntry_13 : decode cX1_hasEntry 13 = .ok (.goto 4, 3) := by decide +kernel
theorem dX1_hasEntry_16 : decode cX1_hasEntry 16 = .ok (.iconst 0, 1) := by decide +kernel
theorem dX1_hasEntry_17 : decode cX1_hasEntry 17 = .ok (.ireturn, 1) := by decide +kernel
set_option maxRecDepth 20000 in
theorem ggX1_wordOf_X1_hasEntry : GoodIn wsX1_wordOf wsX1_hasEntry := goodIn_r _ [6, 7, 8, 9, 10, 11] (by decide +kernel) (by decide +kernel)
set_option maxRecDepth 20000 in
theorem gX1_wordOf_X1_hasEntry : GoodIn wsX1_wordOf (wsV RX1 29 RX1 yX1_hasEntry wsX1_hasEntry) := goodIn_app (goodIn_of _ (by decide +kernel)) ggX1_wordOf_X1_hasEntry
theorem dX1_wordOf_0 : decode cX1_wordOf 0 = .ok (.aload_n 0, 1) := by decide +kernel
theorem dX1_wordOf_1 : decode cX1_wordOf 1 = .ok (.iload_n 1, 1) := by decide +kernel
theorem dX1_wordOf_2 : decode cX1_wordOf 2 = .ok (.invokevirtual 29, 3) := by decide +kernel
theorem dX1_wordOf_5 : decode cX1_wordOf 5 = .ok (.ifCond .eq 12, 3) := by decide +kernel
theorem dX1_wordOf_8 : decode cX1_wordOf 8 = .ok (.aload_n 0, 1) := by decide +kernel
theorem dX1_wordOf_9 : decode cX1_wordOf 9 = .ok (.getfield 21, 3) := by decide +kernel
theorem dX1_wordOf_12 : decode cX1_wordOf 12 = .ok (.iload_n 1, 1) := by decide +kernel
theorem dX1_wordOf_13 : decode cX1_wordOf 13 = .ok (.laload, 1) := by decide +kernel
theorem dX1_wordOf_14 : decode cX1_wordOf 14 = .ok (.goto 4, 3) := by decide +kernel
theorem dX1_wordOf_17 : decode cX1_wordOf 17 = .ok (.lconst 0, 1) := by decide +kernel
theorem dX1_wordOf_18 : decode cX1_wordOf 18 = .ok (.lreturn, 1) := by decide +kernel
theorem dX1_linesOfAll_0 : decode cX1_linesOfAll 0 = .ok (.iconst 0, 1) := by decide +kernel
theorem dX1_linesOfAll_1 : decode cX1_linesOfAll 1 = .ok (.istore_n 1, 1) := by decide +kernel
theorem dX1_linesOfAll_2 : decode cX1_linesOfAll 2 = .ok (.iconst 0, 1) := by decide +kernel
theorem dX1_linesOfAll_3 : decode cX1_linesOfAll 3 = .ok (.istore_n 2, 1) := by decide +kernel
theorem dX1_linesOfAll_4 : decode cX1_linesOfAll 4 = .ok (.iload_n 2, 1) := by decide +kernel
theorem dX1_linesOfAll_5 : decode cX1_linesOfAll 5 = .ok (.aload_n 0, 1) := by decide +kernel
theorem dX1_linesOfAll_6 : decode cX1_linesOfAll 6 = .ok (.getfield 25, 3) := by decide +kernel
theorem dX1_linesOfAll_9 : decode cX1_linesOfAll 9 = .ok (.if_icmp .ge 18, 3) := by decide +kernel
theorem dX1_linesOfAll_12 : decode cX1_linesOfAll 12 = .ok (.iload_n 1, 1) := by decide +kernel
theorem dX1_linesOfAll_13 : decode cX1_linesOfAll 13 = .ok (.aload_n 0, 1) := by decide +kernel
theorem dX1_linesOfAll_14 : decode cX1_linesOfAll 14 = .ok (.getfield 18, 3) := by decide +kernel
theorem dX1_linesOfAll_17 : decode cX1_linesOfAll 17 = .ok (.iload_n 2, 1) := by decide +kernel
theorem dX1_linesOfAll_18 : decode cX1_linesOfAll 18 = .ok (.iaload, 1) := by decide +kernel
theorem dX1_linesOfAll_19 : decode cX1_linesOfAll 19 = .ok (.iadd, 1) := by decide +kernel
theorem dX1_linesOfAll_20 : decode cX1_linesOfAll 20 = .ok (.istore_n 1, 1) := by decide +kernel
theorem dX1_linesOfAll_21 : decode cX1_linesOfAll 21 = .ok (.iinc 2 1, 3) := by decide +kernel
theorem dX1_linesOfAll_24 : decode cX1_linesOfAll 24 = .ok (.goto (-20), 3) := by decide +kernel
theorem dX1_linesOfAll_27 : decode cX1_linesOfAll 27 = .ok (.iload_n 1, 1) := by decide +kernel
theorem dX1_linesOfAll_28 : decode cX1_linesOfAll 28 = .ok (.ireturn, 1) := by decide +kernel
set_option maxRecDepth 20000 in
theorem ggX1_numberOf_X1_placeOf : GoodIn wsX1_numberOf wsX1_placeOf := goodIn_r _ [6, 7, 1, 12, 13, 14, 15] (by decide +kernel) (by decide +kernel)
set_option maxRecDepth 20000 in
theorem gX1_numberOf_X1_placeOf : GoodIn wsX1_numberOf (wsV RX1 35 RX1 yX1_placeOf wsX1_placeOf) := goodIn_app (goodIn_of _ (by decide +kernel)) ggX1_numberOf_X1_placeOf
set_option maxRecDepth 20000 in
theorem ggX1_numberOf_X1_hasEntry : GoodIn wsX1_numberOf wsX1_hasEntry := goodIn_r _ [11, 7, 12, 13, 14, 15] (by decide +kernel) (by decide +kernel)
set_option maxRecDepth 20000 in
theorem gX1_numberOf_X1_hasEntry : GoodIn wsX1_numberOf (wsV RX1 29 RX1 yX1_hasEntry wsX1_hasEntry) := goodIn_app (goodIn_of _ (by decide +kernel)) ggX1_numberOf_X1_hasEntry
theorem dX1_numberOf_0 : decode cX1_numberOf 0 = .ok (.aload_n 0, 1) := by decide +kernel
theorem dX1_numberOf_1 : decode cX1_numberOf 1 = .ok (.lload_n 1, 1) := by decide +kernel
theorem dX1_numberOf_2 : decode cX1_numberOf 2 = .ok (.invokevirtual 35, 3) := by decide +kernel
theorem dX1_numberOf_5 : decode cX1_numberOf 5 = .ok (.istore_n 3, 1) := by decide +kernel
theorem dX1_numberOf_6 : decode cX1_numberOf 6 = .ok (.aload_n 0, 1) := by decide +kernel
theorem dX1_numberOf_7 : decode cX1_numberOf 7 = .ok (.iload_n 3, 1) := by decide +kernel
theorem dX1_numberOf_8 : decode cX1_numberOf 8 = .ok (.invokevirtual 29, 3) := by decide +kernel
theorem dX1_numberOf_11 : decode cX1_numberOf 11 = .ok (.ifCond .eq 18, 3) := by decide +kernel
theorem dX1_numberOf_14 : decode cX1_numberOf 14 = .ok (.aload_n 0, 1) := by decide +kernel
theorem dX1_numberOf_15 : decode cX1_numberOf 15 = .ok (.getfield 21, 3) := by decide +kernel
theorem dX1_numberOf_18 : decode cX1_numberOf 18 = .ok (.iload_n 3, 1) := by decide +kernel
theorem dX1_numberOf_19 : decode cX1_numberOf 19 = .ok (.laload, 1) := by decide +kernel
theorem dX1_numberOf_20 : decode cX1_numberOf 20 = .ok (.lload_n 1, 1) := by decide +kernel
theorem dX1_numberOf_21 : decode cX1_numberOf 21 = .ok (.lcmp, 1) := by decide +kernel
theorem dX1_numberOf_22 : decode cX1_numberOf 22 = .ok (.ifCond .ne 7, 3) := by decide +kernel
theorem dX1_numberOf_25 : decode cX1_numberOf 25 = .ok (.iload_n 3, 1) := by decide +kernel
theorem dX1_numberOf_26 : decode cX1_numberOf 26 = .ok (.goto 5, 3) := by decide +kernel
theorem dX1_numberOf_29 : decode cX1_numberOf 29 = .ok (.bipush (-6), 2) := by decide +kernel
theorem dX1_numberOf_31 : decode cX1_numberOf 31 = .ok (.ireturn, 1) := by decide +kernel
set_option maxRecDepth 20000 in
theorem ggX1_tell_X1_placeOf : GoodIn wsX1_tell wsX1_placeOf := goodIn_r _ [8, 2, 1, 17, 18, 19, 20] (by decide +kernel) (by decide +kernel)
set_option maxRecDepth 20000 in
theorem gX1_tell_X1_placeOf : GoodIn wsX1_tell (wsV RX1 35 RX1 yX1_placeOf wsX1_placeOf) := goodIn_app (goodIn_of _ (by decide +kernel)) ggX1_tell_X1_placeOf
set_option maxRecDepth 20000 in
theorem ggX1_tell_X1_hasEntry : GoodIn wsX1_tell wsX1_hasEntry := goodIn_r _ [12, 2, 17, 18, 19, 20] (by decide +kernel) (by decide +kernel)
set_option maxRecDepth 20000 in
theorem gX1_tell_X1_hasEntry : GoodIn wsX1_tell (wsV RX1 29 RX1 yX1_hasEntry wsX1_hasEntry) := goodIn_app (goodIn_of _ (by decide +kernel)) ggX1_tell_X1_hasEntry
set_option maxRecDepth 20000 in
theorem ggX1_tell_X1_makePlaceAt : GoodIn wsX1_tell wsX1_makePlaceAt := goodIn_r _ [16, 2, 1, 3, 17, 18, 19, 20] (by decide +kernel) (by decide +kernel)
set_option maxRecDepth 20000 in
theorem gX1_tell_X1_makePlaceAt : GoodIn wsX1_tell (wsV RX1 39 RX1 yX1_makePlaceAt wsX1_makePlaceAt) := goodIn_app (goodIn_of _ (by decide +kernel)) ggX1_tell_X1_makePlaceAt
theorem dX1_tell_0 : decode cX1_tell 0 = .ok (.aload_n 0, 1) := by decide +kernel
theorem dX1_tell_1 : decode cX1_tell 1 = .ok (.lload_n 1, 1) := by decide +kernel
theorem dX1_tell_2 : decode cX1_tell 2 = .ok (.invokevirtual 35, 3) := by decide +kernel
theorem dX1_tell_5 : decode cX1_tell 5 = .ok (.istore 4, 2) := by decide +kernel
theorem dX1_tell_7 : decode cX1_tell 7 = .ok (.aload_n 0, 1) := by decide +kernel
theorem dX1_tell_8 : decode cX1_tell 8 = .ok (.iload 4, 2) := by decide +kernel
theorem dX1_tell_10 : decode cX1_tell 10 = .ok (.invokevirtual 29, 3) := by decide +kernel
theorem dX1_tell_13 : decode cX1_tell 13 = .ok (.ifCond .eq 15, 3) := by decide +kernel
theorem dX1_tell_16 : decode cX1_tell 16 = .ok (.aload_n 0, 1) := by decide +kernel
theorem dX1_tell_17 : decode cX1_tell 17 = .ok (.getfield 21, 3) := by decide +kernel
theorem dX1_tell_20 : decode cX1_tell 20 = .ok (.iload 4, 2) := by decide +kernel
theorem dX1_tell_22 : decode cX1_tell 22 = .ok (.laload, 1) := by decide +kernel
theorem dX1_tell_23 : decode cX1_tell 23 = .ok (.lload_n 1, 1) := by decide +kernel
theorem dX1_tell_24 : decode cX1_tell 24 = .ok (.lcmp, 1) := by decide +kernel
theorem dX1_tell_25 : decode cX1_tell 25 = .ok (.ifCond .eq 28, 3) := by decide +kernel
theorem dX1_tell_28 : decode cX1_tell 28 = .ok (.aload_n 0, 1) := by decide +kernel
theorem dX1_tell_29 : decode cX1_tell 29 = .ok (.getfield 25, 3) := by decide +kernel
theorem dX1_tell_32 : decode cX1_tell 32 = .ok (.bipush 30, 2) := by decide +kernel
theorem dX1_tell_34 : decode cX1_tell 34 = .ok (.if_icmp .lt 5, 3) := by decide +kernel
theorem dX1_tell_37 : decode cX1_tell 37 = .ok (.iconst 0, 1) := by decide +kernel
theorem dX1_tell_38 : decode cX1_tell 38 = .ok (.ireturn, 1) := by decide +kernel
theorem dX1_tell_39 : decode cX1_tell 39 = .ok (.aload_n 0, 1) := by decide +kernel
theorem dX1_tell_40 : decode cX1_tell 40 = .ok (.iload 4, 2) := by decide +kernel
theorem dX1_tell_42 : decode cX1_tell 42 = .ok (.invokevirtual 39, 3) := by decide +kernel
theorem dX1_tell_45 : decode cX1_tell 45 = .ok (.aload_n 0, 1) := by decide +kernel
theorem dX1_tell_46 : decode cX1_tell 46 = .ok (.getfield 21, 3) := by decide +kernel
theorem dX1_tell_49 : decode cX1_tell 49 = .ok (.iload 4, 2) := by decide +kernel
theorem dX1_tell_51 : decode cX1_tell 51 = .ok (.lload_n 1, 1) := by decide +kernel
theorem dX1_tell_52 : decode cX1_tell 52 = .ok (.lastore, 1) := by decide +kernel
theorem dX1_tell_53 : decode cX1_tell 53 = .ok (.aload_n 0, 1) := by decide +kernel
theorem dX1_tell_54 : decode cX1_tell 54 = .ok (.getfield 18, 3) := by decide +kernel
theorem dX1_tell_57 : decode cX1_tell 57 = .ok (.iload 4, 2) := by decide +kernel
theorem dX1_tell_59 : decode cX1_tell 59 = .ok (.iload_n 3, 1) := by decide +kernel
theorem dX1_tell_60 : decode cX1_tell 60 = .ok (.iastore, 1) := by decide +kernel
theorem dX1_tell_61 : decode cX1_tell 61 = .ok (.iconst 1, 1) := by decide +kernel
theorem dX1_tell_62 : decode cX1_tell 62 = .ok (.ireturn, 1) := by decide +kernel
set_option maxRecDepth 20000 in
theorem ggX1_takeOut_X1_hasEntry : GoodIn wsX1_takeOut wsX1_hasEntry := goodIn_r _ [8, 1, 9, 10, 11, 12] (by decide +kernel) (by decide +kernel)
set_option maxRecDepth 20000 in
theorem gX1_takeOut_X1_hasEntry : GoodIn wsX1_takeOut (wsV RX1 29 RX1 yX1_hasEntry wsX1_hasEntry) := goodIn_app (goodIn_of _ (by decide +kernel)) ggX1_takeOut_X1_hasEntry
theorem dX1_takeOut_0 : decode cX1_takeOut 0 = .ok (.aload_n 0, 1) := by decide +kernel
theorem dX1_takeOut_1 : decode cX1_takeOut 1 = .ok (.iload_n 1, 1) := by decide +kernel
theorem dX1_takeOut_2 : decode cX1_takeOut 2 = .ok (.invokevirtual 29, 3) := by decide +kernel
theorem dX1_takeOut_5 : decode cX1_takeOut 5 = .ok (.ifCond .ne 4, 3) := by decide +kernel
theorem dX1_takeOut_8 : decode cX1_takeOut 8 = .ok (.return_, 1) := by decide +kernel
theorem dX1_takeOut_9 : decode cX1_takeOut 9 = .ok (.iload_n 1, 1) := by decide +kernel
theorem dX1_takeOut_10 : decode cX1_takeOut 10 = .ok (.iconst 1, 1) := by decide +kernel
theorem dX1_takeOut_11 : decode cX1_takeOut 11 = .ok (.iadd, 1) := by decide +kernel
theorem dX1_takeOut_12 : decode cX1_takeOut 12 = .ok (.istore_n 2, 1) := by decide +kernel
theorem dX1_takeOut_13 : decode cX1_takeOut 13 = .ok (.iload_n 2, 1) := by decide +kernel
theorem dX1_takeOut_14 : decode cX1_takeOut 14 = .ok (.aload_n 0, 1) := by decide +kernel
theorem dX1_takeOut_15 : decode cX1_takeOut 15 = .ok (.getfield 25, 3) := by decide +kernel
theorem dX1_takeOut_18 : decode cX1_takeOut 18 = .ok (.if_icmp .ge 37, 3) := by decide +kernel
theorem dX1_takeOut_21 : decode cX1_takeOut 21 = .ok (.aload_n 0, 1) := by decide +kernel
theorem dX1_takeOut_22 : decode cX1_takeOut 22 = .ok (.getfield 21, 3) := by decide +kernel
theorem dX1_takeOut_25 : decode cX1_takeOut 25 = .ok (.iload_n 2, 1) := by decide +kernel
theorem dX1_takeOut_26 : decode cX1_takeOut 26 = .ok (.iconst 1, 1) := by decide +kernel
theorem dX1_takeOut_27 : decode cX1_takeOut 27 = .ok (.isub, 1) := by decide +kernel
theorem dX1_takeOut_28 : decode cX1_takeOut 28 = .ok (.aload_n 0, 1) := by decide +kernel
theorem dX1_takeOut_29 : decode cX1_takeOut 29 = .ok (.getfield 21, 3) := by decide +kernel
theorem dX1_takeOut_32 : decode cX1_takeOut 32 = .ok (.iload_n 2, 1) := by decide +kernel
theorem dX1_takeOut_33 : decode cX1_takeOut 33 = .ok (.laload, 1) := by decide +kernel
theorem dX1_takeOut_34 : decode cX1_takeOut 34 = .ok (.lastore, 1) := by decide +kernel
theorem dX1_takeOut_35 : decode cX1_takeOut 35 = .ok (.aload_n 0, 1) := by decide +kernel
theorem dX1_takeOut_36 : decode cX1_takeOut 36 = .ok (.getfield 18, 3) := by decide +kernel
theorem dX1_takeOut_39 : decode cX1_takeOut 39 = .ok (.iload_n 2, 1) := by decide +kernel
theorem dX1_takeOut_40 : decode cX1_takeOut 40 = .ok (.iconst 1, 1) := by decide +kernel
theorem dX1_takeOut_41 : decode cX1_takeOut 41 = .ok (.isub, 1) := by decide +kernel
theorem dX1_takeOut_42 : decode cX1_takeOut 42 = .ok (.aload_n 0, 1) := by decide +kernel
theorem dX1_takeOut_43 : decode cX1_takeOut 43 = .ok (.getfield 18, 3) := by decide +kernel
theorem dX1_takeOut_46 : decode cX1_takeOut 46 = .ok (.iload_n 2, 1) := by decide +kernel
theorem dX1_takeOut_47 : decode cX1_takeOut 47 = .ok (.iaload, 1) := by decide +kernel
theorem dX1_takeOut_48 : decode cX1_takeOut 48 = .ok (.iastore, 1) := by decide +kernel
theorem dX1_takeOut_49 : decode cX1_takeOut 49 = .ok (.iinc 2 1, 3) := by decide +kernel
theorem dX1_takeOut_52 : decode cX1_takeOut 52 = .ok (.goto (-39), 3) := by decide +kernel
theorem dX1_takeOut_55 : decode cX1_takeOut 55 = .ok (.aload_n 0, 1) := by decide +kernel
theorem dX1_takeOut_56 : decode cX1_takeOut 56 = .ok (.dup, 1) := by decide +kernel
theorem dX1_takeOut_57 : decode cX1_takeOut 57 = .ok (.getfield 25, 3) := by decide +kernel
theorem dX1_takeOut_60 : decode cX1_takeOut 60 = .ok (.iconst 1, 1) := by decide +kernel
theorem dX1_takeOut_61 : decode cX1_takeOut 61 = .ok (.isub, 1) := by decide +kernel
theorem dX1_takeOut_62 : decode cX1_takeOut 62 = .ok (.putfield 25, 3) := by decide +kernel
theorem dX1_takeOut_65 : decode cX1_takeOut 65 = .ok (.return_, 1) := by decide +kernel
theorem dX1_placeOf_0 : decode cX1_placeOf 0 = .ok (.iconst 0, 1) := by decide +kernel
theorem dX1_placeOf_1 : decode cX1_placeOf 1 = .ok (.istore_n 3, 1) := by decide +kernel
theorem dX1_placeOf_2 : decode cX1_placeOf 2 = .ok (.iload_n 3, 1) := by decide +kernel
theorem dX1_placeOf_3 : decode cX1_placeOf 3 = .ok (.aload_n 0, 1) := by decide +kernel
theorem dX1_placeOf_4 : decode cX1_placeOf 4 = .ok (.getfield 25, 3) := by decide +kernel
theorem dX1_placeOf_7 : decode cX1_placeOf 7 = .ok (.if_icmp .ge 22, 3) := by decide +kernel
theorem dX1_placeOf_10 : decode cX1_placeOf 10 = .ok (.aload_n 0, 1) := by decide +kernel
theorem dX1_placeOf_11 : decode cX1_placeOf 11 = .ok (.getfield 21, 3) := by decide +kernel
theorem dX1_placeOf_14 : decode cX1_placeOf 14 = .ok (.iload_n 3, 1) := by decide +kernel
theorem dX1_placeOf_15 : decode cX1_placeOf 15 = .ok (.laload, 1) := by decide +kernel
theorem dX1_placeOf_16 : decode cX1_placeOf 16 = .ok (.lload_n 1, 1) := by decide +kernel
theorem dX1_placeOf_17 : decode cX1_placeOf 17 = .ok (.lcmp, 1) := by decide +kernel
theorem dX1_placeOf_18 : decode cX1_placeOf 18 = .ok (.ifCond .lt 5, 3) := by decide +kernel
theorem dX1_placeOf_21 : decode cX1_placeOf 21 = .ok (.iload_n 3, 1) := by decide +kernel
theorem dX1_placeOf_22 : decode cX1_placeOf 22 = .ok (.ireturn, 1) := by decide +kernel
theorem dX1_placeOf_23 : decode cX1_placeOf 23 = .ok (.iinc 3 1, 3) := by decide +kernel
theorem dX1_placeOf_26 : decode cX1_placeOf 26 = .ok (.goto (-24), 3) := by decide +kernel
theorem dX1_placeOf_29 : decode cX1_placeOf 29 = .ok (.aload_n 0, 1) := by decide +kernel
theorem dX1_placeOf_30 : decode cX1_placeOf 30 = .ok (.getfield 25, 3) := by decide +kernel
theorem dX1_placeOf_33 : decode cX1_placeOf 33 = .ok (.ireturn, 1) := by decide +kernel
theorem dX1_makePlaceAt_0 : decode cX1_makePlaceAt 0 = .ok (.aload_n 0, 1) := by decide +kernel
theorem dX1_makePlaceAt_1 : decode cX1_makePlaceAt 1 = .ok (.getfield 25, 3) := by decide +kernel
theorem dX1_makePlaceAt_4 : decode cX1_makePlaceAt 4 = .ok (.istore_n 2, 1) := by decide +kernel
theorem dX1_makePlaceAt_5 : decode cX1_makePlaceAt 5 = .ok (.iload_n 2, 1) := by decide +kernel
theorem dX1_makePlaceAt_6 : decode cX1_makePlaceAt 6 = .ok (.iload_n 1, 1) := by decide +kernel
theorem dX1_makePlaceAt_7 : decode cX1_makePlaceAt 7 = .ok (.if_icmp .le 37, 3) := by decide +kernel
theorem dX1_makePlaceAt_10 : decode cX1_makePlaceAt 10 = .ok (.aload_n 0, 1) := by decide +kernel
theorem dX1_makePlaceAt_11 : decode cX1_makePlaceAt 11 = .ok (.getfield 21, 3) := by decide +kernel
theorem dX1_makePlaceAt_14 : decode cX1_makePlaceAt 14 = .ok (.iload_n 2, 1) := by decide +kernel
theorem dX1_makePlaceAt_15 : decode cX1_makePlaceAt 15 = .ok (.aload_n 0, 1) := by decide +kernel
theorem dX1_makePlaceAt_16 : decode cX1_makePlaceAt 16 = .ok (.getfield 21, 3) := by decide +kernel
theorem dX1_makePlaceAt_19 : decode cX1_makePlaceAt 19 = .ok (.iload_n 2, 1) := by decide +kernel
theorem dX1_makePlaceAt_20 : decode cX1_makePlaceAt 20 = .ok (.iconst 1, 1) := by decide +kernel
theorem dX1_makePlaceAt_21 : decode cX1_makePlaceAt 21 = .ok (.isub, 1) := by decide +kernel
theorem dX1_makePlaceAt_22 : decode cX1_makePlaceAt 22 = .ok (.laload, 1) := by decide +kernel
theorem dX1_makePlaceAt_23 : decode cX1_makePlaceAt 23 = .ok (.lastore, 1) := by decide +kernel
theorem dX1_makePlaceAt_24 : decode cX1_makePlaceAt 24 = .ok (.aload_n 0, 1) := by decide +kernel
theorem dX1_makePlaceAt_25 : decode cX1_makePlaceAt 25 = .ok (.getfield 18, 3) := by decide +kernel
theorem dX1_makePlaceAt_28 : decode cX1_makePlaceAt 28 = .ok (.iload_n 2, 1) := by decide +kernel
theorem dX1_makePlaceAt_29 : decode cX1_makePlaceAt 29 = .ok (.aload_n 0, 1) := by decide +kernel
theorem dX1_makePlaceAt_30 : decode cX1_makePlaceAt 30 = .ok (.getfield 18, 3) := by decide +kernel
theorem dX1_makePlaceAt_33 : decode cX1_makePlaceAt 33 = .ok (.iload_n 2, 1) := by decide +kernel
theorem dX1_makePlaceAt_34 : decode cX1_makePlaceAt 34 = .ok (.iconst 1, 1) := by decide +kernel
theorem dX1_makePlaceAt_35 : decode cX1_makePlaceAt 35 = .ok (.isub, 1) := by decide +kernel
theorem dX1_makePlaceAt_36 : decode cX1_makePlaceAt 36 = .ok (.iaload, 1) := by decide +kernel
theorem dX1_makePlaceAt_37 : decode cX1_makePlaceAt 37 = .ok (.iastore, 1) := by decide +kernel
theorem dX1_makePlaceAt_38 : decode cX1_makePlaceAt 38 = .ok (.iinc 2 (-1), 3) := by decide +kernel
theorem dX1_makePlaceAt_41 : decode cX1_makePlaceAt 41 = .ok (.goto (-36), 3) := by decide +kernel
theorem dX1_makePlaceAt_44 : decode cX1_makePlaceAt 44 = .ok (.aload_n 0, 1) := by decide +kernel
theorem dX1_makePlaceAt_45 : decode cX1_makePlaceAt 45 = .ok (.dup, 1) := by decide +kernel
theorem dX1_makePlaceAt_46 : decode cX1_makePlaceAt 46 = .ok (.getfield 25, 3) := by decide +kernel
theorem dX1_makePlaceAt_49 : decode cX1_makePlaceAt 49 = .ok (.iconst 1, 1) := by decide +kernel
theorem dX1_makePlaceAt_50 : decode cX1_makePlaceAt 50 = .ok (.iadd, 1) := by decide +kernel
theorem dX1_makePlaceAt_51 : decode cX1_makePlaceAt 51 = .ok (.putfield 25, 3) := by decide +kernel
theorem dX1_makePlaceAt_54 : decode cX1_makePlaceAt 54 = .ok (.return_, 1) := by decide +kernel
theorem dX2_init_0 : decode cX2_init 0 = .ok (.aload_n 0, 1) := by decide +kernel
theorem dX2_init_1 : decode cX2_init 1 = .ok (.invokespecial 3, 3) := by decide +kernel
theorem dX2_init_4 : decode cX2_init 4 = .ok (.aload_n 0, 1) := by decide +kernel
theorem dX2_init_5 : decode cX2_init 5 = .ok (.bipush 60, 2) := by decide +kernel
theorem dX2_init_7 : decode cX2_init 7 = .ok (.newarray .int, 2) := by decide +kernel
theorem dX2_init_9 : decode cX2_init 9 = .ok (.putfield 9, 3) := by decide +kernel
theorem dX2_init_12 : decode cX2_init 12 = .ok (.aload_n 0, 1) := by decide +kernel
theorem dX2_init_13 : decode cX2_init 13 = .ok (.iconst 0, 1) := by decide +kernel
theorem dX2_init_14 : decode cX2_init 14 = .ok (.putfield 15, 3) := by decide +kernel
theorem dX2_init_17 : decode cX2_init 17 = .ok (.return_, 1) := by decide +kernel
theorem dX2_append_0 : decode cX2_append 0 = .ok (.aload_n 0, 1) := by decide +kernel
theorem dX2_append_1 : decode cX2_append 1 = .ok (.getfield 15, 3) := by decide +kernel
theorem dX2_append_4 : decode cX2_append 4 = .ok (.bipush 60, 2) := by decide +kernel
theorem dX2_append_6 : decode cX2_append 6 = .ok (.if_icmp .ge 23, 3) := by decide +kernel
theorem dX2_append_9 : decode cX2_append 9 = .ok (.aload_n 0, 1) := by decide +kernel
theorem dX2_append_10 : decode cX2_append 10 = .ok (.getfield 9, 3) := by decide +kernel
theorem dX2_append_13 : decode cX2_append 13 = .ok (.aload_n 0, 1) := by decide +kernel
theorem dX2_append_14 : decode cX2_append 14 = .ok (.getfield 15, 3) := by decide +kernel
theorem dX2_append_17 : decode cX2_append 17 = .ok (.iload_n 1, 1) := by decide +kernel
theorem dX2_append_18 : decode cX2_append 18 = .ok (.iastore, 1) := by decide +kernel
theorem dX2_append_19 : decode cX2_append 19 = .ok (.aload_n 0, 1) := by decide +kernel
theorem dX2_append_20 : decode cX2_append 20 = .ok (.dup, 1) := by decide +kernel
theorem dX2_append_21 : decode cX2_append 21 = .ok (.getfield 15, 3) := by decide +kernel
theorem dX2_append_24 : decode cX2_append 24 = .ok (.iconst 1, 1) := by decide +kernel
theorem dX2_append_25 : decode cX2_append 25 = .ok (.iadd, 1) := by decide +kernel
theorem dX2_append_26 : decode cX2_append 26 = .ok (.putfield 15, 3) := by decide +kernel
theorem dX2_append_29 : decode cX2_append 29 = .ok (.return_, 1) := by decide +kernel
theorem dX2_empty_0 : decode cX2_empty 0 = .ok (.aload_n 0, 1) := by decide +kernel
theorem dX2_empty_1 : decode cX2_empty 1 = .ok (.iconst 0, 1) := by decide +kernel
theorem dX2_empty_2 : decode cX2_empty 2 = .ok (.putfield 15, 3) := by decide +kernel
theorem dX2_empty_5 : decode cX2_empty 5 = .ok (.return_, 1) := by decide +kernel
set_option maxRecDepth 20000 in
theorem ggX2_isWord_X2_isLetter : GoodIn wsX2_isWord wsX2_isLetter := goodIn_r _ [6] (by decide +kernel) (by decide +kernel)
set_option maxRecDepth 20000 in
theorem gX2_isWord_X2_isLetter : GoodIn wsX2_isWord (va_wsS RX2 19 yX2_isLetter wsX2_isLetter) := goodIn_app (goodIn_of _ (by decide +kernel)) ggX2_isWord_X2_isLetter
theorem dX2_isWord_0 : decode cX2_isWord 0 = .ok (.aload_n 0, 1) := by decide +kernel
theorem dX2_isWord_1 : decode cX2_isWord 1 = .ok (.getfield 15, 3) := by decide +kernel
theorem dX2_isWord_4 : decode cX2_isWord 4 = .ok (.iconst 1, 1) := by decide +kernel
theorem dX2_isWord_5 : decode cX2_isWord 5 = .ok (.if_icmp .lt 12, 3) := by decide +kernel
theorem dX2_isWord_8 : decode cX2_isWord 8 = .ok (.aload_n 0, 1) := by decide +kernel
theorem dX2_isWord_9 : decode cX2_isWord 9 = .ok (.getfield 15, 3) := by decide +kernel
theorem dX2_isWord_12 : decode cX2_isWord 12 = .ok (.bipush 7, 2) := by decide +kernel
theorem dX2_isWord_14 : decode cX2_isWord 14 = .ok (.if_icmp .le 5, 3) := by decide +kernel
theorem dX2_isWord_17 : decode cX2_isWord 17 = .ok (.iconst 0, 1) := by decide +kernel
theorem dX2_isWord_18 : decode cX2_isWord 18 = .ok (.ireturn, 1) := by decide +kernel
theorem dX2_isWord_19 : decode cX2_isWord 19 = .ok (.iconst 0, 1) := by decide +kernel
theorem dX2_isWord_20 : decode cX2_isWord 20 = .ok (.istore_n 1, 1) := by decide +kernel
theorem dX2_isWord_21 : decode cX2_isWord 21 = .ok (.iload_n 1, 1) := by decide +kernel
theorem dX2_isWord_22 : decode cX2_isWord 22 = .ok (.aload_n 0, 1) := by decide +kernel
theorem dX2_isWord_23 : decode cX2_isWord 23 = .ok (.getfield 15, 3) := by decide +kernel
theorem dX2_isWord_26 : decode cX2_isWord 26 = .ok (.if_icmp .ge 23, 3) := by decide +kernel
theorem dX2_isWord_29 : decode cX2_isWord 29 = .ok (.aload_n 0, 1) := by decide +kernel
theorem dX2_isWord_30 : decode cX2_isWord 30 = .ok (.getfield 9, 3) := by decide +kernel
theorem dX2_isWord_33 : decode cX2_isWord 33 = .ok (.iload_n 1, 1) := by decide +kernel
theorem dX2_isWord_34 : decode cX2_isWord 34 = .ok (.iaload, 1) := by decide +kernel
theorem dX2_isWord_35 : decode cX2_isWord 35 = .ok (.invokestatic 19, 3) := by decide +kernel
theorem dX2_isWord_38 : decode cX2_isWord 38 = .ok (.ifCond .ne 5, 3) := by decide +kernel
theorem dX2_isWord_41 : decode cX2_isWord 41 = .ok (.iconst 0, 1) := by decide +kernel
theorem dX2_isWord_42 : decode cX2_isWord 42 = .ok (.ireturn, 1) := by decide +kernel
theorem dX2_isWord_43 : decode cX2_isWord 43 = .ok (.iinc 1 1, 3) := by decide +kernel
theorem dX2_isWord_46 : decode cX2_isWord 46 = .ok (.goto (-25), 3) := by decide +kernel
theorem dX2_isWord_49 : decode cX2_isWord 49 = .ok (.iconst 1, 1) := by decide +kernel
theorem dX2_isWord_50 : decode cX2_isWord 50 = .ok (.ireturn, 1) := by decide +kernel
set_option maxRecDepth 20000 in
theorem ggX2_word_X4_longer : GoodIn wsX2_word wsX4_longer := goodIn_r _ [6, 7, 8, 5, 9, 10, 11, 12, 13] (by decide +kernel) (by decide +kernel)
set_option maxRecDepth 20000 in
theorem gX2_word_X4_longer : GoodIn wsX2_word (va_wsS RX2 25 yX4_longer wsX4_longer) := goodIn_app (goodIn_of _ (by decide +kernel)) ggX2_word_X4_longer
theorem dX2_word_0 : decode cX2_word 0 = .ok (.lconst 0, 1) := by decide +kernel
theorem dX2_word_1 : decode cX2_word 1 = .ok (.lstore_n 1, 1) := by decide +kernel
theorem dX2_word_2 : decode cX2_word 2 = .ok (.iconst 0, 1) := by decide +kernel
theorem dX2_word_3 : decode cX2_word 3 = .ok (.istore_n 3, 1) := by decide +kernel
theorem dX2_word_4 : decode cX2_word 4 = .ok (.iload_n 3, 1) := by decide +kernel
theorem dX2_word_5 : decode cX2_word 5 = .ok (.aload_n 0, 1) := by decide +kernel
theorem dX2_word_6 : decode cX2_word 6 = .ok (.getfield 15, 3) := by decide +kernel
theorem dX2_word_9 : decode cX2_word 9 = .ok (.if_icmp .ge 20, 3) := by decide +kernel
theorem dX2_word_12 : decode cX2_word 12 = .ok (.lload_n 1, 1) := by decide +kernel
theorem dX2_word_13 : decode cX2_word 13 = .ok (.aload_n 0, 1) := by decide +kernel
theorem dX2_word_14 : decode cX2_word 14 = .ok (.getfield 9, 3) := by decide +kernel
theorem dX2_word_17 : decode cX2_word 17 = .ok (.iload_n 3, 1) := by decide +kernel
theorem dX2_word_18 : decode cX2_word 18 = .ok (.iaload, 1) := by decide +kernel
theorem dX2_word_19 : decode cX2_word 19 = .ok (.invokestatic 25, 3) := by decide +kernel
theorem dX2_word_22 : decode cX2_word 22 = .ok (.lstore_n 1, 1) := by decide +kernel
theorem dX2_word_23 : decode cX2_word 23 = .ok (.iinc 3 1, 3) := by decide +kernel
theorem dX2_word_26 : decode cX2_word 26 = .ok (.goto (-22), 3) := by decide +kernel
theorem dX2_word_29 : decode cX2_word 29 = .ok (.lload_n 1, 1) := by decide +kernel
theorem dX2_word_30 : decode cX2_word 30 = .ok (.lreturn, 1) := by decide +kernel
set_option maxRecDepth 20000 in
theorem ggX2_firstFault_X2_placeBehind : GoodIn wsX2_firstFault wsX2_placeBehind := goodIn_r _ [6, 7, 8, 5, 9, 10, 11, 12, 13, 14, 15] (by decide +kernel) (by decide +kernel)
set_option maxRecDepth 20000 in
theorem gX2_firstFault_X2_placeBehind : GoodIn wsX2_firstFault (va_wsS RX2 29 yX2_placeBehind wsX2_placeBehind) := goodIn_app (goodIn_of _ (by decide +kernel)) ggX2_firstFault_X2_placeBehind
theorem dX2_firstFault_0 : decode cX2_firstFault 0 = .ok (.iconst 0, 1) := by decide +kernel
theorem dX2_firstFault_1 : decode cX2_firstFault 1 = .ok (.istore_n 1, 1) := by decide +kernel
theorem dX2_firstFault_2 : decode cX2_firstFault 2 = .ok (.iconst 0, 1) := by decide +kernel
theorem dX2_firstFault_3 : decode cX2_firstFault 3 = .ok (.istore_n 2, 1) := by decide +kernel
theorem dX2_firstFault_4 : decode cX2_firstFault 4 = .ok (.iload_n 2, 1) := by decide +kernel
theorem dX2_firstFault_5 : decode cX2_firstFault 5 = .ok (.aload_n 0, 1) := by decide +kernel
theorem dX2_firstFault_6 : decode cX2_firstFault 6 = .ok (.getfield 15, 3) := by decide +kernel
theorem dX2_firstFault_9 : decode cX2_firstFault 9 = .ok (.if_icmp .ge 28, 3) := by decide +kernel
theorem dX2_firstFault_12 : decode cX2_firstFault 12 = .ok (.iload_n 1, 1) := by decide +kernel
theorem dX2_firstFault_13 : decode cX2_firstFault 13 = .ok (.aload_n 0, 1) := by decide +kernel
theorem dX2_firstFault_14 : decode cX2_firstFault 14 = .ok (.getfield 9, 3) := by decide +kernel
theorem dX2_firstFault_17 : decode cX2_firstFault 17 = .ok (.iload_n 2, 1) := by decide +kernel
theorem dX2_firstFault_18 : decode cX2_firstFault 18 = .ok (.iaload, 1) := by decide +kernel
theorem dX2_firstFault_19 : decode cX2_firstFault 19 = .ok (.invokestatic 29, 3) := by decide +kernel
theorem dX2_firstFault_22 : decode cX2_firstFault 22 = .ok (.istore_n 1, 1) := by decide +kernel
theorem dX2_firstFault_23 : decode cX2_firstFault 23 = .ok (.iload_n 1, 1) := by decide +kernel
theorem dX2_firstFault_24 : decode cX2_firstFault 24 = .ok (.bipush 12, 2) := by decide +kernel
theorem dX2_firstFault_26 : decode cX2_firstFault 26 = .ok (.if_icmp .ne 5, 3) := by decide +kernel
theorem dX2_firstFault_29 : decode cX2_firstFault 29 = .ok (.iload_n 2, 1) := by decide +kernel
theorem dX2_firstFault_30 : decode cX2_firstFault 30 = .ok (.ireturn, 1) := by decide +kernel
theorem dX2_firstFault_31 : decode cX2_firstFault 31 = .ok (.iinc 2 1, 3) := by decide +kernel
theorem dX2_firstFault_34 : decode cX2_firstFault 34 = .ok (.goto (-30), 3) := by decide +kernel
theorem dX2_firstFault_37 : decode cX2_firstFault 37 = .ok (.iload_n 1, 1) := by decide +kernel
theorem dX2_firstFault_38 : decode cX2_firstFault 38 = .ok (.bipush 9, 2) := by decide +kernel
theorem dX2_firstFault_40 : decode cX2_firstFault 40 = .ok (.if_icmp .lt 8, 3) := by decide +kernel
theorem dX2_firstFault_43 : decode cX2_firstFault 43 = .ok (.bipush (-6), 2) := by decide +kernel
theorem dX2_firstFault_45 : decode cX2_firstFault 45 = .ok (.goto 7, 3) := by decide +kernel
theorem dX2_firstFault_48 : decode cX2_firstFault 48 = .ok (.aload_n 0, 1) := by decide +kernel
theorem dX2_firstFault_49 : decode cX2_firstFault 49 = .ok (.getfield 15, 3) := by decide +kernel
theorem dX2_firstFault_52 : decode cX2_firstFault 52 = .ok (.ireturn, 1) := by decide +kernel
set_option maxRecDepth 20000 in
theorem ggX2_addEntriesTo_X2_isLetter : GoodIn wsX2_addEntriesTo wsX2_isLetter := goodIn_r _ [6] (by decide +kernel) (by decide +kernel)
set_option maxRecDepth 20000 in
theorem gX2_addEntriesTo_X2_isLetter : GoodIn wsX2_addEntriesTo (va_wsS RX2 19 yX2_isLetter wsX2_isLetter) := goodIn_app (goodIn_of _ (by decide +kernel)) ggX2_addEntriesTo_X2_isLetter
set_option maxRecDepth 20000 in
theorem ggX2_addEntriesTo_X4_longer : GoodIn wsX2_addEntriesTo wsX4_longer := goodIn_r _ [10, 11, 12, 9, 13, 14, 15, 16, 17] (by decide +kernel) (by decide +kernel)
set_option maxRecDepth 20000 in
theorem gX2_addEntriesTo_X4_longer : GoodIn wsX2_addEntriesTo (va_wsS RX2 25 yX4_longer wsX4_longer) := goodIn_app (goodIn_of _ (by decide +kernel)) ggX2_addEntriesTo_X4_longer
set_option maxRecDepth 20000 in
theorem ggX2_addEntriesTo_X2_isDigit : GoodIn wsX2_addEntriesTo wsX2_isDigit := goodIn_r _ [20] (by decide +kernel) (by decide +kernel)
set_option maxRecDepth 20000 in
theorem gX2_addEntriesTo_X2_isDigit : GoodIn wsX2_addEntriesTo (va_wsS RX2 33 yX2_isDigit wsX2_isDigit) := goodIn_app (goodIn_of _ (by decide +kernel)) ggX2_addEntriesTo_X2_isDigit
set_option maxRecDepth 20000 in
theorem ggX2_addEntriesTo_X1_tell : GoodIn wsX2_addEntriesTo wsX1_tell := goodIn_r _ [25, 26, 27, 28, 29, 30, 31, 24, 32, 33, 34, 35, 36, 37, 38, 39, 40, 43, 44, 45, 46] (by decide +kernel) (by decide +kernel)
set_option maxRecDepth 20000 in
theorem gX2_addEntriesTo_X1_tell : GoodIn wsX2_addEntriesTo (wsV RX2 36 RX1 yX1_tell wsX1_tell) := goodIn_app (goodIn_of _ (by decide +kernel)) ggX2_addEntriesTo_X1_tell
theorem dX2_addEntriesTo_0 : decode cX2_addEntriesTo 0 = .ok (.lconst 0, 1) := by decide +kernel
theorem dX2_addEntriesTo_1 : decode cX2_addEntriesTo 1 = .ok (.lstore_n 2, 1) := by decide +kernel
theorem dX2_addEntriesTo_2 : decode cX2_addEntriesTo 2 = .ok (.iconst 0, 1) := by decide +kernel
theorem dX2_addEntriesTo_3 : decode cX2_addEntriesTo 3 = .ok (.istore 4, 2) := by decide +kernel
theorem dX2_addEntriesTo_5 : decode cX2_addEntriesTo 5 = .ok (.iconst 0, 1) := by decide +kernel
theorem dX2_addEntriesTo_6 : decode cX2_addEntriesTo 6 = .ok (.istore 5, 2) := by decide +kernel
theorem dX2_addEntriesTo_8 : decode cX2_addEntriesTo 8 = .ok (.iload 5, 2) := by decide +kernel
theorem dX2_addEntriesTo_10 : decode cX2_addEntriesTo 10 = .ok (.aload_n 0, 1) := by decide +kernel
theorem dX2_addEntriesTo_11 : decode cX2_addEntriesTo 11 = .ok (.getfield 15, 3) := by decide +kernel
theorem dX2_addEntriesTo_14 : decode cX2_addEntriesTo 14 = .ok (.if_icmp .ge 84, 3) := by decide +kernel
theorem dX2_addEntriesTo_17 : decode cX2_addEntriesTo 17 = .ok (.aload_n 0, 1) := by decide +kernel
theorem dX2_addEntriesTo_18 : decode cX2_addEntriesTo 18 = .ok (.getfield 9, 3) := by decide +kernel
theorem dX2_addEntriesTo_21 : decode cX2_addEntriesTo 21 = .ok (.iload 5, 2) := by decide +kernel
theorem dX2_addEntriesTo_23 : decode cX2_addEntriesTo 23 = .ok (.iaload, 1) := by decide +kernel
theorem dX2_addEntriesTo_24 : decode cX2_addEntriesTo 24 = .ok (.istore 6, 2) := by decide +kernel
theorem dX2_addEntriesTo_26 : decode cX2_addEntriesTo 26 = .ok (.iload 6, 2) := by decide +kernel
theorem dX2_addEntriesTo_28 : decode cX2_addEntriesTo 28 = .ok (.invokestatic 19, 3) := by decide +kernel
theorem dX2_addEntriesTo_31 : decode cX2_addEntriesTo 31 = .ok (.ifCond .eq 13, 3) := by decide +kernel
theorem dX2_addEntriesTo_34 : decode cX2_addEntriesTo 34 = .ok (.lload_n 2, 1) := by decide +kernel
theorem dX2_addEntriesTo_35 : decode cX2_addEntriesTo 35 = .ok (.iload 6, 2) := by decide +kernel
theorem dX2_addEntriesTo_37 : decode cX2_addEntriesTo 37 = .ok (.invokestatic 25, 3) := by decide +kernel
theorem dX2_addEntriesTo_40 : decode cX2_addEntriesTo 40 = .ok (.lstore_n 2, 1) := by decide +kernel
theorem dX2_addEntriesTo_41 : decode cX2_addEntriesTo 41 = .ok (.goto 51, 3) := by decide +kernel
theorem dX2_addEntriesTo_44 : decode cX2_addEntriesTo 44 = .ok (.iload 6, 2) := by decide +kernel
theorem dX2_addEntriesTo_46 : decode cX2_addEntriesTo 46 = .ok (.invokestatic 33, 3) := by decide +kernel
theorem dX2_addEntriesTo_49 : decode cX2_addEntriesTo 49 = .ok (.ifCond .eq 19, 3) := by decide +kernel
theorem dX2_addEntriesTo_52 : decode cX2_addEntriesTo 52 = .ok (.bipush 10, 2) := by decide +kernel
theorem dX2_addEntriesTo_54 : decode cX2_addEntriesTo 54 = .ok (.iload 4, 2) := by decide +kernel
theorem dX2_addEntriesTo_56 : decode cX2_addEntriesTo 56 = .ok (.imul, 1) := by decide +kernel
theorem dX2_addEntriesTo_57 : decode cX2_addEntriesTo 57 = .ok (.iload 6, 2) := by decide +kernel
theorem dX2_addEntriesTo_59 : decode cX2_addEntriesTo 59 = .ok (.iadd, 1) := by decide +kernel
theorem dX2_addEntriesTo_60 : decode cX2_addEntriesTo 60 = .ok (.bipush 48, 2) := by decide +kernel
theorem dX2_addEntriesTo_62 : decode cX2_addEntriesTo 62 = .ok (.isub, 1) := by decide +kernel
theorem dX2_addEntriesTo_63 : decode cX2_addEntriesTo 63 = .ok (.istore 4, 2) := by decide +kernel
theorem dX2_addEntriesTo_65 : decode cX2_addEntriesTo 65 = .ok (.goto 27, 3) := by decide +kernel
theorem dX2_addEntriesTo_68 : decode cX2_addEntriesTo 68 = .ok (.iload 6, 2) := by decide +kernel
theorem dX2_addEntriesTo_70 : decode cX2_addEntriesTo 70 = .ok (.bipush 44, 2) := by decide +kernel
theorem dX2_addEntriesTo_72 : decode cX2_addEntriesTo 72 = .ok (.if_icmp .ne 20, 3) := by decide +kernel
theorem dX2_addEntriesTo_75 : decode cX2_addEntriesTo 75 = .ok (.aload_n 1, 1) := by decide +kernel
theorem dX2_addEntriesTo_76 : decode cX2_addEntriesTo 76 = .ok (.lload_n 2, 1) := by decide +kernel
theorem dX2_addEntriesTo_77 : decode cX2_addEntriesTo 77 = .ok (.iload 4, 2) := by decide +kernel
theorem dX2_addEntriesTo_79 : decode cX2_addEntriesTo 79 = .ok (.invokevirtual 36, 3) := by decide +kernel
theorem dX2_addEntriesTo_82 : decode cX2_addEntriesTo 82 = .ok (.ifCond .ne 5, 3) := by decide +kernel
theorem dX2_addEntriesTo_85 : decode cX2_addEntriesTo 85 = .ok (.iconst 0, 1) := by decide +kernel
theorem dX2_addEntriesTo_86 : decode cX2_addEntriesTo 86 = .ok (.ireturn, 1) := by decide +kernel
theorem dX2_addEntriesTo_87 : decode cX2_addEntriesTo 87 = .ok (.lconst 0, 1) := by decide +kernel
theorem dX2_addEntriesTo_88 : decode cX2_addEntriesTo 88 = .ok (.lstore_n 2, 1) := by decide +kernel
theorem dX2_addEntriesTo_89 : decode cX2_addEntriesTo 89 = .ok (.iconst 0, 1) := by decide +kernel
theorem dX2_addEntriesTo_90 : decode cX2_addEntriesTo 90 = .ok (.istore 4, 2) := by decide +kernel
theorem dX2_addEntriesTo_92 : decode cX2_addEntriesTo 92 = .ok (.iinc 5 1, 3) := by decide +kernel
theorem dX2_addEntriesTo_95 : decode cX2_addEntriesTo 95 = .ok (.goto (-87), 3) := by decide +kernel
theorem dX2_addEntriesTo_98 : decode cX2_addEntriesTo 98 = .ok (.aload_n 1, 1) := by decide +kernel
theorem dX2_addEntriesTo_99 : decode cX2_addEntriesTo 99 = .ok (.lload_n 2, 1) := by decide +kernel
theorem dX2_addEntriesTo_100 : decode cX2_addEntriesTo 100 = .ok (.iload 4, 2) := by decide +kernel
theorem dX2_addEntriesTo_102 : decode cX2_addEntriesTo 102 = .ok (.invokevirtual 36, 3) := by decide +kernel
theorem dX2_addEntriesTo_105 : decode cX2_addEntriesTo 105 = .ok (.ireturn, 1) := by decide +kernel
set_option maxRecDepth 20000 in
theorem ggX2_placeBehind_X2_isLetter : GoodIn wsX2_placeBehind wsX2_isLetter := goodIn_r _ [4] (by decide +kernel) (by decide +kernel)
set_option maxRecDepth 20000 in
theorem gX2_placeBehind_X2_isLetter : GoodIn wsX2_placeBehind (va_wsS RX2 19 yX2_isLetter wsX2_isLetter) := goodIn_app (goodIn_of _ (by decide +kernel)) ggX2_placeBehind_X2_isLetter
set_option maxRecDepth 20000 in
theorem ggX2_placeBehind_X2_isDigit : GoodIn wsX2_placeBehind wsX2_isDigit := goodIn_r _ [7] (by decide +kernel) (by decide +kernel)
set_option maxRecDepth 20000 in
theorem gX2_placeBehind_X2_isDigit : GoodIn wsX2_placeBehind (va_wsS RX2 33 yX2_isDigit wsX2_isDigit) := goodIn_app (goodIn_of _ (by decide +kernel)) ggX2_placeBehind_X2_isDigit
set_option maxRecDepth 20000 in
theorem ggX2_placeBehind_X2_placeBehindDigit : GoodIn wsX2_placeBehind wsX2_placeBehindDigit := goodIn_r _ [10] (by decide +kernel) (by decide +kernel)
set_option maxRecDepth 20000 in
theorem gX2_placeBehind_X2_placeBehindDigit : GoodIn wsX2_placeBehind (va_wsS RX2 42 yX2_placeBehindDigit wsX2_placeBehindDigit) := goodIn_app (goodIn_of _ (by decide +kernel)) ggX2_placeBehind_X2_placeBehindDigit
theorem dX2_placeBehind_0 : decode cX2_placeBehind 0 = .ok (.iload_n 0, 1) := by decide +kernel

theorem dX2_placeBehind_1 : decode cX2_placeBehind 1 = .ok (.bipush 7, 2) := by decide +kernel
theorem dX2_placeBehind_3 : decode cX2_placeBehind 3 = .ok (.if_icmp .ge 14, 3) := by decide +kernel
theorem dX2_placeBehind_6 : decode cX2_placeBehind 6 = .ok (.iload_n 1, 1) := by decide +kernel
theorem dX2_placeBehind_7 : decode cX2_placeBehind 7 = .ok (.invokestatic 19, 3) := by decide +kernel
theorem dX2_placeBehind_10 : decode cX2_placeBehind 10 = .ok (.ifCond .eq 7, 3) := by decide +kernel
theorem dX2_placeBehind_13 : decode cX2_placeBehind 13 = .ok (.iload_n 0, 1) := by decide +kernel
theorem dX2_placeBehind_14 : decode cX2_placeBehind 14 = .ok (.iconst 1, 1) := by decide +kernel
theorem dX2_placeBehind_15 : decode cX2_placeBehind 15 = .ok (.iadd, 1) := by decide +kernel
theorem dX2_placeBehind_16 : decode cX2_placeBehind 16 = .ok (.ireturn, 1) := by decide +kernel
theorem dX2_placeBehind_17 : decode cX2_placeBehind 17 = .ok (.iload_n 0, 1) := by decide +kernel
theorem dX2_placeBehind_18 : decode cX2_placeBehind 18 = .ok (.ifCond .le 18, 3) := by decide +kernel
theorem dX2_placeBehind_21 : decode cX2_placeBehind 21 = .ok (.iload_n 0, 1) := by decide +kernel
theorem dX2_placeBehind_22 : decode cX2_placeBehind 22 = .ok (.bipush 7, 2) := by decide +kernel
theorem dX2_placeBehind_24 : decode cX2_placeBehind 24 = .ok (.if_icmp .gt 12, 3) := by decide +kernel
theorem dX2_placeBehind_27 : decode cX2_placeBehind 27 = .ok (.iload_n 1, 1) := by decide +kernel
theorem dX2_placeBehind_28 : decode cX2_placeBehind 28 = .ok (.bipush 58, 2) := by decide +kernel
theorem dX2_placeBehind_30 : decode cX2_placeBehind 30 = .ok (.if_icmp .ne 6, 3) := by decide +kernel
theorem dX2_placeBehind_33 : decode cX2_placeBehind 33 = .ok (.bipush 8, 2) := by decide +kernel
theorem dX2_placeBehind_35 : decode cX2_placeBehind 35 = .ok (.ireturn, 1) := by decide +kernel
theorem dX2_placeBehind_36 : decode cX2_placeBehind 36 = .ok (.iload_n 0, 1) := by decide +kernel
theorem dX2_placeBehind_37 : decode cX2_placeBehind 37 = .ok (.bipush 9, 2) := by decide +kernel
theorem dX2_placeBehind_39 : decode cX2_placeBehind 39 = .ok (.if_icmp .lt 11, 3) := by decide +kernel
theorem dX2_placeBehind_42 : decode cX2_placeBehind 42 = .ok (.iload_n 1, 1) := by decide +kernel
theorem dX2_placeBehind_43 : decode cX2_placeBehind 43 = .ok (.bipush 44, 2) := by decide +kernel
theorem dX2_placeBehind_45 : decode cX2_placeBehind 45 = .ok (.if_icmp .ne 5, 3) := by decide +kernel
theorem dX2_placeBehind_48 : decode cX2_placeBehind 48 = .ok (.iconst 0, 1) := by decide +kernel
theorem dX2_placeBehind_49 : decode cX2_placeBehind 49 = .ok (.ireturn, 1) := by decide +kernel
theorem dX2_placeBehind_50 : decode cX2_placeBehind 50 = .ok (.iload_n 1, 1) := by decide +kernel
theorem dX2_placeBehind_51 : decode cX2_placeBehind 51 = .ok (.invokestatic 33, 3) := by decide +kernel
theorem dX2_placeBehind_54 : decode cX2_placeBehind 54 = .ok (.ifCond .eq 11, 3) := by decide +kernel
theorem dX2_placeBehind_57 : decode cX2_placeBehind 57 = .ok (.iload_n 0, 1) := by decide +kernel
theorem dX2_placeBehind_58 : decode cX2_placeBehind 58 = .ok (.iload_n 1, 1) := by decide +kernel
theorem dX2_placeBehind_59 : decode cX2_placeBehind 59 = .ok (.invokestatic 42, 3) := by decide +kernel
theorem dX2_placeBehind_62 : decode cX2_placeBehind 62 = .ok (.goto 5, 3) := by decide +kernel
theorem dX2_placeBehind_65 : decode cX2_placeBehind 65 = .ok (.bipush 12, 2) := by decide +kernel
theorem dX2_placeBehind_67 : decode cX2_placeBehind 67 = .ok (.ireturn, 1) := by decide +kernel
theorem dX2_placeBehindDigit_0 : decode cX2_placeBehindDigit 0 = .ok (.iload_n 0, 1) := by decide +kernel
theorem dX2_placeBehindDigit_1 : decode cX2_placeBehindDigit 1 = .ok (.bipush 8, 2) := by decide +kernel
theorem dX2_placeBehindDigit_3 : decode cX2_placeBehindDigit 3 = .ok (.if_icmp .ne 32, 3) := by decide +kernel
theorem dX2_placeBehindDigit_6 : decode cX2_placeBehindDigit 6 = .ok (.iload_n 1, 1) := by decide +kernel
theorem dX2_placeBehindDigit_7 : decode cX2_placeBehindDigit 7 = .ok (.bipush 48, 2) := by decide +kernel
theorem dX2_placeBehindDigit_9 : decode cX2_placeBehindDigit 9 = .ok (.if_icmp .eq 26, 3) := by decide +kernel
theorem dX2_placeBehindDigit_12 : decode cX2_placeBehindDigit 12 = .ok (.iload_n 1, 1) := by decide +kernel
theorem dX2_placeBehindDigit_13 : decode cX2_placeBehindDigit 13 = .ok (.bipush 52, 2) := by decide +kernel
theorem dX2_placeBehindDigit_15 : decode cX2_placeBehindDigit 15 = .ok (.if_icmp .ne 6, 3) := by decide +kernel
theorem dX2_placeBehindDigit_18 : decode cX2_placeBehindDigit 18 = .ok (.bipush 10, 2) := by decide +kernel
theorem dX2_placeBehindDigit_20 : decode cX2_placeBehindDigit 20 = .ok (.ireturn, 1) := by decide +kernel
theorem dX2_placeBehindDigit_21 : decode cX2_placeBehindDigit 21 = .ok (.iload_n 1, 1) := by decide +kernel
theorem dX2_placeBehindDigit_22 : decode cX2_placeBehindDigit 22 = .ok (.bipush 52, 2) := by decide +kernel
theorem dX2_placeBehindDigit_24 : decode cX2_placeBehindDigit 24 = .ok (.if_icmp .ge 8, 3) := by decide +kernel
theorem dX2_placeBehindDigit_27 : decode cX2_placeBehindDigit 27 = .ok (.bipush 9, 2) := by decide +kernel
theorem dX2_placeBehindDigit_29 : decode cX2_placeBehindDigit 29 = .ok (.goto 5, 3) := by decide +kernel
theorem dX2_placeBehindDigit_32 : decode cX2_placeBehindDigit 32 = .ok (.bipush 11, 2) := by decide +kernel
theorem dX2_placeBehindDigit_34 : decode cX2_placeBehindDigit 34 = .ok (.ireturn, 1) := by decide +kernel
theorem dX2_placeBehindDigit_35 : decode cX2_placeBehindDigit 35 = .ok (.iload_n 0, 1) := by decide +kernel
theorem dX2_placeBehindDigit_36 : decode cX2_placeBehindDigit 36 = .ok (.bipush 9, 2) := by decide +kernel
theorem dX2_placeBehindDigit_38 : decode cX2_placeBehindDigit 38 = .ok (.if_icmp .eq 15, 3) := by decide +kernel
theorem dX2_placeBehindDigit_41 : decode cX2_placeBehindDigit 41 = .ok (.iload_n 0, 1) := by decide +kernel
theorem dX2_placeBehindDigit_42 : decode cX2_placeBehindDigit 42 = .ok (.bipush 10, 2) := by decide +kernel
theorem dX2_placeBehindDigit_44 : decode cX2_placeBehindDigit 44 = .ok (.if_icmp .ne 14, 3) := by decide +kernel
theorem dX2_placeBehindDigit_47 : decode cX2_placeBehindDigit 47 = .ok (.iload_n 1, 1) := by decide +kernel
theorem dX2_placeBehindDigit_48 : decode cX2_placeBehindDigit 48 = .ok (.bipush 48, 2) := by decide +kernel
theorem dX2_placeBehindDigit_50 : decode cX2_placeBehindDigit 50 = .ok (.if_icmp .ne 8, 3) := by decide +kernel
theorem dX2_placeBehindDigit_53 : decode cX2_placeBehindDigit 53 = .ok (.bipush 11, 2) := by decide +kernel
theorem dX2_placeBehindDigit_55 : decode cX2_placeBehindDigit 55 = .ok (.goto 5, 3) := by decide +kernel
theorem dX2_placeBehindDigit_58 : decode cX2_placeBehindDigit 58 = .ok (.bipush 12, 2) := by decide +kernel
theorem dX2_placeBehindDigit_60 : decode cX2_placeBehindDigit 60 = .ok (.ireturn, 1) := by decide +kernel
theorem dX2_isLetter_0 : decode cX2_isLetter 0 = .ok (.iload_n 0, 1) := by decide +kernel
theorem dX2_isLetter_1 : decode cX2_isLetter 1 = .ok (.bipush 97, 2) := by decide +kernel
theorem dX2_isLetter_3 : decode cX2_isLetter 3 = .ok (.if_icmp .lt 13, 3) := by decide +kernel
theorem dX2_isLetter_6 : decode cX2_isLetter 6 = .ok (.iload_n 0, 1) := by decide +kernel
theorem dX2_isLetter_7 : decode cX2_isLetter 7 = .ok (.bipush 122, 2) := by decide +kernel
theorem dX2_isLetter_9 : decode cX2_isLetter 9 = .ok (.if_icmp .gt 7, 3) := by decide +kernel
theorem dX2_isLetter_12 : decode cX2_isLetter 12 = .ok (.iconst 1, 1) := by decide +kernel
theorem dX2_isLetter_13 : decode cX2_isLetter 13 = .ok (.goto 4, 3) := by decide +kernel
theorem dX2_isLetter_16 : decode cX2_isLetter 16 = .ok (.iconst 0, 1) := by decide +kernel
theorem dX2_isLetter_17 : decode cX2_isLetter 17 = .ok (.ireturn, 1) := by decide +kernel
theorem dX2_isDigit_0 : decode cX2_isDigit 0 = .ok (.iload_n 0, 1) := by decide +kernel
theorem dX2_isDigit_1 : decode cX2_isDigit 1 = .ok (.bipush 48, 2) := by decide +kernel
theorem dX2_isDigit_3 : decode cX2_isDigit 3 = .ok (.if_icmp .lt 13, 3) := by decide +kernel
theorem dX2_isDigit_6 : decode cX2_isDigit 6 = .ok (.iload_n 0, 1) := by decide +kernel
theorem dX2_isDigit_7 : decode cX2_isDigit 7 = .ok (.bipush 57, 2) := by decide +kernel
theorem dX2_isDigit_9 : decode cX2_isDigit 9 = .ok (.if_icmp .gt 7, 3) := by decide +kernel
theorem dX2_isDigit_12 : decode cX2_isDigit 12 = .ok (.iconst 1, 1) := by decide +kernel
theorem dX2_isDigit_13 : decode cX2_isDigit 13 = .ok (.goto 4, 3) := by decide +kernel
theorem dX2_isDigit_16 : decode cX2_isDigit 16 = .ok (.iconst 0, 1) := by decide +kernel
theorem dX2_isDigit_17 : decode cX2_isDigit 17 = .ok (.ireturn, 1) := by decide +kernel
set_option maxRecDepth 20000 in
theorem ggX3_init_X1_init : GoodIn wsX3_init wsX1_init := goodIn_r _ [10, 11, 2, 3, 12, 13, 14, 15, 16, 17, 20, 21, 22, 23] (by decide +kernel) (by decide +kernel)
set_option maxRecDepth 20000 in
theorem gX3_init_X1_init_n21 : GoodIn wsX3_init (wsX1_init) := ggX3_init_X1_init
theorem dX3_init_0 : decode cX3_init 0 = .ok (.aload_n 0, 1) := by decide +kernel
theorem dX3_init_1 : decode cX3_init 1 = .ok (.invokespecial 3, 3) := by decide +kernel
theorem dX3_init_4 : decode cX3_init 4 = .ok (.aload_n 0, 1) := by decide +kernel
theorem dX3_init_5 : decode cX3_init 5 = .ok (.bipush 6, 2) := by decide +kernel
theorem dX3_init_7 : decode cX3_init 7 = .ok (.anewarray 9, 3) := by decide +kernel
theorem dX3_init_10 : decode cX3_init 10 = .ok (.putfield 11, 3) := by decide +kernel
theorem dX3_init_13 : decode cX3_init 13 = .ok (.aload_n 0, 1) := by decide +kernel
theorem dX3_init_14 : decode cX3_init 14 = .ok (.iconst 0, 1) := by decide +kernel
theorem dX3_init_15 : decode cX3_init 15 = .ok (.putfield 17, 3) := by decide +kernel
theorem dX3_init_18 : decode cX3_init 18 = .ok (.iconst 0, 1) := by decide +kernel
theorem dX3_init_19 : decode cX3_init 19 = .ok (.istore_n 1, 1) := by decide +kernel
theorem dX3_init_20 : decode cX3_init 20 = .ok (.iload_n 1, 1) := by decide +kernel
theorem dX3_init_21 : decode cX3_init 21 = .ok (.bipush 6, 2) := by decide +kernel
theorem dX3_init_23 : decode cX3_init 23 = .ok (.if_icmp .ge 22, 3) := by decide +kernel
theorem dX3_init_26 : decode cX3_init 26 = .ok (.aload_n 0, 1) := by decide +kernel
theorem dX3_init_27 : decode cX3_init 27 = .ok (.getfield 11, 3) := by decide +kernel
theorem dX3_init_30 : decode cX3_init 30 = .ok (.iload_n 1, 1) := by decide +kernel
theorem dX3_init_31 : decode cX3_init 31 = .ok (.new 9, 3) := by decide +kernel
theorem dX3_init_34 : decode cX3_init 34 = .ok (.dup, 1) := by decide +kernel
theorem dX3_init_35 : decode cX3_init 35 = .ok (.invokespecial 21, 3) := by decide +kernel
theorem dX3_init_38 : decode cX3_init 38 = .ok (.aastore, 1) := by decide +kernel
theorem dX3_init_39 : decode cX3_init 39 = .ok (.iinc 1 1, 3) := by decide +kernel
theorem dX3_init_42 : decode cX3_init 42 = .ok (.goto (-22), 3) := by decide +kernel
theorem dX3_init_45 : decode cX3_init 45 = .ok (.return_, 1) := by decide +kernel
set_option maxRecDepth 20000 in
theorem ggX3_remember_X3_dropOldest : GoodIn wsX3_remember wsX3_dropOldest := goodIn_r _ [7, 2, 1, 17, 18] (by decide +kernel) (by decide +kernel)
set_option maxRecDepth 20000 in
theorem gX3_remember_X3_dropOldest : GoodIn wsX3_remember (wsV RX3 22 RX3 yX3_dropOldest wsX3_dropOldest) := goodIn_app (goodIn_of _ (by decide +kernel)) ggX3_remember_X3_dropOldest
set_option maxRecDepth 20000 in
theorem ggX3_remember_X1_copyOf : GoodIn wsX3_remember wsX1_copyOf := goodIn_r _ [12, 13, 14, 15, 16, 19, 20, 21, 22] (by decide +kernel) (by decide +kernel)
set_option maxRecDepth 20000 in
theorem gX3_remember_X1_copyOf : GoodIn wsX3_remember (wsV RX3 25 RX1 yX1_copyOf wsX1_copyOf) := goodIn_app (goodIn_of _ (by decide +kernel)) ggX3_remember_X1_copyOf
theorem dX3_remember_0 : decode cX3_remember 0 = .ok (.aload_n 0, 1) := by decide +kernel
theorem dX3_remember_1 : decode cX3_remember 1 = .ok (.getfield 17, 3) := by decide +kernel
theorem dX3_remember_4 : decode cX3_remember 4 = .ok (.bipush 6, 2) := by decide +kernel
theorem dX3_remember_6 : decode cX3_remember 6 = .ok (.if_icmp .lt 7, 3) := by decide +kernel
theorem dX3_remember_9 : decode cX3_remember 9 = .ok (.aload_n 0, 1) := by decide +kernel
theorem dX3_remember_10 : decode cX3_remember 10 = .ok (.invokevirtual 22, 3) := by decide +kernel
theorem dX3_remember_13 : decode cX3_remember 13 = .ok (.aload_n 0, 1) := by decide +kernel
theorem dX3_remember_14 : decode cX3_remember 14 = .ok (.getfield 11, 3) := by decide +kernel
theorem dX3_remember_17 : decode cX3_remember 17 = .ok (.aload_n 0, 1) := by decide +kernel
theorem dX3_remember_18 : decode cX3_remember 18 = .ok (.getfield 17, 3) := by decide +kernel
theorem dX3_remember_21 : decode cX3_remember 21 = .ok (.aaload, 1) := by decide +kernel
theorem dX3_remember_22 : decode cX3_remember 22 = .ok (.aload_n 1, 1) := by decide +kernel
theorem dX3_remember_23 : decode cX3_remember 23 = .ok (.invokevirtual 25, 3) := by decide +kernel
theorem dX3_remember_26 : decode cX3_remember 26 = .ok (.aload_n 0, 1) := by decide +kernel
theorem dX3_remember_27 : decode cX3_remember 27 = .ok (.dup, 1) := by decide +kernel
theorem dX3_remember_28 : decode cX3_remember 28 = .ok (.getfield 17, 3) := by decide +kernel
theorem dX3_remember_31 : decode cX3_remember 31 = .ok (.iconst 1, 1) := by decide +kernel
theorem dX3_remember_32 : decode cX3_remember 32 = .ok (.iadd, 1) := by decide +kernel
theorem dX3_remember_33 : decode cX3_remember 33 = .ok (.putfield 17, 3) := by decide +kernel
theorem dX3_remember_36 : decode cX3_remember 36 = .ok (.return_, 1) := by decide +kernel
set_option maxRecDepth 20000 in
theorem ggX3_goBack_X1_copyOf : GoodIn wsX3_goBack wsX1_copyOf := goodIn_r _ [7, 8, 9, 10, 11, 14, 15, 16, 17] (by decide +kernel) (by decide +kernel)
set_option maxRecDepth 20000 in
theorem gX3_goBack_X1_copyOf : GoodIn wsX3_goBack (wsV RX3 25 RX1 yX1_copyOf wsX1_copyOf) := goodIn_app (goodIn_of _ (by decide +kernel)) ggX3_goBack_X1_copyOf
theorem dX3_goBack_0 : decode cX3_goBack 0 = .ok (.aload_n 0, 1) := by decide +kernel
theorem dX3_goBack_1 : decode cX3_goBack 1 = .ok (.getfield 17, 3) := by decide +kernel
theorem dX3_goBack_4 : decode cX3_goBack 4 = .ok (.ifCond .le 26, 3) := by decide +kernel
theorem dX3_goBack_7 : decode cX3_goBack 7 = .ok (.aload_n 0, 1) := by decide +kernel
theorem dX3_goBack_8 : decode cX3_goBack 8 = .ok (.dup, 1) := by decide +kernel
theorem dX3_goBack_9 : decode cX3_goBack 9 = .ok (.getfield 17, 3) := by decide +kernel
theorem dX3_goBack_12 : decode cX3_goBack 12 = .ok (.iconst 1, 1) := by decide +kernel
theorem dX3_goBack_13 : decode cX3_goBack 13 = .ok (.isub, 1) := by decide +kernel
theorem dX3_goBack_14 : decode cX3_goBack 14 = .ok (.putfield 17, 3) := by decide +kernel
theorem dX3_goBack_17 : decode cX3_goBack 17 = .ok (.aload_n 1, 1) := by decide +kernel
theorem dX3_goBack_18 : decode cX3_goBack 18 = .ok (.aload_n 0, 1) := by decide +kernel
theorem dX3_goBack_19 : decode cX3_goBack 19 = .ok (.getfield 11, 3) := by decide +kernel
theorem dX3_goBack_22 : decode cX3_goBack 22 = .ok (.aload_n 0, 1) := by decide +kernel
theorem dX3_goBack_23 : decode cX3_goBack 23 = .ok (.getfield 17, 3) := by decide +kernel
theorem dX3_goBack_26 : decode cX3_goBack 26 = .ok (.aaload, 1) := by decide +kernel
theorem dX3_goBack_27 : decode cX3_goBack 27 = .ok (.invokevirtual 25, 3) := by decide +kernel
theorem dX3_goBack_30 : decode cX3_goBack 30 = .ok (.return_, 1) := by decide +kernel
theorem dX3_dropOldest_0 : decode cX3_dropOldest 0 = .ok (.aload_n 0, 1) := by decide +kernel
theorem dX3_dropOldest_1 : decode cX3_dropOldest 1 = .ok (.getfield 11, 3) := by decide +kernel
theorem dX3_dropOldest_4 : decode cX3_dropOldest 4 = .ok (.iconst 0, 1) := by decide +kernel
theorem dX3_dropOldest_5 : decode cX3_dropOldest 5 = .ok (.aaload, 1) := by decide +kernel
theorem dX3_dropOldest_6 : decode cX3_dropOldest 6 = .ok (.astore_n 1, 1) := by decide +kernel
theorem dX3_dropOldest_7 : decode cX3_dropOldest 7 = .ok (.iconst 1, 1) := by decide +kernel
theorem dX3_dropOldest_8 : decode cX3_dropOldest 8 = .ok (.istore_n 2, 1) := by decide +kernel
theorem dX3_dropOldest_9 : decode cX3_dropOldest 9 = .ok (.iload_n 2, 1) := by decide +kernel
theorem dX3_dropOldest_10 : decode cX3_dropOldest 10 = .ok (.bipush 6, 2) := by decide +kernel
theorem dX3_dropOldest_12 : decode cX3_dropOldest 12 = .ok (.if_icmp .ge 23, 3) := by decide +kernel
theorem dX3_dropOldest_15 : decode cX3_dropOldest 15 = .ok (.aload_n 0, 1) := by decide +kernel
theorem dX3_dropOldest_16 : decode cX3_dropOldest 16 = .ok (.getfield 11, 3) := by decide +kernel
theorem dX3_dropOldest_19 : decode cX3_dropOldest 19 = .ok (.iload_n 2, 1) := by decide +kernel
theorem dX3_dropOldest_20 : decode cX3_dropOldest 20 = .ok (.iconst 1, 1) := by decide +kernel
theorem dX3_dropOldest_21 : decode cX3_dropOldest 21 = .ok (.isub, 1) := by decide +kernel
theorem dX3_dropOldest_22 : decode cX3_dropOldest 22 = .ok (.aload_n 0, 1) := by decide +kernel
theorem dX3_dropOldest_23 : decode cX3_dropOldest 23 = .ok (.getfield 11, 3) := by decide +kernel
theorem dX3_dropOldest_26 : decode cX3_dropOldest 26 = .ok (.iload_n 2, 1) := by decide +kernel
theorem dX3_dropOldest_27 : decode cX3_dropOldest 27 = .ok (.aaload, 1) := by decide +kernel
theorem dX3_dropOldest_28 : decode cX3_dropOldest 28 = .ok (.aastore, 1) := by decide +kernel
theorem dX3_dropOldest_29 : decode cX3_dropOldest 29 = .ok (.iinc 2 1, 3) := by decide +kernel
theorem dX3_dropOldest_32 : decode cX3_dropOldest 32 = .ok (.goto (-23), 3) := by decide +kernel
theorem dX3_dropOldest_35 : decode cX3_dropOldest 35 = .ok (.aload_n 0, 1) := by decide +kernel
theorem dX3_dropOldest_36 : decode cX3_dropOldest 36 = .ok (.getfield 11, 3) := by decide +kernel
theorem dX3_dropOldest_39 : decode cX3_dropOldest 39 = .ok (.iconst 5, 1) := by decide +kernel
theorem dX3_dropOldest_40 : decode cX3_dropOldest 40 = .ok (.aload_n 1, 1) := by decide +kernel
theorem dX3_dropOldest_41 : decode cX3_dropOldest 41 = .ok (.aastore, 1) := by decide +kernel
theorem dX3_dropOldest_42 : decode cX3_dropOldest 42 = .ok (.aload_n 0, 1) := by decide +kernel
theorem dX3_dropOldest_43 : decode cX3_dropOldest 43 = .ok (.iconst 5, 1) := by decide +kernel
theorem dX3_dropOldest_44 : decode cX3_dropOldest 44 = .ok (.putfield 17, 3) := by decide +kernel
theorem dX3_dropOldest_47 : decode cX3_dropOldest 47 = .ok (.return_, 1) := by decide +kernel
theorem dX4_letters_0 : decode cX4_letters 0 = .ok (.lload_n 0, 1) := by decide +kernel
theorem dX4_letters_1 : decode cX4_letters 1 = .ok (.ldc2_w 9, 3) := by decide +kernel
theorem dX4_letters_4 : decode cX4_letters 4 = .ok (.land, 1) := by decide +kernel
theorem dX4_letters_5 : decode cX4_letters 5 = .ok (.l2i, 1) := by decide +kernel
theorem dX4_letters_6 : decode cX4_letters 6 = .ok (.ireturn, 1) := by decide +kernel
set_option maxRecDepth 20000 in
theorem ggX4_code_X4_letters : GoodIn wsX4_code wsX4_letters := goodIn_r _ [4, 5] (by decide +kernel) (by decide +kernel)
set_option maxRecDepth 20000 in
theorem gX4_code_X4_letters : GoodIn wsX4_code (va_wsS RX4 11 yX4_letters wsX4_letters) := goodIn_app (goodIn_of _ (by decide +kernel)) ggX4_code_X4_letters
set_option maxRecDepth 20000 in
theorem ggX4_code_X4_shiftOf : GoodIn wsX4_code wsX4_shiftOf := goodIn_r _ [8] (by decide +kernel) (by decide +kernel)
set_option maxRecDepth 20000 in
theorem gX4_code_X4_shiftOf : GoodIn wsX4_code (va_wsS RX4 17 yX4_shiftOf wsX4_shiftOf) := goodIn_app (goodIn_of _ (by decide +kernel)) ggX4_code_X4_shiftOf
theorem dX4_code_0 : decode cX4_code 0 = .ok (.iload_n 2, 1) := by decide +kernel
theorem dX4_code_1 : decode cX4_code 1 = .ok (.ifCond .lt 25, 3) := by decide +kernel
theorem dX4_code_4 : decode cX4_code 4 = .ok (.iload_n 2, 1) := by decide +kernel
theorem dX4_code_5 : decode cX4_code 5 = .ok (.lload_n 0, 1) := by decide +kernel
theorem dX4_code_6 : decode cX4_code 6 = .ok (.invokestatic 11, 3) := by decide +kernel
theorem dX4_code_9 : decode cX4_code 9 = .ok (.if_icmp .ge 17, 3) := by decide +kernel
theorem dX4_code_12 : decode cX4_code 12 = .ok (.lload_n 0, 1) := by decide +kernel
theorem dX4_code_13 : decode cX4_code 13 = .ok (.iload_n 2, 1) := by decide +kernel
theorem dX4_code_14 : decode cX4_code 14 = .ok (.invokestatic 17, 3) := by decide +kernel
theorem dX4_code_17 : decode cX4_code 17 = .ok (.lushr, 1) := by decide +kernel
theorem dX4_code_18 : decode cX4_code 18 = .ok (.l2i, 1) := by decide +kernel
theorem dX4_code_19 : decode cX4_code 19 = .ok (.sipush 255, 3) := by decide +kernel
theorem dX4_code_22 : decode cX4_code 22 = .ok (.iand, 1) := by decide +kernel
theorem dX4_code_23 : decode cX4_code 23 = .ok (.goto 4, 3) := by decide +kernel
theorem dX4_code_26 : decode cX4_code 26 = .ok (.iconst 0, 1) := by decide +kernel
theorem dX4_code_27 : decode cX4_code 27 = .ok (.ireturn, 1) := by decide +kernel
set_option maxRecDepth 20000 in
theorem ggX4_longer_X4_letters : GoodIn wsX4_longer wsX4_letters := goodIn_r _ [4, 5] (by decide +kernel) (by decide +kernel)
set_option maxRecDepth 20000 in
theorem gX4_longer_X4_letters : GoodIn wsX4_longer (va_wsS RX4 11 yX4_letters wsX4_letters) := goodIn_app (goodIn_of _ (by decide +kernel)) ggX4_longer_X4_letters
set_option maxRecDepth 20000 in
theorem ggX4_longer_X4_shiftOf : GoodIn wsX4_longer wsX4_shiftOf := goodIn_r _ [8] (by decide +kernel) (by decide +kernel)
set_option maxRecDepth 20000 in
theorem gX4_longer_X4_shiftOf : GoodIn wsX4_longer (va_wsS RX4 17 yX4_shiftOf wsX4_shiftOf) := goodIn_app (goodIn_of _ (by decide +kernel)) ggX4_longer_X4_shiftOf
theorem dX4_longer_0 : decode cX4_longer 0 = .ok (.lload_n 0, 1) := by decide +kernel
theorem dX4_longer_1 : decode cX4_longer 1 = .ok (.invokestatic 11, 3) := by decide +kernel
theorem dX4_longer_4 : decode cX4_longer 4 = .ok (.istore_n 3, 1) := by decide +kernel
theorem dX4_longer_5 : decode cX4_longer 5 = .ok (.iload_n 3, 1) := by decide +kernel
theorem dX4_longer_6 : decode cX4_longer 6 = .ok (.bipush 7, 2) := by decide +kernel
theorem dX4_longer_8 : decode cX4_longer 8 = .ok (.if_icmp .ge 17, 3) := by decide +kernel
theorem dX4_longer_11 : decode cX4_longer 11 = .ok (.lload_n 0, 1) := by decide +kernel
theorem dX4_longer_12 : decode cX4_longer 12 = .ok (.iload_n 2, 1) := by decide +kernel
theorem dX4_longer_13 : decode cX4_longer 13 = .ok (.i2l, 1) := by decide +kernel
theorem dX4_longer_14 : decode cX4_longer 14 = .ok (.iload_n 3, 1) := by decide +kernel
theorem dX4_longer_15 : decode cX4_longer 15 = .ok (.invokestatic 17, 3) := by decide +kernel
theorem dX4_longer_18 : decode cX4_longer 18 = .ok (.lshl, 1) := by decide +kernel
theorem dX4_longer_19 : decode cX4_longer 19 = .ok (.lor, 1) := by decide +kernel
theorem dX4_longer_20 : decode cX4_longer 20 = .ok (.lconst 1, 1) := by decide +kernel
theorem dX4_longer_21 : decode cX4_longer 21 = .ok (.ladd, 1) := by decide +kernel
theorem dX4_longer_22 : decode cX4_longer 22 = .ok (.goto 4, 3) := by decide +kernel
theorem dX4_longer_25 : decode cX4_longer 25 = .ok (.lload_n 0, 1) := by decide +kernel
theorem dX4_longer_26 : decode cX4_longer 26 = .ok (.lreturn, 1) := by decide +kernel
theorem dX4_shiftOf_0 : decode cX4_shiftOf 0 = .ok (.bipush 8, 2) := by decide +kernel
theorem dX4_shiftOf_2 : decode cX4_shiftOf 2 = .ok (.bipush 7, 2) := by decide +kernel
theorem dX4_shiftOf_4 : decode cX4_shiftOf 4 = .ok (.iload_n 0, 1) := by decide +kernel
theorem dX4_shiftOf_5 : decode cX4_shiftOf 5 = .ok (.isub, 1) := by decide +kernel
theorem dX4_shiftOf_6 : decode cX4_shiftOf 6 = .ok (.imul, 1) := by decide +kernel
theorem dX4_shiftOf_7 : decode cX4_shiftOf 7 = .ok (.ireturn, 1) := by decide +kernel
set_option maxRecDepth 20000 in
theorem ggX5_init_X1_init : GoodIn wsX5_init wsX1_init := goodIn_r _ [26, 27, 2, 3, 28, 29, 30, 31, 32, 33, 129, 130, 131, 132] (by decide +kernel) (by decide +kernel)
set_option maxRecDepth 20000 in
theorem gX5_init_X1_init_n11 : GoodIn wsX5_init (wsX1_init) := ggX5_init_X1_init
set_option maxRecDepth 20000 in
theorem ggX5_init_X0_init : GoodIn wsX5_init wsX0_init := goodIn_r _ [35, 36, 2, 3, 28, 37, 38, 39, 40, 41, 42, 43, 44, 45, 46, 47, 48, 49, 50, 51, 141, 142, 143, 144, 145, 146, 147, 148, 149, 150, 151, 152, 153, 154, 155] (by decide +kernel) (by decide +kernel)
set_option maxRecDepth 20000 in
theorem gX5_init_X0_init_n21 : GoodIn wsX5_init (wsX0_init) := ggX5_init_X0_init
set_option maxRecDepth 20000 in
theorem ggX5_init_X2_init : GoodIn wsX5_init wsX2_init := goodIn_r _ [53, 54, 2, 3, 28, 55, 56, 156, 157] (by decide +kernel) (by decide +kernel)
set_option maxRecDepth 20000 in
theorem gX5_init_X2_init_n31 : GoodIn wsX5_init (wsX2_init) := ggX5_init_X2_init
set_option maxRecDepth 20000 in
theorem ggX5_init_X3_init : GoodIn wsX5_init wsX3_init := goodIn_r _ [59, 60, 2, 3, 61, 62, 63, 5, 6, 25, 26, 27, 28, 29, 30, 31, 32, 33, 158, 159, 129, 130, 131, 132] (by decide +kernel) (by decide +kernel)
set_option maxRecDepth 20000 in
theorem gX5_init_X3_init : GoodIn wsX5_init (wsX3_init) := ggX5_init_X3_init
set_option maxRecDepth 20000 in
theorem ggX5_init_X5_layPages : GoodIn wsX5_init wsX5_layPages := goodIn_r _ [68, 12, 7, 69, 70, 71, 72, 11, 73, 50, 46, 48, 47, 49, 74, 75, 76, 77, 51, 78, 79, 80, 81, 82, 83, 84, 85, 86, 87, 39, 88, 89, 90, 91, 92, 93, 94, 95, 44, 45, 42, 43, 96, 97, 98, 99, 37, 38, 100, 101, 102, 103, 104, 105, 106, 107, 40, 41, 108, 109, 110, 111, 112, 113, 114, 115, 116, 117, 118, 6, 119, 32, 120, 121, 122, 123, 33, 124, 125, 126, 127, 128, 133, 134, 135, 136, 137, 138, 139, 140, 129, 130, 131, 132, 141, 142, 143, 144, 145, 146, 147, 148, 149, 150, 151, 152, 153, 154, 155] (by decide +kernel) (by decide +kernel)
set_option maxRecDepth 20000 in
theorem gX5_init_X5_layPages : GoodIn wsX5_init (wsV RX5 51 RX5 yX5_layPages wsX5_layPages) := goodIn_app (goodIn_of _ (by decide +kernel)) ggX5_init_X5_layPages
theorem dX5_init_0 : decode cX5_init 0 = .ok (.aload_n 0, 1) := by decide +kernel
theorem dX5_init_1 : decode cX5_init 1 = .ok (.invokespecial 3, 3) := by decide +kernel
theorem dX5_init_4 : decode cX5_init 4 = .ok (.aload_n 0, 1) := by decide +kernel
theorem dX5_init_5 : decode cX5_init 5 = .ok (.new 9, 3) := by decide +kernel
theorem dX5_init_8 : decode cX5_init 8 = .ok (.dup, 1) := by decide +kernel
theorem dX5_init_9 : decode cX5_init 9 = .ok (.invokespecial 11, 3) := by decide +kernel
theorem dX5_init_12 : decode cX5_init 12 = .ok (.putfield 12, 3) := by decide +kernel
theorem dX5_init_15 : decode cX5_init 15 = .ok (.aload_n 0, 1) := by decide +kernel
theorem dX5_init_16 : decode cX5_init 16 = .ok (.new 9, 3) := by decide +kernel
theorem dX5_init_19 : decode cX5_init 19 = .ok (.dup, 1) := by decide +kernel
theorem dX5_init_20 : decode cX5_init 20 = .ok (.invokespecial 11, 3) := by decide +kernel
theorem dX5_init_23 : decode cX5_init 23 = .ok (.putfield 16, 3) := by decide +kernel
theorem dX5_init_26 : decode cX5_init 26 = .ok (.aload_n 0, 1) := by decide +kernel
theorem dX5_init_27 : decode cX5_init 27 = .ok (.new 19, 3) := by decide +kernel
theorem dX5_init_30 : decode cX5_init 30 = .ok (.dup, 1) := by decide +kernel
theorem dX5_init_31 : decode cX5_init 31 = .ok (.invokespecial 21, 3) := by decide +kernel
theorem dX5_init_34 : decode cX5_init 34 = .ok (.putfield 22, 3) := by decide +kernel
theorem dX5_init_37 : decode cX5_init 37 = .ok (.aload_n 0, 1) := by decide +kernel
theorem dX5_init_38 : decode cX5_init 38 = .ok (.new 19, 3) := by decide +kernel
theorem dX5_init_41 : decode cX5_init 41 = .ok (.dup, 1) := by decide +kernel
theorem dX5_init_42 : decode cX5_init 42 = .ok (.invokespecial 21, 3) := by decide +kernel
theorem dX5_init_45 : decode cX5_init 45 = .ok (.putfield 26, 3) := by decide +kernel
theorem dX5_init_48 : decode cX5_init 48 = .ok (.aload_n 0, 1) := by decide +kernel
theorem dX5_init_49 : decode cX5_init 49 = .ok (.new 29, 3) := by decide +kernel
theorem dX5_init_52 : decode cX5_init 52 = .ok (.dup, 1) := by decide +kernel
theorem dX5_init_53 : decode cX5_init 53 = .ok (.invokespecial 31, 3) := by decide +kernel
theorem dX5_init_56 : decode cX5_init 56 = .ok (.putfield 32, 3) := by decide +kernel
theorem dX5_init_59 : decode cX5_init 59 = .ok (.aload_n 0, 1) := by decide +kernel
theorem dX5_init_60 : decode cX5_init 60 = .ok (.new 36, 3) := by decide +kernel
theorem dX5_init_63 : decode cX5_init 63 = .ok (.dup, 1) := by decide +kernel
theorem dX5_init_64 : decode cX5_init 64 = .ok (.invokespecial 38, 3) := by decide +kernel
theorem dX5_init_67 : decode cX5_init 67 = .ok (.putfield 39, 3) := by decide +kernel
theorem dX5_init_70 : decode cX5_init 70 = .ok (.aload_n 0, 1) := by decide +kernel
theorem dX5_init_71 : decode cX5_init 71 = .ok (.iconst 2, 1) := by decide +kernel
theorem dX5_init_72 : decode cX5_init 72 = .ok (.anewarray 9, 3) := by decide +kernel
theorem dX5_init_75 : decode cX5_init 75 = .ok (.putfield 43, 3) := by decide +kernel
theorem dX5_init_78 : decode cX5_init 78 = .ok (.aload_n 0, 1) := by decide +kernel
theorem dX5_init_79 : decode cX5_init 79 = .ok (.iconst 2, 1) := by decide +kernel
theorem dX5_init_80 : decode cX5_init 80 = .ok (.newarray .boolean, 2) := by decide +kernel
theorem dX5_init_82 : decode cX5_init 82 = .ok (.putfield 47, 3) := by decide +kernel
theorem dX5_init_85 : decode cX5_init 85 = .ok (.iconst 0, 1) := by decide +kernel
theorem dX5_init_86 : decode cX5_init 86 = .ok (.istore_n 1, 1) := by decide +kernel
theorem dX5_init_87 : decode cX5_init 87 = .ok (.iload_n 1, 1) := by decide +kernel
theorem dX5_init_88 : decode cX5_init 88 = .ok (.iconst 2, 1) := by decide +kernel
theorem dX5_init_89 : decode cX5_init 89 = .ok (.if_icmp .ge 22, 3) := by decide +kernel
theorem dX5_init_92 : decode cX5_init 92 = .ok (.aload_n 0, 1) := by decide +kernel
theorem dX5_init_93 : decode cX5_init 93 = .ok (.getfield 43, 3) := by decide +kernel
theorem dX5_init_96 : decode cX5_init 96 = .ok (.iload_n 1, 1) := by decide +kernel
theorem dX5_init_97 : decode cX5_init 97 = .ok (.new 9, 3) := by decide +kernel
theorem dX5_init_100 : decode cX5_init 100 = .ok (.dup, 1) := by decide +kernel
theorem dX5_init_101 : decode cX5_init 101 = .ok (.invokespecial 11, 3) := by decide +kernel
theorem dX5_init_104 : decode cX5_init 104 = .ok (.aastore, 1) := by decide +kernel
theorem dX5_init_105 : decode cX5_init 105 = .ok (.iinc 1 1, 3) := by decide +kernel
theorem dX5_init_108 : decode cX5_init 108 = .ok (.goto (-21), 3) := by decide +kernel
theorem dX5_init_111 : decode cX5_init 111 = .ok (.aload_n 0, 1) := by decide +kernel
theorem dX5_init_112 : decode cX5_init 112 = .ok (.invokevirtual 51, 3) := by decide +kernel
theorem dX5_init_115 : decode cX5_init 115 = .ok (.return_, 1) := by decide +kernel
set_option maxRecDepth 20000 in
theorem ggX5_set_X5_isSettingValue : GoodIn wsX5_set wsX5_isSettingValue := goodIn_r _ [7, 8, 9] (by decide +kernel) (by decide +kernel)
set_option maxRecDepth 20000 in
theorem gX5_set_X5_isSettingValue : GoodIn wsX5_set (va_wsS RX5 54 yX5_isSettingValue wsX5_isSettingValue) := goodIn_app (goodIn_of _ (by decide +kernel)) ggX5_set_X5_isSettingValue
set_option maxRecDepth 20000 in
theorem ggX5_set_X3_remember : GoodIn wsX5_set wsX3_remember := goodIn_r _ [14, 15, 16, 17, 18, 19, 13, 20, 21, 22, 23, 24, 25, 26, 27, 28, 29, 122, 123, 118, 119, 120, 121] (by decide +kernel) (by decide +kernel)
set_option maxRecDepth 20000 in
theorem gX5_set_X3_remember : GoodIn wsX5_set (wsV RX5 58 RX3 yX3_remember wsX3_remember) := goodIn_app (goodIn_of _ (by decide +kernel)) ggX5_set_X3_remember
set_option maxRecDepth 20000 in
theorem ggX5_set_X5_layPages : GoodIn wsX5_set wsX5_layPages := goodIn_r _ [33, 34, 2, 3, 35, 36, 37, 38, 39, 40, 41, 42, 43, 44, 45, 46, 47, 48, 49, 50, 51, 52, 53, 54, 55, 56, 57, 58, 59, 60, 61, 62, 63, 64, 65, 66, 67, 68, 69, 70, 71, 72, 73, 74, 75, 76, 77, 78, 79, 80, 81, 82, 83, 84, 85, 86, 87, 88, 89, 90, 91, 92, 93, 94, 95, 96, 97, 98, 99, 24, 100, 29, 101, 102, 103, 104, 27, 105, 106, 107, 108, 109, 110, 111, 112, 113, 114, 115, 116, 117, 118, 119, 120, 121, 124, 125, 126, 127, 128, 129, 130, 131, 132, 133, 134, 135, 136, 137, 138] (by decide +kernel) (by decide +kernel)
set_option maxRecDepth 20000 in
theorem gX5_set_X5_layPages : GoodIn wsX5_set (wsV RX5 51 RX5 yX5_layPages wsX5_layPages) := goodIn_app (goodIn_of _ (by decide +kernel)) ggX5_set_X5_layPages
theorem dX5_set_0 : decode cX5_set 0 = .ok (.iload_n 1, 1) := by decide +kernel
theorem dX5_set_1 : decode cX5_set 1 = .ok (.iload_n 2, 1) := by decide +kernel
theorem dX5_set_2 : decode cX5_set 2 = .ok (.invokestatic 54, 3) := by decide +kernel
theorem dX5_set_5 : decode cX5_set 5 = .ok (.ifCond .ne 6, 3) := by decide +kernel
theorem dX5_set_8 : decode cX5_set 8 = .ok (.bipush (-2), 2) := by decide +kernel
theorem dX5_set_10 : decode cX5_set 10 = .ok (.ireturn, 1) := by decide +kernel
theorem dX5_set_11 : decode cX5_set 11 = .ok (.aload_n 0, 1) := by decide +kernel
theorem dX5_set_12 : decode cX5_set 12 = .ok (.getfield 39, 3) := by decide +kernel
theorem dX5_set_15 : decode cX5_set 15 = .ok (.aload_n 0, 1) := by decide +kernel
theorem dX5_set_16 : decode cX5_set 16 = .ok (.getfield 12, 3) := by decide +kernel
theorem dX5_set_19 : decode cX5_set 19 = .ok (.invokevirtual 58, 3) := by decide +kernel
theorem dX5_set_22 : decode cX5_set 22 = .ok (.aload_n 0, 1) := by decide +kernel
theorem dX5_set_23 : decode cX5_set 23 = .ok (.getfield 12, 3) := by decide +kernel
theorem dX5_set_26 : decode cX5_set 26 = .ok (.getfield 62, 3) := by decide +kernel
theorem dX5_set_29 : decode cX5_set 29 = .ok (.iload_n 1, 1) := by decide +kernel
theorem dX5_set_30 : decode cX5_set 30 = .ok (.iaload, 1) := by decide +kernel
theorem dX5_set_31 : decode cX5_set 31 = .ok (.istore_n 3, 1) := by decide +kernel
theorem dX5_set_32 : decode cX5_set 32 = .ok (.aload_n 0, 1) := by decide +kernel
theorem dX5_set_33 : decode cX5_set 33 = .ok (.getfield 12, 3) := by decide +kernel
theorem dX5_set_36 : decode cX5_set 36 = .ok (.getfield 62, 3) := by decide +kernel
theorem dX5_set_39 : decode cX5_set 39 = .ok (.iload_n 1, 1) := by decide +kernel
theorem dX5_set_40 : decode cX5_set 40 = .ok (.iload_n 2, 1) := by decide +kernel
theorem dX5_set_41 : decode cX5_set 41 = .ok (.iastore, 1) := by decide +kernel
theorem dX5_set_42 : decode cX5_set 42 = .ok (.aload_n 0, 1) := by decide +kernel
theorem dX5_set_43 : decode cX5_set 43 = .ok (.invokevirtual 51, 3) := by decide +kernel
theorem dX5_set_46 : decode cX5_set 46 = .ok (.iload_n 3, 1) := by decide +kernel
theorem dX5_set_47 : decode cX5_set 47 = .ok (.ireturn, 1) := by decide +kernel
set_option maxRecDepth 20000 in
theorem ggX5_read_X2_firstFault : GoodIn wsX5_read wsX2_firstFault := goodIn_r _ [10, 11, 12, 13, 14, 9, 15, 16, 17, 18, 19, 20, 21, 22, 23, 24, 167, 168] (by decide +kernel) (by decide +kernel)
set_option maxRecDepth 20000 in
theorem gX5_read_X2_firstFault : GoodIn wsX5_read (wsV RX5 66 RX2 yX2_firstFault wsX2_firstFault) := goodIn_app (goodIn_of _ (by decide +kernel)) ggX5_read_X2_firstFault
set_option maxRecDepth 20000 in
theorem ggX5_read_X1_copyOf : GoodIn wsX5_read wsX1_copyOf := goodIn_r _ [29, 30, 31, 32, 33, 163, 164, 165, 166] (by decide +kernel) (by decide +kernel)
set_option maxRecDepth 20000 in
theorem gX5_read_X1_copyOf : GoodIn wsX5_read (wsV RX5 70 RX1 yX1_copyOf wsX1_copyOf) := goodIn_app (goodIn_of _ (by decide +kernel)) ggX5_read_X1_copyOf
set_option maxRecDepth 20000 in
theorem ggX5_read_X2_addEntriesTo : GoodIn wsX5_read wsX2_addEntriesTo := goodIn_r _ [37, 11, 12, 16, 17, 9, 18, 38, 39, 40, 41, 42, 43, 44, 45, 46, 47, 48, 19, 20, 21, 49, 50, 51, 28, 52, 33, 31, 32, 53, 54, 55, 56, 57, 58, 59, 60, 61, 62, 63, 64, 167, 168, 163, 164, 165, 166] (by decide +kernel) (by decide +kernel)
set_option maxRecDepth 20000 in
theorem gX5_read_X2_addEntriesTo : GoodIn wsX5_read (wsV RX5 73 RX2 yX2_addEntriesTo wsX2_addEntriesTo) := goodIn_app (goodIn_of _ (by decide +kernel)) ggX5_read_X2_addEntriesTo
set_option maxRecDepth 20000 in
theorem ggX5_read_X3_remember : GoodIn wsX5_read wsX3_remember := goodIn_r _ [69, 70, 71, 72, 73, 74, 68, 75, 76, 26, 27, 28, 29, 30, 31, 32, 33, 169, 170, 163, 164, 165, 166] (by decide +kernel) (by decide +kernel)
set_option maxRecDepth 20000 in
theorem gX5_read_X3_remember : GoodIn wsX5_read (wsV RX5 58 RX3 yX3_remember wsX3_remember) := goodIn_app (goodIn_of _ (by decide +kernel)) ggX5_read_X3_remember
set_option maxRecDepth 20000 in
theorem ggX5_read_X2_empty : GoodIn wsX5_read wsX2_empty := goodIn_r _ [80, 11, 167, 168] (by decide +kernel) (by decide +kernel)
set_option maxRecDepth 20000 in
theorem gX5_read_X2_empty : GoodIn wsX5_read (wsV RX5 77 RX2 yX2_empty wsX2_empty) := goodIn_app (goodIn_of _ (by decide +kernel)) ggX5_read_X2_empty
set_option maxRecDepth 20000 in
theorem ggX5_read_X5_layPages : GoodIn wsX5_read wsX5_layPages := goodIn_r _ [85, 86, 3, 87, 88, 89, 90, 91, 92, 93, 94, 95, 96, 97, 98, 99, 100, 101, 102, 103, 104, 105, 106, 107, 108, 109, 110, 111, 112, 113, 114, 115, 116, 117, 118, 119, 120, 121, 122, 123, 124, 125, 126, 127, 128, 129, 130, 131, 132, 133, 134, 135, 136, 137, 138, 139, 140, 141, 142, 143, 144, 145, 146, 147, 148, 149, 150, 151, 152, 28, 153, 33, 57, 58, 59, 60, 31, 154, 43, 40, 44, 45, 155, 156, 157, 158, 159, 160, 161, 162, 163, 164, 165, 166, 171, 172, 173, 174, 175, 176, 177, 178, 179, 180, 181, 182, 183, 184, 185] (by decide +kernel) (by decide +kernel)
set_option maxRecDepth 20000 in
theorem gX5_read_X5_layPages : GoodIn wsX5_read (wsV RX5 51 RX5 yX5_layPages wsX5_layPages) := goodIn_app (goodIn_of _ (by decide +kernel)) ggX5_read_X5_layPages
theorem dX5_read_0 : decode cX5_read 0 = .ok (.aload_n 0, 1) := by decide +kernel
theorem dX5_read_1 : decode cX5_read 1 = .ok (.getfield 32, 3) := by decide +kernel
theorem dX5_read_4 : decode cX5_read 4 = .ok (.invokevirtual 66, 3) := by decide +kernel
theorem dX5_read_7 : decode cX5_read 7 = .ok (.bipush (-6), 2) := by decide +kernel
theorem dX5_read_9 : decode cX5_read 9 = .ok (.if_icmp .eq 6, 3) := by decide +kernel
theorem dX5_read_12 : decode cX5_read 12 = .ok (.bipush (-3), 2) := by decide +kernel
theorem dX5_read_14 : decode cX5_read 14 = .ok (.ireturn, 1) := by decide +kernel
theorem dX5_read_15 : decode cX5_read 15 = .ok (.aload_n 0, 1) := by decide +kernel
theorem dX5_read_16 : decode cX5_read 16 = .ok (.getfield 16, 3) := by decide +kernel
theorem dX5_read_19 : decode cX5_read 19 = .ok (.aload_n 0, 1) := by decide +kernel
theorem dX5_read_20 : decode cX5_read 20 = .ok (.getfield 12, 3) := by decide +kernel
theorem dX5_read_23 : decode cX5_read 23 = .ok (.invokevirtual 70, 3) := by decide +kernel
theorem dX5_read_26 : decode cX5_read 26 = .ok (.aload_n 0, 1) := by decide +kernel
theorem dX5_read_27 : decode cX5_read 27 = .ok (.getfield 32, 3) := by decide +kernel
theorem dX5_read_30 : decode cX5_read 30 = .ok (.aload_n 0, 1) := by decide +kernel
theorem dX5_read_31 : decode cX5_read 31 = .ok (.getfield 16, 3) := by decide +kernel
theorem dX5_read_34 : decode cX5_read 34 = .ok (.invokevirtual 73, 3) := by decide +kernel
theorem dX5_read_37 : decode cX5_read 37 = .ok (.ifCond .ne 6, 3) := by decide +kernel
theorem dX5_read_40 : decode cX5_read 40 = .ok (.bipush (-4), 2) := by decide +kernel
theorem dX5_read_42 : decode cX5_read 42 = .ok (.ireturn, 1) := by decide +kernel
theorem dX5_read_43 : decode cX5_read 43 = .ok (.aload_n 0, 1) := by decide +kernel
theorem dX5_read_44 : decode cX5_read 44 = .ok (.getfield 39, 3) := by decide +kernel
theorem dX5_read_47 : decode cX5_read 47 = .ok (.aload_n 0, 1) := by decide +kernel
theorem dX5_read_48 : decode cX5_read 48 = .ok (.getfield 12, 3) := by decide +kernel
theorem dX5_read_51 : decode cX5_read 51 = .ok (.invokevirtual 58, 3) := by decide +kernel
theorem dX5_read_54 : decode cX5_read 54 = .ok (.aload_n 0, 1) := by decide +kernel
theorem dX5_read_55 : decode cX5_read 55 = .ok (.getfield 12, 3) := by decide +kernel
theorem dX5_read_58 : decode cX5_read 58 = .ok (.aload_n 0, 1) := by decide +kernel
theorem dX5_read_59 : decode cX5_read 59 = .ok (.getfield 16, 3) := by decide +kernel
theorem dX5_read_62 : decode cX5_read 62 = .ok (.invokevirtual 70, 3) := by decide +kernel
theorem dX5_read_65 : decode cX5_read 65 = .ok (.aload_n 0, 1) := by decide +kernel
theorem dX5_read_66 : decode cX5_read 66 = .ok (.getfield 32, 3) := by decide +kernel
theorem dX5_read_69 : decode cX5_read 69 = .ok (.invokevirtual 77, 3) := by decide +kernel
theorem dX5_read_72 : decode cX5_read 72 = .ok (.aload_n 0, 1) := by decide +kernel
theorem dX5_read_73 : decode cX5_read 73 = .ok (.invokevirtual 51, 3) := by decide +kernel
theorem dX5_read_76 : decode cX5_read 76 = .ok (.aload_n 0, 1) := by decide +kernel
theorem dX5_read_77 : decode cX5_read 77 = .ok (.getfield 12, 3) := by decide +kernel
theorem dX5_read_80 : decode cX5_read 80 = .ok (.getfield 80, 3) := by decide +kernel
theorem dX5_read_83 : decode cX5_read 83 = .ok (.ireturn, 1) := by decide +kernel
set_option maxRecDepth 20000 in
theorem ggX5_change_X1_hasEntry : GoodIn wsX5_change wsX1_hasEntry := goodIn_r _ [8, 9, 115, 116, 117, 118] (by decide +kernel) (by decide +kernel)
set_option maxRecDepth 20000 in
theorem gX5_change_X1_hasEntry : GoodIn wsX5_change (wsV RX5 84 RX1 yX1_hasEntry wsX1_hasEntry) := goodIn_app (goodIn_of _ (by decide +kernel)) ggX5_change_X1_hasEntry
set_option maxRecDepth 20000 in
theorem ggX5_change_X3_remember : GoodIn wsX5_change wsX3_remember := goodIn_r _ [14, 15, 16, 17, 18, 19, 13, 20, 21, 22, 23, 7, 24, 25, 9, 26, 27, 119, 120, 115, 116, 117, 118] (by decide +kernel) (by decide +kernel)
set_option maxRecDepth 20000 in
theorem gX5_change_X3_remember : GoodIn wsX5_change (wsV RX5 58 RX3 yX3_remember wsX3_remember) := goodIn_app (goodIn_of _ (by decide +kernel)) ggX5_change_X3_remember
set_option maxRecDepth 20000 in
theorem ggX5_change_X5_layPages : GoodIn wsX5_change wsX5_layPages := goodIn_r _ [32, 33, 1, 34, 35, 36, 37, 38, 39, 40, 41, 42, 43, 44, 45, 46, 47, 48, 49, 50, 51, 52, 53, 54, 55, 56, 57, 58, 59, 60, 61, 62, 63, 64, 65, 66, 67, 68, 69, 70, 71, 72, 73, 74, 75, 76, 77, 78, 79, 80, 81, 82, 83, 84, 85, 86, 87, 88, 89, 90, 91, 92, 93, 94, 95, 96, 97, 98, 99, 7, 100, 27, 101, 5, 6, 8, 9, 102, 103, 104, 105, 106, 107, 108, 109, 110, 111, 112, 113, 114, 115, 116, 117, 118, 121, 122, 123, 124, 125, 126, 127, 128, 129, 130, 131, 132, 133, 134, 135] (by decide +kernel) (by decide +kernel)
set_option maxRecDepth 20000 in
theorem gX5_change_X5_layPages : GoodIn wsX5_change (wsV RX5 51 RX5 yX5_layPages wsX5_layPages) := goodIn_app (goodIn_of _ (by decide +kernel)) ggX5_change_X5_layPages
theorem dX5_change_0 : decode cX5_change 0 = .ok (.aload_n 0, 1) := by decide +kernel
theorem dX5_change_1 : decode cX5_change 1 = .ok (.getfield 12, 3) := by decide +kernel
theorem dX5_change_4 : decode cX5_change 4 = .ok (.iload_n 1, 1) := by decide +kernel
theorem dX5_change_5 : decode cX5_change 5 = .ok (.invokevirtual 84, 3) := by decide +kernel
theorem dX5_change_8 : decode cX5_change 8 = .ok (.ifCond .ne 5, 3) := by decide +kernel
theorem dX5_change_11 : decode cX5_change 11 = .ok (.iconst (-1), 1) := by decide +kernel
theorem dX5_change_12 : decode cX5_change 12 = .ok (.ireturn, 1) := by decide +kernel
theorem dX5_change_13 : decode cX5_change 13 = .ok (.iload_n 2, 1) := by decide +kernel
theorem dX5_change_14 : decode cX5_change 14 = .ok (.iconst 1, 1) := by decide +kernel
theorem dX5_change_15 : decode cX5_change 15 = .ok (.if_icmp .lt 9, 3) := by decide +kernel
theorem dX5_change_18 : decode cX5_change 18 = .ok (.iload_n 2, 1) := by decide +kernel
theorem dX5_change_19 : decode cX5_change 19 = .ok (.bipush 40, 2) := by decide +kernel
theorem dX5_change_21 : decode cX5_change 21 = .ok (.if_icmp .le 6, 3) := by decide +kernel
theorem dX5_change_24 : decode cX5_change 24 = .ok (.bipush (-2), 2) := by decide +kernel
theorem dX5_change_26 : decode cX5_change 26 = .ok (.ireturn, 1) := by decide +kernel
theorem dX5_change_27 : decode cX5_change 27 = .ok (.aload_n 0, 1) := by decide +kernel
theorem dX5_change_28 : decode cX5_change 28 = .ok (.getfield 39, 3) := by decide +kernel
theorem dX5_change_31 : decode cX5_change 31 = .ok (.aload_n 0, 1) := by decide +kernel
theorem dX5_change_32 : decode cX5_change 32 = .ok (.getfield 12, 3) := by decide +kernel
theorem dX5_change_35 : decode cX5_change 35 = .ok (.invokevirtual 58, 3) := by decide +kernel
theorem dX5_change_38 : decode cX5_change 38 = .ok (.aload_n 0, 1) := by decide +kernel
theorem dX5_change_39 : decode cX5_change 39 = .ok (.getfield 12, 3) := by decide +kernel
theorem dX5_change_42 : decode cX5_change 42 = .ok (.getfield 88, 3) := by decide +kernel
theorem dX5_change_45 : decode cX5_change 45 = .ok (.iload_n 1, 1) := by decide +kernel
theorem dX5_change_46 : decode cX5_change 46 = .ok (.iaload, 1) := by decide +kernel
theorem dX5_change_47 : decode cX5_change 47 = .ok (.istore_n 3, 1) := by decide +kernel
theorem dX5_change_48 : decode cX5_change 48 = .ok (.aload_n 0, 1) := by decide +kernel
theorem dX5_change_49 : decode cX5_change 49 = .ok (.getfield 12, 3) := by decide +kernel
theorem dX5_change_52 : decode cX5_change 52 = .ok (.getfield 88, 3) := by decide +kernel
theorem dX5_change_55 : decode cX5_change 55 = .ok (.iload_n 1, 1) := by decide +kernel
theorem dX5_change_56 : decode cX5_change 56 = .ok (.iload_n 2, 1) := by decide +kernel
theorem dX5_change_57 : decode cX5_change 57 = .ok (.iastore, 1) := by decide +kernel
theorem dX5_change_58 : decode cX5_change 58 = .ok (.aload_n 0, 1) := by decide +kernel
theorem dX5_change_59 : decode cX5_change 59 = .ok (.invokevirtual 51, 3) := by decide +kernel
theorem dX5_change_62 : decode cX5_change 62 = .ok (.iload_n 3, 1) := by decide +kernel
theorem dX5_change_63 : decode cX5_change 63 = .ok (.ireturn, 1) := by decide +kernel
set_option maxRecDepth 20000 in
theorem ggX5_drop_X1_hasEntry : GoodIn wsX5_drop wsX1_hasEntry := goodIn_r _ [8, 9, 119, 120, 121, 122] (by decide +kernel) (by decide +kernel)
set_option maxRecDepth 20000 in
theorem gX5_drop_X1_hasEntry : GoodIn wsX5_drop (wsV RX5 84 RX1 yX1_hasEntry wsX1_hasEntry) := goodIn_app (goodIn_of _ (by decide +kernel)) ggX5_drop_X1_hasEntry
set_option maxRecDepth 20000 in
theorem ggX5_drop_X3_remember : GoodIn wsX5_drop wsX3_remember := goodIn_r _ [14, 15, 16, 17, 18, 19, 13, 20, 21, 22, 23, 7, 24, 25, 9, 26, 27, 123, 124, 119, 120, 121, 122] (by decide +kernel) (by decide +kernel)
set_option maxRecDepth 20000 in
theorem gX5_drop_X3_remember : GoodIn wsX5_drop (wsV RX5 58 RX3 yX3_remember wsX3_remember) := goodIn_app (goodIn_of _ (by decide +kernel)) ggX5_drop_X3_remember
set_option maxRecDepth 20000 in
theorem ggX5_drop_X1_takeOut : GoodIn wsX5_drop wsX1_takeOut := goodIn_r _ [31, 9, 27, 26, 32, 5, 6, 7, 8, 119, 120, 121, 122] (by decide +kernel) (by decide +kernel)
set_option maxRecDepth 20000 in
theorem gX5_drop_X1_takeOut : GoodIn wsX5_drop (wsV RX5 91 RX1 yX1_takeOut wsX1_takeOut) := goodIn_app (goodIn_of _ (by decide +kernel)) ggX5_drop_X1_takeOut
set_option maxRecDepth 20000 in
theorem ggX5_drop_X5_layPages : GoodIn wsX5_drop wsX5_layPages := goodIn_r _ [37, 38, 1, 39, 40, 41, 42, 43, 44, 45, 46, 47, 48, 49, 50, 51, 52, 53, 54, 55, 56, 57, 58, 59, 60, 61, 62, 63, 64, 65, 66, 67, 68, 69, 70, 71, 72, 73, 74, 75, 76, 77, 78, 79, 80, 81, 82, 83, 84, 85, 86, 87, 88, 89, 90, 91, 92, 93, 94, 95, 96, 97, 98, 99, 100, 101, 102, 103, 104, 7, 105, 27, 32, 5, 6, 8, 9, 106, 107, 108, 109, 110, 111, 112, 113, 114, 115, 116, 117, 118, 119, 120, 121, 122, 125, 126, 127, 128, 129, 130, 131, 132, 133, 134, 135, 136, 137, 138, 139] (by decide +kernel) (by decide +kernel)
set_option maxRecDepth 20000 in
theorem gX5_drop_X5_layPages : GoodIn wsX5_drop (wsV RX5 51 RX5 yX5_layPages wsX5_layPages) := goodIn_app (goodIn_of _ (by decide +kernel)) ggX5_drop_X5_layPages
theorem dX5_drop_0 : decode cX5_drop 0 = .ok (.aload_n 0, 1) := by decide +kernel
theorem dX5_drop_1 : decode cX5_drop 1 = .ok (.getfield 12, 3) := by decide +kernel
theorem dX5_drop_4 : decode cX5_drop 4 = .ok (.iload_n 1, 1) := by decide +kernel
theorem dX5_drop_5 : decode cX5_drop 5 = .ok (.invokevirtual 84, 3) := by decide +kernel
theorem dX5_drop_8 : decode cX5_drop 8 = .ok (.ifCond .ne 5, 3) := by decide +kernel
theorem dX5_drop_11 : decode cX5_drop 11 = .ok (.iconst (-1), 1) := by decide +kernel
theorem dX5_drop_12 : decode cX5_drop 12 = .ok (.ireturn, 1) := by decide +kernel
theorem dX5_drop_13 : decode cX5_drop 13 = .ok (.aload_n 0, 1) := by decide +kernel
theorem dX5_drop_14 : decode cX5_drop 14 = .ok (.getfield 39, 3) := by decide +kernel
theorem dX5_drop_17 : decode cX5_drop 17 = .ok (.aload_n 0, 1) := by decide +kernel
theorem dX5_drop_18 : decode cX5_drop 18 = .ok (.getfield 12, 3) := by decide +kernel
theorem dX5_drop_21 : decode cX5_drop 21 = .ok (.invokevirtual 58, 3) := by decide +kernel
theorem dX5_drop_24 : decode cX5_drop 24 = .ok (.aload_n 0, 1) := by decide +kernel
theorem dX5_drop_25 : decode cX5_drop 25 = .ok (.getfield 12, 3) := by decide +kernel
theorem dX5_drop_28 : decode cX5_drop 28 = .ok (.getfield 88, 3) := by decide +kernel
theorem dX5_drop_31 : decode cX5_drop 31 = .ok (.iload_n 1, 1) := by decide +kernel
theorem dX5_drop_32 : decode cX5_drop 32 = .ok (.iaload, 1) := by decide +kernel
theorem dX5_drop_33 : decode cX5_drop 33 = .ok (.istore_n 2, 1) := by decide +kernel
theorem dX5_drop_34 : decode cX5_drop 34 = .ok (.aload_n 0, 1) := by decide +kernel
theorem dX5_drop_35 : decode cX5_drop 35 = .ok (.getfield 12, 3) := by decide +kernel
theorem dX5_drop_38 : decode cX5_drop 38 = .ok (.iload_n 1, 1) := by decide +kernel
theorem dX5_drop_39 : decode cX5_drop 39 = .ok (.invokevirtual 91, 3) := by decide +kernel
theorem dX5_drop_42 : decode cX5_drop 42 = .ok (.aload_n 0, 1) := by decide +kernel
theorem dX5_drop_43 : decode cX5_drop 43 = .ok (.invokevirtual 51, 3) := by decide +kernel
theorem dX5_drop_46 : decode cX5_drop 46 = .ok (.iload_n 2, 1) := by decide +kernel
theorem dX5_drop_47 : decode cX5_drop 47 = .ok (.ireturn, 1) := by decide +kernel
set_option maxRecDepth 20000 in
theorem ggX5_join_X1_hasEntry : GoodIn wsX5_join wsX1_hasEntry := goodIn_r _ [8, 9, 119, 120, 121, 122] (by decide +kernel) (by decide +kernel)
set_option maxRecDepth 20000 in
theorem gX5_join_X1_hasEntry : GoodIn wsX5_join (wsV RX5 84 RX1 yX1_hasEntry wsX1_hasEntry) := goodIn_app (goodIn_of _ (by decide +kernel)) ggX5_join_X1_hasEntry
set_option maxRecDepth 20000 in
theorem ggX5_join_X3_remember : GoodIn wsX5_join wsX3_remember := goodIn_r _ [14, 15, 16, 17, 18, 19, 13, 20, 21, 22, 23, 7, 24, 25, 9, 26, 27, 123, 124, 119, 120, 121, 122] (by decide +kernel) (by decide +kernel)
set_option maxRecDepth 20000 in
theorem gX5_join_X3_remember : GoodIn wsX5_join (wsV RX5 58 RX3 yX3_remember wsX3_remember) := goodIn_app (goodIn_of _ (by decide +kernel)) ggX5_join_X3_remember
set_option maxRecDepth 20000 in
theorem ggX5_join_X1_takeOut : GoodIn wsX5_join wsX1_takeOut := goodIn_r _ [31, 9, 27, 26, 32, 5, 6, 7, 8, 119, 120, 121, 122] (by decide +kernel) (by decide +kernel)
set_option maxRecDepth 20000 in
theorem gX5_join_X1_takeOut : GoodIn wsX5_join (wsV RX5 91 RX1 yX1_takeOut wsX1_takeOut) := goodIn_app (goodIn_of _ (by decide +kernel)) ggX5_join_X1_takeOut
set_option maxRecDepth 20000 in
theorem ggX5_join_X5_layPages : GoodIn wsX5_join wsX5_layPages := goodIn_r _ [37, 38, 1, 39, 40, 41, 42, 43, 44, 45, 46, 47, 48, 49, 50, 51, 52, 53, 54, 55, 56, 57, 58, 59, 60, 61, 62, 63, 64, 65, 66, 67, 68, 69, 70, 71, 72, 73, 74, 75, 76, 77, 78, 79, 80, 81, 82, 83, 84, 85, 86, 87, 88, 89, 90, 91, 92, 93, 94, 95, 96, 97, 98, 99, 100, 101, 102, 103, 104, 7, 105, 27, 32, 5, 6, 8, 9, 106, 107, 108, 109, 110, 111, 112, 113, 114, 115, 116, 117, 118, 119, 120, 121, 122, 125, 126, 127, 128, 129, 130, 131, 132, 133, 134, 135, 136, 137, 138, 139] (by decide +kernel) (by decide +kernel)
set_option maxRecDepth 20000 in
theorem gX5_join_X5_layPages : GoodIn wsX5_join (wsV RX5 51 RX5 yX5_layPages wsX5_layPages) := goodIn_app (goodIn_of _ (by decide +kernel)) ggX5_join_X5_layPages
theorem dX5_join_0 : decode cX5_join 0 = .ok (.aload_n 0, 1) := by decide +kernel
theorem dX5_join_1 : decode cX5_join 1 = .ok (.getfield 12, 3) := by decide +kernel
theorem dX5_join_4 : decode cX5_join 4 = .ok (.iload_n 1, 1) := by decide +kernel
theorem dX5_join_5 : decode cX5_join 5 = .ok (.invokevirtual 84, 3) := by decide +kernel
theorem dX5_join_8 : decode cX5_join 8 = .ok (.ifCond .eq 16, 3) := by decide +kernel
theorem dX5_join_11 : decode cX5_join 11 = .ok (.aload_n 0, 1) := by decide +kernel
theorem dX5_join_12 : decode cX5_join 12 = .ok (.getfield 12, 3) := by decide +kernel
theorem dX5_join_15 : decode cX5_join 15 = .ok (.iload_n 1, 1) := by decide +kernel
theorem dX5_join_16 : decode cX5_join 16 = .ok (.iconst 1, 1) := by decide +kernel
theorem dX5_join_17 : decode cX5_join 17 = .ok (.iadd, 1) := by decide +kernel
theorem dX5_join_18 : decode cX5_join 18 = .ok (.invokevirtual 84, 3) := by decide +kernel
theorem dX5_join_21 : decode cX5_join 21 = .ok (.ifCond .ne 5, 3) := by decide +kernel
theorem dX5_join_24 : decode cX5_join 24 = .ok (.iconst (-1), 1) := by decide +kernel
theorem dX5_join_25 : decode cX5_join 25 = .ok (.ireturn, 1) := by decide +kernel
theorem dX5_join_26 : decode cX5_join 26 = .ok (.aload_n 0, 1) := by decide +kernel
theorem dX5_join_27 : decode cX5_join 27 = .ok (.getfield 12, 3) := by decide +kernel
theorem dX5_join_30 : decode cX5_join 30 = .ok (.getfield 88, 3) := by decide +kernel
theorem dX5_join_33 : decode cX5_join 33 = .ok (.iload_n 1, 1) := by decide +kernel
theorem dX5_join_34 : decode cX5_join 34 = .ok (.iaload, 1) := by decide +kernel
theorem dX5_join_35 : decode cX5_join 35 = .ok (.aload_n 0, 1) := by decide +kernel
theorem dX5_join_36 : decode cX5_join 36 = .ok (.getfield 12, 3) := by decide +kernel
theorem dX5_join_39 : decode cX5_join 39 = .ok (.getfield 88, 3) := by decide +kernel
theorem dX5_join_42 : decode cX5_join 42 = .ok (.iload_n 1, 1) := by decide +kernel
theorem dX5_join_43 : decode cX5_join 43 = .ok (.iconst 1, 1) := by decide +kernel
theorem dX5_join_44 : decode cX5_join 44 = .ok (.iadd, 1) := by decide +kernel
theorem dX5_join_45 : decode cX5_join 45 = .ok (.iaload, 1) := by decide +kernel
theorem dX5_join_46 : decode cX5_join 46 = .ok (.iadd, 1) := by decide +kernel
theorem dX5_join_47 : decode cX5_join 47 = .ok (.istore_n 2, 1) := by decide +kernel
theorem dX5_join_48 : decode cX5_join 48 = .ok (.iload_n 2, 1) := by decide +kernel
theorem dX5_join_49 : decode cX5_join 49 = .ok (.bipush 40, 2) := by decide +kernel
theorem dX5_join_51 : decode cX5_join 51 = .ok (.if_icmp .le 6, 3) := by decide +kernel
theorem dX5_join_54 : decode cX5_join 54 = .ok (.bipush (-4), 2) := by decide +kernel
theorem dX5_join_56 : decode cX5_join 56 = .ok (.ireturn, 1) := by decide +kernel
theorem dX5_join_57 : decode cX5_join 57 = .ok (.aload_n 0, 1) := by decide +kernel
theorem dX5_join_58 : decode cX5_join 58 = .ok (.getfield 39, 3) := by decide +kernel
theorem dX5_join_61 : decode cX5_join 61 = .ok (.aload_n 0, 1) := by decide +kernel
theorem dX5_join_62 : decode cX5_join 62 = .ok (.getfield 12, 3) := by decide +kernel
theorem dX5_join_65 : decode cX5_join 65 = .ok (.invokevirtual 58, 3) := by decide +kernel
theorem dX5_join_68 : decode cX5_join 68 = .ok (.aload_n 0, 1) := by decide +kernel
theorem dX5_join_69 : decode cX5_join 69 = .ok (.getfield 12, 3) := by decide +kernel
theorem dX5_join_72 : decode cX5_join 72 = .ok (.getfield 88, 3) := by decide +kernel
theorem dX5_join_75 : decode cX5_join 75 = .ok (.iload_n 1, 1) := by decide +kernel
theorem dX5_join_76 : decode cX5_join 76 = .ok (.iload_n 2, 1) := by decide +kernel
theorem dX5_join_77 : decode cX5_join 77 = .ok (.iastore, 1) := by decide +kernel
theorem dX5_join_78 : decode cX5_join 78 = .ok (.aload_n 0, 1) := by decide +kernel
theorem dX5_join_79 : decode cX5_join 79 = .ok (.getfield 12, 3) := by decide +kernel
theorem dX5_join_82 : decode cX5_join 82 = .ok (.iload_n 1, 1) := by decide +kernel
theorem dX5_join_83 : decode cX5_join 83 = .ok (.iconst 1, 1) := by decide +kernel
theorem dX5_join_84 : decode cX5_join 84 = .ok (.iadd, 1) := by decide +kernel
theorem dX5_join_85 : decode cX5_join 85 = .ok (.invokevirtual 91, 3) := by decide +kernel
theorem dX5_join_88 : decode cX5_join 88 = .ok (.aload_n 0, 1) := by decide +kernel
theorem dX5_join_89 : decode cX5_join 89 = .ok (.invokevirtual 51, 3) := by decide +kernel
theorem dX5_join_92 : decode cX5_join 92 = .ok (.iload_n 2, 1) := by decide +kernel
theorem dX5_join_93 : decode cX5_join 93 = .ok (.ireturn, 1) := by decide +kernel
set_option maxRecDepth 20000 in
theorem ggX5_rename_X1_hasEntry : GoodIn wsX5_rename wsX1_hasEntry := goodIn_r _ [9, 10, 161, 162, 163, 164] (by decide +kernel) (by decide +kernel)
set_option maxRecDepth 20000 in
theorem gX5_rename_X1_hasEntry : GoodIn wsX5_rename (wsV RX5 84 RX1 yX1_hasEntry wsX1_hasEntry) := goodIn_app (goodIn_of _ (by decide +kernel)) ggX5_rename_X1_hasEntry
set_option maxRecDepth 20000 in
theorem ggX5_rename_X2_isWord : GoodIn wsX5_rename wsX2_isWord := goodIn_r _ [15, 16, 17, 18, 19, 14, 20, 165, 166] (by decide +kernel) (by decide +kernel)
set_option maxRecDepth 20000 in
theorem gX5_rename_X2_isWord : GoodIn wsX5_rename (wsV RX5 95 RX2 yX2_isWord wsX2_isWord) := goodIn_app (goodIn_of _ (by decide +kernel)) ggX5_rename_X2_isWord
set_option maxRecDepth 20000 in
theorem ggX5_rename_X2_word : GoodIn wsX5_rename wsX2_word := goodIn_r _ [24, 16, 17, 25, 26, 27, 28, 29, 30, 31, 32, 33, 34, 35, 165, 166] (by decide +kernel) (by decide +kernel)
set_option maxRecDepth 20000 in
theorem gX5_rename_X2_word : GoodIn wsX5_rename (wsV RX5 99 RX2 yX2_word wsX2_word) := goodIn_app (goodIn_of _ (by decide +kernel)) ggX5_rename_X2_word
set_option maxRecDepth 20000 in
theorem ggX5_rename_X1_numberOf : GoodIn wsX5_rename wsX1_numberOf := goodIn_r _ [39, 40, 41, 42, 43, 8, 44, 10, 45, 6, 7, 9, 161, 162, 163, 164] (by decide +kernel) (by decide +kernel)
set_option maxRecDepth 20000 in
theorem gX5_rename_X1_numberOf : GoodIn wsX5_rename (wsV RX5 103 RX1 yX1_numberOf wsX1_numberOf) := goodIn_app (goodIn_of _ (by decide +kernel)) ggX5_rename_X1_numberOf
set_option maxRecDepth 20000 in
theorem ggX5_rename_X3_remember : GoodIn wsX5_rename wsX3_remember := goodIn_r _ [50, 51, 52, 53, 54, 55, 49, 56, 57, 58, 59, 8, 60, 61, 10, 62, 40, 167, 168, 161, 162, 163, 164] (by decide +kernel) (by decide +kernel)
set_option maxRecDepth 20000 in
theorem gX5_rename_X3_remember : GoodIn wsX5_rename (wsV RX5 58 RX3 yX3_remember wsX3_remember) := goodIn_app (goodIn_of _ (by decide +kernel)) ggX5_rename_X3_remember
set_option maxRecDepth 20000 in
theorem ggX5_rename_X1_takeOut : GoodIn wsX5_rename wsX1_takeOut := goodIn_r _ [66, 10, 40, 62, 45, 6, 7, 8, 9, 161, 162, 163, 164] (by decide +kernel) (by decide +kernel)
set_option maxRecDepth 20000 in
theorem gX5_rename_X1_takeOut : GoodIn wsX5_rename (wsV RX5 91 RX1 yX1_takeOut wsX1_takeOut) := goodIn_app (goodIn_of _ (by decide +kernel)) ggX5_rename_X1_takeOut
set_option maxRecDepth 20000 in
theorem ggX5_rename_X1_tell : GoodIn wsX5_rename wsX1_tell := goodIn_r _ [70, 40, 10, 62, 41, 42, 43, 8, 44, 45, 6, 7, 9, 71, 72, 73, 74, 161, 162, 163, 164] (by decide +kernel) (by decide +kernel)
set_option maxRecDepth 20000 in
theorem gX5_rename_X1_tell : GoodIn wsX5_rename (wsV RX5 107 RX1 yX1_tell wsX1_tell) := goodIn_app (goodIn_of _ (by decide +kernel)) ggX5_rename_X1_tell
set_option maxRecDepth 20000 in
theorem ggX5_rename_X2_empty : GoodIn wsX5_rename wsX2_empty := goodIn_r _ [78, 16, 165, 166] (by decide +kernel) (by decide +kernel)
set_option maxRecDepth 20000 in
theorem gX5_rename_X2_empty : GoodIn wsX5_rename (wsV RX5 77 RX2 yX2_empty wsX2_empty) := goodIn_app (goodIn_of _ (by decide +kernel)) ggX5_rename_X2_empty
set_option maxRecDepth 20000 in
theorem ggX5_rename_X5_layPages : GoodIn wsX5_rename wsX5_layPages := goodIn_r _ [83, 84, 1, 85, 86, 87, 88, 89, 90, 91, 92, 93, 94, 95, 96, 97, 98, 99, 100, 101, 102, 103, 104, 105, 106, 107, 108, 109, 110, 111, 112, 113, 114, 115, 116, 117, 118, 119, 120, 121, 122, 123, 124, 125, 126, 127, 128, 129, 130, 131, 132, 133, 134, 135, 136, 137, 138, 139, 140, 141, 142, 143, 144, 145, 146, 147, 148, 149, 150, 8, 151, 40, 45, 6, 7, 9, 10, 152, 30, 27, 31, 32, 153, 154, 155, 156, 157, 158, 159, 160, 161, 162, 163, 164, 169, 170, 171, 172, 173, 174, 175, 176, 177, 178, 179, 180, 181, 182, 183] (by decide +kernel) (by decide +kernel)
set_option maxRecDepth 20000 in
theorem gX5_rename_X5_layPages : GoodIn wsX5_rename (wsV RX5 51 RX5 yX5_layPages wsX5_layPages) := goodIn_app (goodIn_of _ (by decide +kernel)) ggX5_rename_X5_layPages
theorem dX5_rename_0 : decode cX5_rename 0 = .ok (.aload_n 0, 1) := by decide +kernel
theorem dX5_rename_1 : decode cX5_rename 1 = .ok (.getfield 12, 3) := by decide +kernel
theorem dX5_rename_4 : decode cX5_rename 4 = .ok (.iload_n 1, 1) := by decide +kernel
theorem dX5_rename_5 : decode cX5_rename 5 = .ok (.invokevirtual 84, 3) := by decide +kernel
theorem dX5_rename_8 : decode cX5_rename 8 = .ok (.ifCond .ne 5, 3) := by decide +kernel
theorem dX5_rename_11 : decode cX5_rename 11 = .ok (.iconst (-1), 1) := by decide +kernel
theorem dX5_rename_12 : decode cX5_rename 12 = .ok (.ireturn, 1) := by decide +kernel
theorem dX5_rename_13 : decode cX5_rename 13 = .ok (.aload_n 0, 1) := by decide +kernel
theorem dX5_rename_14 : decode cX5_rename 14 = .ok (.getfield 32, 3) := by decide +kernel
theorem dX5_rename_17 : decode cX5_rename 17 = .ok (.invokevirtual 95, 3) := by decide +kernel
theorem dX5_rename_20 : decode cX5_rename 20 = .ok (.ifCond .ne 6, 3) := by decide +kernel
theorem dX5_rename_23 : decode cX5_rename 23 = .ok (.bipush (-3), 2) := by decide +kernel
theorem dX5_rename_25 : decode cX5_rename 25 = .ok (.ireturn, 1) := by decide +kernel
theorem dX5_rename_26 : decode cX5_rename 26 = .ok (.aload_n 0, 1) := by decide +kernel
theorem dX5_rename_27 : decode cX5_rename 27 = .ok (.getfield 32, 3) := by decide +kernel
theorem dX5_rename_30 : decode cX5_rename 30 = .ok (.invokevirtual 99, 3) := by decide +kernel
theorem dX5_rename_33 : decode cX5_rename 33 = .ok (.lstore_n 2, 1) := by decide +kernel
theorem dX5_rename_34 : decode cX5_rename 34 = .ok (.aload_n 0, 1) := by decide +kernel
theorem dX5_rename_35 : decode cX5_rename 35 = .ok (.getfield 12, 3) := by decide +kernel
theorem dX5_rename_38 : decode cX5_rename 38 = .ok (.lload_n 2, 1) := by decide +kernel
theorem dX5_rename_39 : decode cX5_rename 39 = .ok (.invokevirtual 103, 3) := by decide +kernel
theorem dX5_rename_42 : decode cX5_rename 42 = .ok (.istore 4, 2) := by decide +kernel
theorem dX5_rename_44 : decode cX5_rename 44 = .ok (.iload 4, 2) := by decide +kernel
theorem dX5_rename_46 : decode cX5_rename 46 = .ok (.bipush (-6), 2) := by decide +kernel
theorem dX5_rename_48 : decode cX5_rename 48 = .ok (.if_icmp .eq 12, 3) := by decide +kernel
theorem dX5_rename_51 : decode cX5_rename 51 = .ok (.iload 4, 2) := by decide +kernel
theorem dX5_rename_53 : decode cX5_rename 53 = .ok (.iload_n 1, 1) := by decide +kernel
theorem dX5_rename_54 : decode cX5_rename 54 = .ok (.if_icmp .eq 6, 3) := by decide +kernel
theorem dX5_rename_57 : decode cX5_rename 57 = .ok (.bipush (-5), 2) := by decide +kernel
theorem dX5_rename_59 : decode cX5_rename 59 = .ok (.ireturn, 1) := by decide +kernel
theorem dX5_rename_60 : decode cX5_rename 60 = .ok (.aload_n 0, 1) := by decide +kernel
theorem dX5_rename_61 : decode cX5_rename 61 = .ok (.getfield 39, 3) := by decide +kernel
theorem dX5_rename_64 : decode cX5_rename 64 = .ok (.aload_n 0, 1) := by decide +kernel
theorem dX5_rename_65 : decode cX5_rename 65 = .ok (.getfield 12, 3) := by decide +kernel
theorem dX5_rename_68 : decode cX5_rename 68 = .ok (.invokevirtual 58, 3) := by decide +kernel
theorem dX5_rename_71 : decode cX5_rename 71 = .ok (.aload_n 0, 1) := by decide +kernel
theorem dX5_rename_72 : decode cX5_rename 72 = .ok (.getfield 12, 3) := by decide +kernel
theorem dX5_rename_75 : decode cX5_rename 75 = .ok (.getfield 88, 3) := by decide +kernel
theorem dX5_rename_78 : decode cX5_rename 78 = .ok (.iload_n 1, 1) := by decide +kernel
theorem dX5_rename_79 : decode cX5_rename 79 = .ok (.iaload, 1) := by decide +kernel
theorem dX5_rename_80 : decode cX5_rename 80 = .ok (.istore 5, 2) := by decide +kernel
theorem dX5_rename_82 : decode cX5_rename 82 = .ok (.aload_n 0, 1) := by decide +kernel
theorem dX5_rename_83 : decode cX5_rename 83 = .ok (.getfield 12, 3) := by decide +kernel
theorem dX5_rename_86 : decode cX5_rename 86 = .ok (.iload_n 1, 1) := by decide +kernel
theorem dX5_rename_87 : decode cX5_rename 87 = .ok (.invokevirtual 91, 3) := by decide +kernel
theorem dX5_rename_90 : decode cX5_rename 90 = .ok (.aload_n 0, 1) := by decide +kernel
theorem dX5_rename_91 : decode cX5_rename 91 = .ok (.getfield 12, 3) := by decide +kernel
theorem dX5_rename_94 : decode cX5_rename 94 = .ok (.lload_n 2, 1) := by decide +kernel
theorem dX5_rename_95 : decode cX5_rename 95 = .ok (.iload 5, 2) := by decide +kernel
theorem dX5_rename_97 : decode cX5_rename 97 = .ok (.invokevirtual 107, 3) := by decide +kernel
theorem dX5_rename_100 : decode cX5_rename 100 = .ok (.pop, 1) := by decide +kernel
theorem dX5_rename_101 : decode cX5_rename 101 = .ok (.aload_n 0, 1) := by decide +kernel
theorem dX5_rename_102 : decode cX5_rename 102 = .ok (.getfield 32, 3) := by decide +kernel
theorem dX5_rename_105 : decode cX5_rename 105 = .ok (.invokevirtual 77, 3) := by decide +kernel
theorem dX5_rename_108 : decode cX5_rename 108 = .ok (.aload_n 0, 1) := by decide +kernel
theorem dX5_rename_109 : decode cX5_rename 109 = .ok (.invokevirtual 51, 3) := by decide +kernel
theorem dX5_rename_112 : decode cX5_rename 112 = .ok (.aload_n 0, 1) := by decide +kernel
theorem dX5_rename_113 : decode cX5_rename 113 = .ok (.getfield 12, 3) := by decide +kernel
theorem dX5_rename_116 : decode cX5_rename 116 = .ok (.lload_n 2, 1) := by decide +kernel
theorem dX5_rename_117 : decode cX5_rename 117 = .ok (.invokevirtual 103, 3) := by decide +kernel
theorem dX5_rename_120 : decode cX5_rename 120 = .ok (.ireturn, 1) := by decide +kernel
set_option maxRecDepth 20000 in
theorem ggX5_entry_X1_hasEntry : GoodIn wsX5_entry wsX1_hasEntry := goodIn_r _ [11, 12, 50, 51, 52, 53] (by decide +kernel) (by decide +kernel)
set_option maxRecDepth 20000 in
theorem gX5_entry_X1_hasEntry : GoodIn wsX5_entry (wsV RX5 84 RX1 yX1_hasEntry wsX1_hasEntry) := goodIn_app (goodIn_of _ (by decide +kernel)) ggX5_entry_X1_hasEntry
set_option maxRecDepth 20000 in
theorem ggX5_entry_X0_pagesOf : GoodIn wsX5_entry wsX0_pagesOf := goodIn_r _ [17, 18, 19, 54, 55, 56, 57, 58, 59, 60, 61, 62, 63, 64, 65, 66, 67, 68] (by decide +kernel) (by decide +kernel)
set_option maxRecDepth 20000 in
theorem gX5_entry_X0_pagesOf : GoodIn wsX5_entry (wsV RX5 120 RX0 yX0_pagesOf wsX0_pagesOf) := goodIn_app (goodIn_of _ (by decide +kernel)) ggX5_entry_X0_pagesOf
set_option maxRecDepth 20000 in
theorem ggX5_entry_X1_wordOf : GoodIn wsX5_entry wsX1_wordOf := goodIn_r _ [23, 24, 25, 8, 9, 10, 11, 12, 50, 51, 52, 53] (by decide +kernel) (by decide +kernel)
set_option maxRecDepth 20000 in
theorem gX5_entry_X1_wordOf : GoodIn wsX5_entry (wsV RX5 124 RX1 yX1_wordOf wsX1_wordOf) := goodIn_app (goodIn_of _ (by decide +kernel)) ggX5_entry_X1_wordOf
set_option maxRecDepth 20000 in
theorem ggX5_entry_X4_letters : GoodIn wsX5_entry wsX4_letters := goodIn_r _ [29, 30] (by decide +kernel) (by decide +kernel)
set_option maxRecDepth 20000 in
theorem gX5_entry_X4_letters : GoodIn wsX5_entry (va_wsS RX5 128 yX4_letters wsX4_letters) := goodIn_app (goodIn_of _ (by decide +kernel)) ggX5_entry_X4_letters
set_option maxRecDepth 20000 in
theorem ggX5_entry_X4_code : GoodIn wsX5_entry wsX4_code := goodIn_r _ [33, 34, 27, 28, 29, 30, 35, 36, 37] (by decide +kernel) (by decide +kernel)
set_option maxRecDepth 20000 in
theorem gX5_entry_X4_code : GoodIn wsX5_entry (va_wsS RX5 133 yX4_code wsX4_code) := goodIn_app (goodIn_of _ (by decide +kernel)) ggX5_entry_X4_code
set_option maxRecDepth 20000 in
theorem ggX5_entry_X5_codeOrNone : GoodIn wsX5_entry wsX5_codeOrNone := goodIn_r _ [41] (by decide +kernel) (by decide +kernel)
set_option maxRecDepth 20000 in
theorem gX5_entry_X5_codeOrNone : GoodIn wsX5_entry (va_wsS RX5 137 yX5_codeOrNone wsX5_codeOrNone) := goodIn_app (goodIn_of _ (by decide +kernel)) ggX5_entry_X5_codeOrNone
theorem dX5_entry_0 : decode cX5_entry 0 = .ok (.aload_n 0, 1) := by decide +kernel
theorem dX5_entry_1 : decode cX5_entry 1 = .ok (.getfield 12, 3) := by decide +kernel
theorem dX5_entry_4 : decode cX5_entry 4 = .ok (.iload_n 1, 1) := by decide +kernel
theorem dX5_entry_5 : decode cX5_entry 5 = .ok (.invokevirtual 84, 3) := by decide +kernel
theorem dX5_entry_8 : decode cX5_entry 8 = .ok (.ifCond .ne 5, 3) := by decide +kernel
theorem dX5_entry_11 : decode cX5_entry 11 = .ok (.iconst (-1), 1) := by decide +kernel
theorem dX5_entry_12 : decode cX5_entry 12 = .ok (.ireturn, 1) := by decide +kernel
theorem dX5_entry_13 : decode cX5_entry 13 = .ok (.iload_n 2, 1) := by decide +kernel
theorem dX5_entry_14 : decode cX5_entry 14 = .ok (.ifCond .ge 6, 3) := by decide +kernel
theorem dX5_entry_17 : decode cX5_entry 17 = .ok (.bipush (-2), 2) := by decide +kernel
theorem dX5_entry_19 : decode cX5_entry 19 = .ok (.ireturn, 1) := by decide +kernel
theorem dX5_entry_20 : decode cX5_entry 20 = .ok (.iload_n 2, 1) := by decide +kernel
theorem dX5_entry_21 : decode cX5_entry 21 = .ok (.tableswitch 100 0 5 #[39, 49, 59, 69, 79, 88], 39) := by decide +kernel
theorem dX5_entry_60 : decode cX5_entry 60 = .ok (.aload_n 0, 1) := by decide +kernel
theorem dX5_entry_61 : decode cX5_entry 61 = .ok (.getfield 12, 3) := by decide +kernel
theorem dX5_entry_64 : decode cX5_entry 64 = .ok (.getfield 88, 3) := by decide +kernel
theorem dX5_entry_67 : decode cX5_entry 67 = .ok (.iload_n 1, 1) := by decide +kernel
theorem dX5_entry_68 : decode cX5_entry 68 = .ok (.iaload, 1) := by decide +kernel
theorem dX5_entry_69 : decode cX5_entry 69 = .ok (.ireturn, 1) := by decide +kernel
theorem dX5_entry_70 : decode cX5_entry 70 = .ok (.aload_n 0, 1) := by decide +kernel
theorem dX5_entry_71 : decode cX5_entry 71 = .ok (.getfield 22, 3) := by decide +kernel
theorem dX5_entry_74 : decode cX5_entry 74 = .ok (.getfield 111, 3) := by decide +kernel
theorem dX5_entry_77 : decode cX5_entry 77 = .ok (.iload_n 1, 1) := by decide +kernel
theorem dX5_entry_78 : decode cX5_entry 78 = .ok (.iaload, 1) := by decide +kernel
theorem dX5_entry_79 : decode cX5_entry 79 = .ok (.ireturn, 1) := by decide +kernel
theorem dX5_entry_80 : decode cX5_entry 80 = .ok (.aload_n 0, 1) := by decide +kernel
theorem dX5_entry_81 : decode cX5_entry 81 = .ok (.getfield 22, 3) := by decide +kernel
theorem dX5_entry_84 : decode cX5_entry 84 = .ok (.getfield 114, 3) := by decide +kernel
theorem dX5_entry_87 : decode cX5_entry 87 = .ok (.iload_n 1, 1) := by decide +kernel
theorem dX5_entry_88 : decode cX5_entry 88 = .ok (.iaload, 1) := by decide +kernel
theorem dX5_entry_89 : decode cX5_entry 89 = .ok (.ireturn, 1) := by decide +kernel
theorem dX5_entry_90 : decode cX5_entry 90 = .ok (.aload_n 0, 1) := by decide +kernel
theorem dX5_entry_91 : decode cX5_entry 91 = .ok (.getfield 22, 3) := by decide +kernel
theorem dX5_entry_94 : decode cX5_entry 94 = .ok (.getfield 117, 3) := by decide +kernel
theorem dX5_entry_97 : decode cX5_entry 97 = .ok (.iload_n 1, 1) := by decide +kernel
theorem dX5_entry_98 : decode cX5_entry 98 = .ok (.iaload, 1) := by decide +kernel
theorem dX5_entry_99 : decode cX5_entry 99 = .ok (.ireturn, 1) := by decide +kernel
theorem dX5_entry_100 : decode cX5_entry 100 = .ok (.aload_n 0, 1) := by decide +kernel
theorem dX5_entry_101 : decode cX5_entry 101 = .ok (.getfield 22, 3) := by decide +kernel
theorem dX5_entry_104 : decode cX5_entry 104 = .ok (.iload_n 1, 1) := by decide +kernel
theorem dX5_entry_105 : decode cX5_entry 105 = .ok (.invokevirtual 120, 3) := by decide +kernel
theorem dX5_entry_108 : decode cX5_entry 108 = .ok (.ireturn, 1) := by decide +kernel
theorem dX5_entry_109 : decode cX5_entry 109 = .ok (.aload_n 0, 1) := by decide +kernel
theorem dX5_entry_110 : decode cX5_entry 110 = .ok (.getfield 12, 3) := by decide +kernel
theorem dX5_entry_113 : decode cX5_entry 113 = .ok (.iload_n 1, 1) := by decide +kernel
theorem dX5_entry_114 : decode cX5_entry 114 = .ok (.invokevirtual 124, 3) := by decide +kernel
theorem dX5_entry_117 : decode cX5_entry 117 = .ok (.invokestatic 128, 3) := by decide +kernel
theorem dX5_entry_120 : decode cX5_entry 120 = .ok (.ireturn, 1) := by decide +kernel
theorem dX5_entry_121 : decode cX5_entry 121 = .ok (.aload_n 0, 1) := by decide +kernel
theorem dX5_entry_122 : decode cX5_entry 122 = .ok (.getfield 12, 3) := by decide +kernel
theorem dX5_entry_125 : decode cX5_entry 125 = .ok (.iload_n 1, 1) := by decide +kernel
theorem dX5_entry_126 : decode cX5_entry 126 = .ok (.invokevirtual 124, 3) := by decide +kernel
theorem dX5_entry_129 : decode cX5_entry 129 = .ok (.iload_n 2, 1) := by decide +kernel
theorem dX5_entry_130 : decode cX5_entry 130 = .ok (.bipush 6, 2) := by decide +kernel
theorem dX5_entry_132 : decode cX5_entry 132 = .ok (.isub, 1) := by decide +kernel
theorem dX5_entry_133 : decode cX5_entry 133 = .ok (.invokestatic 133, 3) := by decide +kernel
theorem dX5_entry_136 : decode cX5_entry 136 = .ok (.invokestatic 137, 3) := by decide +kernel
theorem dX5_entry_139 : decode cX5_entry 139 = .ok (.ireturn, 1) := by decide +kernel
set_option maxRecDepth 20000 in
theorem ggX5_page_X0_hasPage : GoodIn wsX5_page wsX0_hasPage := goodIn_r _ [12, 13, 66, 67, 68, 69, 70, 71, 72, 73, 74, 75, 76, 77, 78, 79, 80] (by decide +kernel) (by decide +kernel)
set_option maxRecDepth 20000 in
theorem gX5_page_X0_hasPage : GoodIn wsX5_page (wsV RX5 140 RX0 yX0_hasPage wsX0_hasPage) := goodIn_app (goodIn_of _ (by decide +kernel)) ggX5_page_X0_hasPage
set_option maxRecDepth 20000 in
theorem ggX5_page_X0_blankLinesOf : GoodIn wsX5_page wsX0_blankLinesOf := goodIn_r _ [17, 18, 19, 20, 66, 67, 68, 69, 70, 71, 72, 73, 74, 75, 76, 77, 78, 79, 80] (by decide +kernel) (by decide +kernel)
set_option maxRecDepth 20000 in
theorem gX5_page_X0_blankLinesOf : GoodIn wsX5_page (wsV RX5 155 RX0 yX0_blankLinesOf wsX0_blankLinesOf) := goodIn_app (goodIn_of _ (by decide +kernel)) ggX5_page_X0_blankLinesOf
set_option maxRecDepth 20000 in
theorem ggX5_page_X0_headWidth : GoodIn wsX5_page wsX0_headWidth := goodIn_r _ [24, 25, 26, 27, 28, 29, 30, 31, 32, 33, 34, 35, 36, 37, 38, 39, 40, 41, 42, 66, 67, 68, 69, 70, 71, 72, 73, 74, 75, 76, 77, 78, 79, 80, 81, 82, 83, 84] (by decide +kernel) (by decide +kernel)
set_option maxRecDepth 20000 in
theorem gX5_page_X0_headWidth : GoodIn wsX5_page (wsV RX5 161 RX0 yX0_headWidth wsX0_headWidth) := goodIn_app (goodIn_of _ (by decide +kernel)) ggX5_page_X0_headWidth
set_option maxRecDepth 20000 in
theorem ggX5_page_X0_headCode : GoodIn wsX5_page wsX0_headCode := goodIn_r _ [46, 25, 26, 27, 28, 29, 30, 31, 32, 33, 34, 35, 36, 37, 38, 39, 40, 41, 42, 47, 48, 49, 50, 51, 52, 53, 66, 67, 68, 69, 70, 71, 72, 73, 74, 75, 76, 77, 78, 79, 80, 81, 82, 83, 84] (by decide +kernel) (by decide +kernel)
set_option maxRecDepth 20000 in
theorem gX5_page_X0_headCode : GoodIn wsX5_page (wsV RX5 165 RX0 yX0_headCode wsX0_headCode) := goodIn_app (goodIn_of _ (by decide +kernel)) ggX5_page_X0_headCode
set_option maxRecDepth 20000 in
theorem ggX5_page_X5_codeOrNone : GoodIn wsX5_page wsX5_codeOrNone := goodIn_r _ [57] (by decide +kernel) (by decide +kernel)
set_option maxRecDepth 20000 in
theorem gX5_page_X5_codeOrNone : GoodIn wsX5_page (va_wsS RX5 137 yX5_codeOrNone wsX5_codeOrNone) := goodIn_app (goodIn_of _ (by decide +kernel)) ggX5_page_X5_codeOrNone
theorem dX5_page_0 : decode cX5_page 0 = .ok (.aload_n 0, 1) := by decide +kernel
theorem dX5_page_1 : decode cX5_page 1 = .ok (.getfield 22, 3) := by decide +kernel
theorem dX5_page_4 : decode cX5_page 4 = .ok (.iload_n 1, 1) := by decide +kernel
theorem dX5_page_5 : decode cX5_page 5 = .ok (.invokevirtual 140, 3) := by decide +kernel
theorem dX5_page_8 : decode cX5_page 8 = .ok (.ifCond .ne 5, 3) := by decide +kernel
theorem dX5_page_11 : decode cX5_page 11 = .ok (.iconst (-1), 1) := by decide +kernel
theorem dX5_page_12 : decode cX5_page 12 = .ok (.ireturn, 1) := by decide +kernel
theorem dX5_page_13 : decode cX5_page 13 = .ok (.iload_n 2, 1) := by decide +kernel
theorem dX5_page_14 : decode cX5_page 14 = .ok (.ifCond .ge 6, 3) := by decide +kernel
theorem dX5_page_17 : decode cX5_page 17 = .ok (.bipush (-2), 2) := by decide +kernel
theorem dX5_page_19 : decode cX5_page 19 = .ok (.ireturn, 1) := by decide +kernel
theorem dX5_page_20 : decode cX5_page 20 = .ok (.iload_n 2, 1) := by decide +kernel
theorem dX5_page_21 : decode cX5_page 21 = .ok (.tableswitch 115 0 6 #[43, 53, 63, 73, 83, 92, 102], 43) := by decide +kernel
theorem dX5_page_64 : decode cX5_page 64 = .ok (.aload_n 0, 1) := by decide +kernel
theorem dX5_page_65 : decode cX5_page 65 = .ok (.getfield 22, 3) := by decide +kernel
theorem dX5_page_68 : decode cX5_page 68 = .ok (.getfield 143, 3) := by decide +kernel
theorem dX5_page_71 : decode cX5_page 71 = .ok (.iload_n 1, 1) := by decide +kernel
theorem dX5_page_72 : decode cX5_page 72 = .ok (.iaload, 1) := by decide +kernel
theorem dX5_page_73 : decode cX5_page 73 = .ok (.ireturn, 1) := by decide +kernel
theorem dX5_page_74 : decode cX5_page 74 = .ok (.aload_n 0, 1) := by decide +kernel
theorem dX5_page_75 : decode cX5_page 75 = .ok (.getfield 22, 3) := by decide +kernel
theorem dX5_page_78 : decode cX5_page 78 = .ok (.getfield 146, 3) := by decide +kernel
theorem dX5_page_81 : decode cX5_page 81 = .ok (.iload_n 1, 1) := by decide +kernel
theorem dX5_page_82 : decode cX5_page 82 = .ok (.iaload, 1) := by decide +kernel
theorem dX5_page_83 : decode cX5_page 83 = .ok (.ireturn, 1) := by decide +kernel
theorem dX5_page_84 : decode cX5_page 84 = .ok (.aload_n 0, 1) := by decide +kernel
theorem dX5_page_85 : decode cX5_page 85 = .ok (.getfield 22, 3) := by decide +kernel
theorem dX5_page_88 : decode cX5_page 88 = .ok (.getfield 149, 3) := by decide +kernel
theorem dX5_page_91 : decode cX5_page 91 = .ok (.iload_n 1, 1) := by decide +kernel
theorem dX5_page_92 : decode cX5_page 92 = .ok (.iaload, 1) := by decide +kernel
theorem dX5_page_93 : decode cX5_page 93 = .ok (.ireturn, 1) := by decide +kernel
theorem dX5_page_94 : decode cX5_page 94 = .ok (.aload_n 0, 1) := by decide +kernel
theorem dX5_page_95 : decode cX5_page 95 = .ok (.getfield 22, 3) := by decide +kernel
theorem dX5_page_98 : decode cX5_page 98 = .ok (.getfield 152, 3) := by decide +kernel
theorem dX5_page_101 : decode cX5_page 101 = .ok (.iload_n 1, 1) := by decide +kernel
theorem dX5_page_102 : decode cX5_page 102 = .ok (.iaload, 1) := by decide +kernel
theorem dX5_page_103 : decode cX5_page 103 = .ok (.ireturn, 1) := by decide +kernel
theorem dX5_page_104 : decode cX5_page 104 = .ok (.aload_n 0, 1) := by decide +kernel
theorem dX5_page_105 : decode cX5_page 105 = .ok (.getfield 22, 3) := by decide +kernel
theorem dX5_page_108 : decode cX5_page 108 = .ok (.iload_n 1, 1) := by decide +kernel
theorem dX5_page_109 : decode cX5_page 109 = .ok (.invokevirtual 155, 3) := by decide +kernel
theorem dX5_page_112 : decode cX5_page 112 = .ok (.ireturn, 1) := by decide +kernel
theorem dX5_page_113 : decode cX5_page 113 = .ok (.aload_n 0, 1) := by decide +kernel
theorem dX5_page_114 : decode cX5_page 114 = .ok (.getfield 22, 3) := by decide +kernel
theorem dX5_page_117 : decode cX5_page 117 = .ok (.getfield 158, 3) := by decide +kernel
theorem dX5_page_120 : decode cX5_page 120 = .ok (.iload_n 1, 1) := by decide +kernel
theorem dX5_page_121 : decode cX5_page 121 = .ok (.iaload, 1) := by decide +kernel
theorem dX5_page_122 : decode cX5_page 122 = .ok (.ireturn, 1) := by decide +kernel
theorem dX5_page_123 : decode cX5_page 123 = .ok (.aload_n 0, 1) := by decide +kernel
theorem dX5_page_124 : decode cX5_page 124 = .ok (.getfield 22, 3) := by decide +kernel
theorem dX5_page_127 : decode cX5_page 127 = .ok (.iload_n 1, 1) := by decide +kernel
theorem dX5_page_128 : decode cX5_page 128 = .ok (.aload_n 0, 1) := by decide +kernel
theorem dX5_page_129 : decode cX5_page 129 = .ok (.getfield 12, 3) := by decide +kernel
theorem dX5_page_132 : decode cX5_page 132 = .ok (.invokevirtual 161, 3) := by decide +kernel
theorem dX5_page_135 : decode cX5_page 135 = .ok (.ireturn, 1) := by decide +kernel
theorem dX5_page_136 : decode cX5_page 136 = .ok (.aload_n 0, 1) := by decide +kernel
theorem dX5_page_137 : decode cX5_page 137 = .ok (.getfield 22, 3) := by decide +kernel
theorem dX5_page_140 : decode cX5_page 140 = .ok (.iload_n 1, 1) := by decide +kernel
theorem dX5_page_141 : decode cX5_page 141 = .ok (.iload_n 2, 1) := by decide +kernel
theorem dX5_page_142 : decode cX5_page 142 = .ok (.bipush 7, 2) := by decide +kernel
theorem dX5_page_144 : decode cX5_page 144 = .ok (.isub, 1) := by decide +kernel
theorem dX5_page_145 : decode cX5_page 145 = .ok (.aload_n 0, 1) := by decide +kernel
theorem dX5_page_146 : decode cX5_page 146 = .ok (.getfield 12, 3) := by decide +kernel
theorem dX5_page_149 : decode cX5_page 149 = .ok (.invokevirtual 165, 3) := by decide +kernel
theorem dX5_page_152 : decode cX5_page 152 = .ok (.invokestatic 137, 3) := by decide +kernel
theorem dX5_page_155 : decode cX5_page 155 = .ok (.ireturn, 1) := by decide +kernel
set_option maxRecDepth 20000 in
theorem ggX5_fold_X0_folds : GoodIn wsX5_fold wsX0_folds := goodIn_r _ [6, 7, 31, 32, 33, 34, 35, 36, 37, 38, 39, 40, 41, 42, 43, 44, 45] (by decide +kernel) (by decide +kernel)
set_option maxRecDepth 20000 in
theorem gX5_fold_X0_folds : GoodIn wsX5_fold (wsV RX5 169 RX0 yX0_folds wsX0_folds) := goodIn_app (goodIn_of _ (by decide +kernel)) ggX5_fold_X0_folds
set_option maxRecDepth 20000 in
theorem ggX5_fold_X0_leftName : GoodIn wsX5_fold wsX0_leftName := goodIn_r _ [11, 12, 31, 32, 33, 34, 35, 36, 37, 38, 39, 40, 41, 42, 43, 44, 45] (by decide +kernel) (by decide +kernel)
set_option maxRecDepth 20000 in
theorem gX5_fold_X0_leftName : GoodIn wsX5_fold (wsV RX5 172 RX0 yX0_leftName wsX0_leftName) := goodIn_app (goodIn_of _ (by decide +kernel)) ggX5_fold_X0_leftName
set_option maxRecDepth 20000 in
theorem ggX5_fold_X0_hasPage : GoodIn wsX5_fold wsX0_hasPage := goodIn_r _ [16, 7, 31, 32, 33, 34, 35, 36, 37, 38, 39, 40, 41, 42, 43, 44, 45] (by decide +kernel) (by decide +kernel)
set_option maxRecDepth 20000 in
theorem gX5_fold_X0_hasPage : GoodIn wsX5_fold (wsV RX5 140 RX0 yX0_hasPage wsX0_hasPage) := goodIn_app (goodIn_of _ (by decide +kernel)) ggX5_fold_X0_hasPage
set_option maxRecDepth 20000 in
theorem ggX5_fold_X0_rightName : GoodIn wsX5_fold wsX0_rightName := goodIn_r _ [20, 21, 22, 12, 31, 32, 33, 34, 35, 36, 37, 38, 39, 40, 41, 42, 43, 44, 45] (by decide +kernel) (by decide +kernel)
set_option maxRecDepth 20000 in
theorem gX5_fold_X0_rightName : GoodIn wsX5_fold (wsV RX5 175 RX0 yX0_rightName wsX0_rightName) := goodIn_app (goodIn_of _ (by decide +kernel)) ggX5_fold_X0_rightName
theorem dX5_fold_0 : decode cX5_fold 0 = .ok (.iload_n 1, 1) := by decide +kernel
theorem dX5_fold_1 : decode cX5_fold 1 = .ok (.ifCond .lt 14, 3) := by decide +kernel
theorem dX5_fold_4 : decode cX5_fold 4 = .ok (.iload_n 1, 1) := by decide +kernel
theorem dX5_fold_5 : decode cX5_fold 5 = .ok (.aload_n 0, 1) := by decide +kernel
theorem dX5_fold_6 : decode cX5_fold 6 = .ok (.getfield 22, 3) := by decide +kernel
theorem dX5_fold_9 : decode cX5_fold 9 = .ok (.invokevirtual 169, 3) := by decide +kernel
theorem dX5_fold_12 : decode cX5_fold 12 = .ok (.if_icmp .lt 5, 3) := by decide +kernel
theorem dX5_fold_15 : decode cX5_fold 15 = .ok (.iconst (-1), 1) := by decide +kernel
theorem dX5_fold_16 : decode cX5_fold 16 = .ok (.ireturn, 1) := by decide +kernel
theorem dX5_fold_17 : decode cX5_fold 17 = .ok (.iload_n 2, 1) := by decide +kernel
theorem dX5_fold_18 : decode cX5_fold 18 = .ok (.ifCond .eq 14, 3) := by decide +kernel
theorem dX5_fold_21 : decode cX5_fold 21 = .ok (.aload_n 0, 1) := by decide +kernel
theorem dX5_fold_22 : decode cX5_fold 22 = .ok (.getfield 22, 3) := by decide +kernel
theorem dX5_fold_25 : decode cX5_fold 25 = .ok (.iconst 2, 1) := by decide +kernel
theorem dX5_fold_26 : decode cX5_fold 26 = .ok (.iload_n 1, 1) := by decide +kernel
theorem dX5_fold_27 : decode cX5_fold 27 = .ok (.imul, 1) := by decide +kernel
theorem dX5_fold_28 : decode cX5_fold 28 = .ok (.invokevirtual 172, 3) := by decide +kernel
theorem dX5_fold_31 : decode cX5_fold 31 = .ok (.ireturn, 1) := by decide +kernel
theorem dX5_fold_32 : decode cX5_fold 32 = .ok (.iconst 2, 1) := by decide +kernel
theorem dX5_fold_33 : decode cX5_fold 33 = .ok (.iload_n 1, 1) := by decide +kernel
theorem dX5_fold_34 : decode cX5_fold 34 = .ok (.imul, 1) := by decide +kernel
theorem dX5_fold_35 : decode cX5_fold 35 = .ok (.iconst 1, 1) := by decide +kernel
theorem dX5_fold_36 : decode cX5_fold 36 = .ok (.iadd, 1) := by decide +kernel
theorem dX5_fold_37 : decode cX5_fold 37 = .ok (.istore_n 3, 1) := by decide +kernel
theorem dX5_fold_38 : decode cX5_fold 38 = .ok (.aload_n 0, 1) := by decide +kernel
theorem dX5_fold_39 : decode cX5_fold 39 = .ok (.getfield 22, 3) := by decide +kernel
theorem dX5_fold_42 : decode cX5_fold 42 = .ok (.iload_n 3, 1) := by decide +kernel
theorem dX5_fold_43 : decode cX5_fold 43 = .ok (.invokevirtual 140, 3) := by decide +kernel
theorem dX5_fold_46 : decode cX5_fold 46 = .ok (.ifCond .eq 14, 3) := by decide +kernel
theorem dX5_fold_49 : decode cX5_fold 49 = .ok (.aload_n 0, 1) := by decide +kernel
theorem dX5_fold_50 : decode cX5_fold 50 = .ok (.getfield 22, 3) := by decide +kernel
theorem dX5_fold_53 : decode cX5_fold 53 = .ok (.iload_n 3, 1) := by decide +kernel
theorem dX5_fold_54 : decode cX5_fold 54 = .ok (.invokevirtual 175, 3) := by decide +kernel
theorem dX5_fold_57 : decode cX5_fold 57 = .ok (.goto 5, 3) := by decide +kernel
theorem dX5_fold_60 : decode cX5_fold 60 = .ok (.bipush (-6), 2) := by decide +kernel
theorem dX5_fold_62 : decode cX5_fold 62 = .ok (.ireturn, 1) := by decide +kernel
set_option maxRecDepth 20000 in
theorem ggX5_count_X1_linesOfAll : GoodIn wsX5_count wsX1_linesOfAll := goodIn_r _ [12, 13, 14, 68, 69, 70, 71] (by decide +kernel) (by decide +kernel)
set_option maxRecDepth 20000 in
theorem gX5_count_X1_linesOfAll : GoodIn wsX5_count (wsV RX5 178 RX1 yX1_linesOfAll wsX1_linesOfAll) := goodIn_app (goodIn_of _ (by decide +kernel)) ggX5_count_X1_linesOfAll
set_option maxRecDepth 20000 in
theorem ggX5_count_X5_countOfPages : GoodIn wsX5_count wsX5_countOfPages := goodIn_r _ [19, 20, 21, 22, 23, 1, 3, 24, 25, 26, 27, 28, 29, 30, 31, 32, 33, 34, 35, 36, 37, 38, 39, 40, 41, 42, 43, 44, 45, 46, 47, 48, 49, 50, 51, 52, 53, 54, 55, 56, 57, 58, 59, 60, 61, 62, 63, 64, 65, 66, 67, 76, 77, 78, 79, 80, 81, 82, 83, 84, 85, 86, 87, 88, 89, 90, 68, 69, 70, 71] (by decide +kernel) (by decide +kernel)
set_option maxRecDepth 20000 in
theorem gX5_count_X5_countOfPages : GoodIn wsX5_count (wsV RX5 187 RX5 yX5_countOfPages wsX5_countOfPages) := goodIn_app (goodIn_of _ (by decide +kernel)) ggX5_count_X5_countOfPages
theorem dX5_count_0 : decode cX5_count 0 = .ok (.iload_n 1, 1) := by decide +kernel
theorem dX5_count_1 : decode cX5_count 1 = .ok (.tableswitch 117 0 14 #[75, 75, 75, 85, 117, 117, 93, 117, 117, 117, 117, 117, 117, 101, 109], 75) := by decide +kernel
theorem dX5_count_76 : decode cX5_count 76 = .ok (.aload_n 0, 1) := by decide +kernel
theorem dX5_count_77 : decode cX5_count 77 = .ok (.getfield 12, 3) := by decide +kernel
theorem dX5_count_80 : decode cX5_count 80 = .ok (.getfield 62, 3) := by decide +kernel
theorem dX5_count_83 : decode cX5_count 83 = .ok (.iload_n 1, 1) := by decide +kernel
theorem dX5_count_84 : decode cX5_count 84 = .ok (.iaload, 1) := by decide +kernel
theorem dX5_count_85 : decode cX5_count 85 = .ok (.ireturn, 1) := by decide +kernel
theorem dX5_count_86 : decode cX5_count 86 = .ok (.aload_n 0, 1) := by decide +kernel
theorem dX5_count_87 : decode cX5_count 87 = .ok (.getfield 12, 3) := by decide +kernel
theorem dX5_count_90 : decode cX5_count 90 = .ok (.getfield 80, 3) := by decide +kernel
theorem dX5_count_93 : decode cX5_count 93 = .ok (.ireturn, 1) := by decide +kernel
theorem dX5_count_94 : decode cX5_count 94 = .ok (.aload_n 0, 1) := by decide +kernel
theorem dX5_count_95 : decode cX5_count 95 = .ok (.getfield 12, 3) := by decide +kernel
theorem dX5_count_98 : decode cX5_count 98 = .ok (.invokevirtual 178, 3) := by decide +kernel
theorem dX5_count_101 : decode cX5_count 101 = .ok (.ireturn, 1) := by decide +kernel
theorem dX5_count_102 : decode cX5_count 102 = .ok (.aload_n 0, 1) := by decide +kernel
theorem dX5_count_103 : decode cX5_count 103 = .ok (.getfield 32, 3) := by decide +kernel
theorem dX5_count_106 : decode cX5_count 106 = .ok (.getfield 181, 3) := by decide +kernel
theorem dX5_count_109 : decode cX5_count 109 = .ok (.ireturn, 1) := by decide +kernel
theorem dX5_count_110 : decode cX5_count 110 = .ok (.aload_n 0, 1) := by decide +kernel
theorem dX5_count_111 : decode cX5_count 111 = .ok (.getfield 39, 3) := by decide +kernel
theorem dX5_count_114 : decode cX5_count 114 = .ok (.getfield 184, 3) := by decide +kernel
theorem dX5_count_117 : decode cX5_count 117 = .ok (.ireturn, 1) := by decide +kernel
theorem dX5_count_118 : decode cX5_count 118 = .ok (.aload_n 0, 1) := by decide +kernel
theorem dX5_count_119 : decode cX5_count 119 = .ok (.iload_n 1, 1) := by decide +kernel
theorem dX5_count_120 : decode cX5_count 120 = .ok (.invokevirtual 187, 3) := by decide +kernel
theorem dX5_count_123 : decode cX5_count 123 = .ok (.ireturn, 1) := by decide +kernel
set_option maxRecDepth 20000 in
theorem ggX5_countOfPages_X0_folds : GoodIn wsX5_countOfPages wsX0_folds := goodIn_r _ [11, 12, 51, 52, 53, 54, 55, 56, 57, 58, 59, 60, 61, 62, 63, 64, 65] (by decide +kernel) (by decide +kernel)
set_option maxRecDepth 20000 in
theorem gX5_countOfPages_X0_folds : GoodIn wsX5_countOfPages (wsV RX5 169 RX0 yX0_folds wsX0_folds) := goodIn_app (goodIn_of _ (by decide +kernel)) ggX5_countOfPages_X0_folds
set_option maxRecDepth 20000 in
theorem ggX5_countOfPages_X0_blankLines : GoodIn wsX5_countOfPages wsX0_blankLines := goodIn_r _ [16, 12, 17, 18, 19, 10, 20, 21, 22, 23, 51, 52, 53, 54, 55, 56, 57, 58, 59, 60, 61, 62, 63, 64, 65] (by decide +kernel) (by decide +kernel)
set_option maxRecDepth 20000 in
theorem gX5_countOfPages_X0_blankLines : GoodIn wsX5_countOfPages (wsV RX5 193 RX0 yX0_blankLines wsX0_blankLines) := goodIn_app (goodIn_of _ (by decide +kernel)) ggX5_countOfPages_X0_blankLines
set_option maxRecDepth 20000 in
theorem ggX5_countOfPages_X0_pagesWithoutBegin : GoodIn wsX5_countOfPages wsX0_pagesWithoutBegin := goodIn_r _ [27, 12, 28, 51, 52, 53, 54, 55, 56, 57, 58, 59, 60, 61, 62, 63, 64, 65] (by decide +kernel) (by decide +kernel)
set_option maxRecDepth 20000 in
theorem gX5_countOfPages_X0_pagesWithoutBegin : GoodIn wsX5_countOfPages (wsV RX5 203 RX0 yX0_pagesWithoutBegin wsX0_pagesWithoutBegin) := goodIn_app (goodIn_of _ (by decide +kernel)) ggX5_countOfPages_X0_pagesWithoutBegin
set_option maxRecDepth 20000 in
theorem ggX5_countOfPages_X0_partedEntries : GoodIn wsX5_countOfPages wsX0_partedEntries := goodIn_r _ [32, 33, 34, 35, 10, 36, 37, 38, 51, 52, 53, 54, 55, 56, 57, 58, 59, 60, 61, 62, 63, 64, 65] (by decide +kernel) (by decide +kernel)
set_option maxRecDepth 20000 in
theorem gX5_countOfPages_X0_partedEntries : GoodIn wsX5_countOfPages (wsV RX5 206 RX0 yX0_partedEntries wsX0_partedEntries) := goodIn_app (goodIn_of _ (by decide +kernel)) ggX5_countOfPages_X0_partedEntries
set_option maxRecDepth 20000 in
theorem ggX5_countOfPages_X0_headsOfTwoLines : GoodIn wsX5_countOfPages wsX0_headsOfTwoLines := goodIn_r _ [42, 12, 22, 51, 52, 53, 54, 55, 56, 57, 58, 59, 60, 61, 62, 63, 64, 65] (by decide +kernel) (by decide +kernel)
set_option maxRecDepth 20000 in
theorem gX5_countOfPages_X0_headsOfTwoLines : GoodIn wsX5_countOfPages (wsV RX5 209 RX0 yX0_headsOfTwoLines wsX0_headsOfTwoLines) := goodIn_app (goodIn_of _ (by decide +kernel)) ggX5_countOfPages_X0_headsOfTwoLines
theorem dX5_countOfPages_0 : decode cX5_countOfPages 0 = .ok (.iload_n 1, 1) := by decide +kernel
theorem dX5_countOfPages_1 : decode cX5_countOfPages 1 = .ok (.tableswitch 130 4 12 #[51, 59, 130, 67, 75, 83, 99, 107, 122], 51) := by decide +kernel
theorem dX5_countOfPages_52 : decode cX5_countOfPages 52 = .ok (.aload_n 0, 1) := by decide +kernel
theorem dX5_countOfPages_53 : decode cX5_countOfPages 53 = .ok (.getfield 22, 3) := by decide +kernel
theorem dX5_countOfPages_56 : decode cX5_countOfPages 56 = .ok (.getfield 190, 3) := by decide +kernel
theorem dX5_countOfPages_59 : decode cX5_countOfPages 59 = .ok (.ireturn, 1) := by decide +kernel
theorem dX5_countOfPages_60 : decode cX5_countOfPages 60 = .ok (.aload_n 0, 1) := by decide +kernel
theorem dX5_countOfPages_61 : decode cX5_countOfPages 61 = .ok (.getfield 22, 3) := by decide +kernel
theorem dX5_countOfPages_64 : decode cX5_countOfPages 64 = .ok (.invokevirtual 169, 3) := by decide +kernel
theorem dX5_countOfPages_67 : decode cX5_countOfPages 67 = .ok (.ireturn, 1) := by decide +kernel
theorem dX5_countOfPages_68 : decode cX5_countOfPages 68 = .ok (.aload_n 0, 1) := by decide +kernel
theorem dX5_countOfPages_69 : decode cX5_countOfPages 69 = .ok (.getfield 22, 3) := by decide +kernel
theorem dX5_countOfPages_72 : decode cX5_countOfPages 72 = .ok (.invokevirtual 193, 3) := by decide +kernel
theorem dX5_countOfPages_75 : decode cX5_countOfPages 75 = .ok (.ireturn, 1) := by decide +kernel
theorem dX5_countOfPages_76 : decode cX5_countOfPages 76 = .ok (.aload_n 0, 1) := by decide +kernel
theorem dX5_countOfPages_77 : decode cX5_countOfPages 77 = .ok (.getfield 22, 3) := by decide +kernel
theorem dX5_countOfPages_80 : decode cX5_countOfPages 80 = .ok (.getfield 196, 3) := by decide +kernel
theorem dX5_countOfPages_83 : decode cX5_countOfPages 83 = .ok (.ireturn, 1) := by decide +kernel
theorem dX5_countOfPages_84 : decode cX5_countOfPages 84 = .ok (.aload_n 0, 1) := by decide +kernel
theorem dX5_countOfPages_85 : decode cX5_countOfPages 85 = .ok (.getfield 22, 3) := by decide +kernel
theorem dX5_countOfPages_88 : decode cX5_countOfPages 88 = .ok (.getfield 199, 3) := by decide +kernel
theorem dX5_countOfPages_91 : decode cX5_countOfPages 91 = .ok (.ifCond .eq 7, 3) := by decide +kernel
theorem dX5_countOfPages_94 : decode cX5_countOfPages 94 = .ok (.iconst 1, 1) := by decide +kernel
theorem dX5_countOfPages_95 : decode cX5_countOfPages 95 = .ok (.goto 4, 3) := by decide +kernel
theorem dX5_countOfPages_98 : decode cX5_countOfPages 98 = .ok (.iconst 0, 1) := by decide +kernel
theorem dX5_countOfPages_99 : decode cX5_countOfPages 99 = .ok (.ireturn, 1) := by decide +kernel
theorem dX5_countOfPages_100 : decode cX5_countOfPages 100 = .ok (.aload_n 0, 1) := by decide +kernel
theorem dX5_countOfPages_101 : decode cX5_countOfPages 101 = .ok (.getfield 22, 3) := by decide +kernel
theorem dX5_countOfPages_104 : decode cX5_countOfPages 104 = .ok (.invokevirtual 203, 3) := by decide +kernel
theorem dX5_countOfPages_107 : decode cX5_countOfPages 107 = .ok (.ireturn, 1) := by decide +kernel
theorem dX5_countOfPages_108 : decode cX5_countOfPages 108 = .ok (.aload_n 0, 1) := by decide +kernel
theorem dX5_countOfPages_109 : decode cX5_countOfPages 109 = .ok (.getfield 22, 3) := by decide +kernel
theorem dX5_countOfPages_112 : decode cX5_countOfPages 112 = .ok (.aload_n 0, 1) := by decide +kernel
theorem dX5_countOfPages_113 : decode cX5_countOfPages 113 = .ok (.getfield 12, 3) := by decide +kernel
theorem dX5_countOfPages_116 : decode cX5_countOfPages 116 = .ok (.getfield 80, 3) := by decide +kernel
theorem dX5_countOfPages_119 : decode cX5_countOfPages 119 = .ok (.invokevirtual 206, 3) := by decide +kernel
theorem dX5_countOfPages_122 : decode cX5_countOfPages 122 = .ok (.ireturn, 1) := by decide +kernel
theorem dX5_countOfPages_123 : decode cX5_countOfPages 123 = .ok (.aload_n 0, 1) := by decide +kernel
theorem dX5_countOfPages_124 : decode cX5_countOfPages 124 = .ok (.getfield 22, 3) := by decide +kernel
theorem dX5_countOfPages_127 : decode cX5_countOfPages 127 = .ok (.invokevirtual 209, 3) := by decide +kernel
theorem dX5_countOfPages_130 : decode cX5_countOfPages 130 = .ok (.ireturn, 1) := by decide +kernel
theorem dX5_countOfPages_131 : decode cX5_countOfPages 131 = .ok (.bipush (-2), 2) := by decide +kernel
theorem dX5_countOfPages_133 : decode cX5_countOfPages 133 = .ok (.ireturn, 1) := by decide +kernel
set_option maxRecDepth 20000 in
theorem ggX5_lookFor_X2_isWord : GoodIn wsX5_lookFor wsX2_isWord := goodIn_r _ [10, 11, 12, 13, 14, 9, 15, 65, 66] (by decide +kernel) (by decide +kernel)
set_option maxRecDepth 20000 in
theorem gX5_lookFor_X2_isWord : GoodIn wsX5_lookFor (wsV RX5 95 RX2 yX2_isWord wsX2_isWord) := goodIn_app (goodIn_of _ (by decide +kernel)) ggX5_lookFor_X2_isWord
set_option maxRecDepth 20000 in
theorem ggX5_lookFor_X2_word : GoodIn wsX5_lookFor wsX2_word := goodIn_r _ [19, 11, 12, 20, 21, 22, 23, 24, 25, 26, 27, 28, 29, 30, 65, 66] (by decide +kernel) (by decide +kernel)
set_option maxRecDepth 20000 in
theorem gX5_lookFor_X2_word : GoodIn wsX5_lookFor (wsV RX5 99 RX2 yX2_word wsX2_word) := goodIn_app (goodIn_of _ (by decide +kernel)) ggX5_lookFor_X2_word
set_option maxRecDepth 20000 in
theorem ggX5_lookFor_X1_wordOf : GoodIn wsX5_lookFor wsX1_wordOf := goodIn_r _ [35, 36, 37, 38, 39, 34, 40, 41, 67, 68, 69, 70] (by decide +kernel) (by decide +kernel)
set_option maxRecDepth 20000 in
theorem gX5_lookFor_X1_wordOf : GoodIn wsX5_lookFor (wsV RX5 124 RX1 yX1_wordOf wsX1_wordOf) := goodIn_app (goodIn_of _ (by decide +kernel)) ggX5_lookFor_X1_wordOf
theorem dX5_lookFor_0 : decode cX5_lookFor 0 = .ok (.aload_n 0, 1) := by decide +kernel
theorem dX5_lookFor_1 : decode cX5_lookFor 1 = .ok (.getfield 32, 3) := by decide +kernel
theorem dX5_lookFor_4 : decode cX5_lookFor 4 = .ok (.invokevirtual 95, 3) := by decide +kernel
theorem dX5_lookFor_7 : decode cX5_lookFor 7 = .ok (.ifCond .ne 6, 3) := by decide +kernel
theorem dX5_lookFor_10 : decode cX5_lookFor 10 = .ok (.bipush (-3), 2) := by decide +kernel
theorem dX5_lookFor_12 : decode cX5_lookFor 12 = .ok (.ireturn, 1) := by decide +kernel
theorem dX5_lookFor_13 : decode cX5_lookFor 13 = .ok (.aload_n 0, 1) := by decide +kernel
theorem dX5_lookFor_14 : decode cX5_lookFor 14 = .ok (.getfield 22, 3) := by decide +kernel
theorem dX5_lookFor_17 : decode cX5_lookFor 17 = .ok (.getfield 190, 3) := by decide +kernel
theorem dX5_lookFor_20 : decode cX5_lookFor 20 = .ok (.ifCond .ne 6, 3) := by decide +kernel
theorem dX5_lookFor_23 : decode cX5_lookFor 23 = .ok (.bipush (-6), 2) := by decide +kernel
theorem dX5_lookFor_25 : decode cX5_lookFor 25 = .ok (.ireturn, 1) := by decide +kernel
theorem dX5_lookFor_26 : decode cX5_lookFor 26 = .ok (.aload_n 0, 1) := by decide +kernel
theorem dX5_lookFor_27 : decode cX5_lookFor 27 = .ok (.getfield 32, 3) := by decide +kernel
theorem dX5_lookFor_30 : decode cX5_lookFor 30 = .ok (.invokevirtual 99, 3) := by decide +kernel
theorem dX5_lookFor_33 : decode cX5_lookFor 33 = .ok (.lstore_n 1, 1) := by decide +kernel
theorem dX5_lookFor_34 : decode cX5_lookFor 34 = .ok (.iconst 0, 1) := by decide +kernel
theorem dX5_lookFor_35 : decode cX5_lookFor 35 = .ok (.istore_n 3, 1) := by decide +kernel
theorem dX5_lookFor_36 : decode cX5_lookFor 36 = .ok (.iload_n 3, 1) := by decide +kernel
theorem dX5_lookFor_37 : decode cX5_lookFor 37 = .ok (.aload_n 0, 1) := by decide +kernel
theorem dX5_lookFor_38 : decode cX5_lookFor 38 = .ok (.getfield 22, 3) := by decide +kernel
theorem dX5_lookFor_41 : decode cX5_lookFor 41 = .ok (.getfield 190, 3) := by decide +kernel
theorem dX5_lookFor_44 : decode cX5_lookFor 44 = .ok (.if_icmp .ge 32, 3) := by decide +kernel
theorem dX5_lookFor_47 : decode cX5_lookFor 47 = .ok (.aload_n 0, 1) := by decide +kernel
theorem dX5_lookFor_48 : decode cX5_lookFor 48 = .ok (.getfield 12, 3) := by decide +kernel
theorem dX5_lookFor_51 : decode cX5_lookFor 51 = .ok (.aload_n 0, 1) := by decide +kernel
theorem dX5_lookFor_52 : decode cX5_lookFor 52 = .ok (.getfield 22, 3) := by decide +kernel
theorem dX5_lookFor_55 : decode cX5_lookFor 55 = .ok (.getfield 146, 3) := by decide +kernel
theorem dX5_lookFor_58 : decode cX5_lookFor 58 = .ok (.iload_n 3, 1) := by decide +kernel
theorem dX5_lookFor_59 : decode cX5_lookFor 59 = .ok (.iaload, 1) := by decide +kernel
theorem dX5_lookFor_60 : decode cX5_lookFor 60 = .ok (.invokevirtual 124, 3) := by decide +kernel
theorem dX5_lookFor_63 : decode cX5_lookFor 63 = .ok (.lload_n 1, 1) := by decide +kernel
theorem dX5_lookFor_64 : decode cX5_lookFor 64 = .ok (.lcmp, 1) := by decide +kernel
theorem dX5_lookFor_65 : decode cX5_lookFor 65 = .ok (.ifCond .lt 5, 3) := by decide +kernel
theorem dX5_lookFor_68 : decode cX5_lookFor 68 = .ok (.iload_n 3, 1) := by decide +kernel
theorem dX5_lookFor_69 : decode cX5_lookFor 69 = .ok (.ireturn, 1) := by decide +kernel
theorem dX5_lookFor_70 : decode cX5_lookFor 70 = .ok (.iinc 3 1, 3) := by decide +kernel
theorem dX5_lookFor_73 : decode cX5_lookFor 73 = .ok (.goto (-37), 3) := by decide +kernel
theorem dX5_lookFor_76 : decode cX5_lookFor 76 = .ok (.aload_n 0, 1) := by decide +kernel
theorem dX5_lookFor_77 : decode cX5_lookFor 77 = .ok (.getfield 22, 3) := by decide +kernel
theorem dX5_lookFor_80 : decode cX5_lookFor 80 = .ok (.getfield 190, 3) := by decide +kernel
theorem dX5_lookFor_83 : decode cX5_lookFor 83 = .ok (.iconst 1, 1) := by decide +kernel
theorem dX5_lookFor_84 : decode cX5_lookFor 84 = .ok (.isub, 1) := by decide +kernel
theorem dX5_lookFor_85 : decode cX5_lookFor 85 = .ok (.ireturn, 1) := by decide +kernel
set_option maxRecDepth 20000 in
theorem ggX5_find_X2_isWord : GoodIn wsX5_find wsX2_isWord := goodIn_r _ [7, 8, 9, 10, 11, 6, 12, 51, 52] (by decide +kernel) (by decide +kernel)
set_option maxRecDepth 20000 in
theorem gX5_find_X2_isWord : GoodIn wsX5_find (wsV RX5 95 RX2 yX2_isWord wsX2_isWord) := goodIn_app (goodIn_of _ (by decide +kernel)) ggX5_find_X2_isWord
set_option maxRecDepth 20000 in
theorem ggX5_find_X2_word : GoodIn wsX5_find wsX2_word := goodIn_r _ [16, 8, 9, 17, 18, 19, 20, 21, 22, 23, 24, 25, 26, 27, 51, 52] (by decide +kernel) (by decide +kernel)
set_option maxRecDepth 20000 in
theorem gX5_find_X2_word : GoodIn wsX5_find (wsV RX5 99 RX2 yX2_word wsX2_word) := goodIn_app (goodIn_of _ (by decide +kernel)) ggX5_find_X2_word
set_option maxRecDepth 20000 in
theorem ggX5_find_X1_numberOf : GoodIn wsX5_find wsX1_numberOf := goodIn_r _ [32, 33, 34, 35, 36, 31, 37, 38, 39, 40, 41, 42, 53, 54, 55, 56] (by decide +kernel) (by decide +kernel)
set_option maxRecDepth 20000 in
theorem gX5_find_X1_numberOf : GoodIn wsX5_find (wsV RX5 103 RX1 yX1_numberOf wsX1_numberOf) := goodIn_app (goodIn_of _ (by decide +kernel)) ggX5_find_X1_numberOf
theorem dX5_find_0 : decode cX5_find 0 = .ok (.aload_n 0, 1) := by decide +kernel
theorem dX5_find_1 : decode cX5_find 1 = .ok (.getfield 32, 3) := by decide +kernel
theorem dX5_find_4 : decode cX5_find 4 = .ok (.invokevirtual 95, 3) := by decide +kernel
theorem dX5_find_7 : decode cX5_find 7 = .ok (.ifCond .ne 6, 3) := by decide +kernel
theorem dX5_find_10 : decode cX5_find 10 = .ok (.bipush (-3), 2) := by decide +kernel
theorem dX5_find_12 : decode cX5_find 12 = .ok (.ireturn, 1) := by decide +kernel
theorem dX5_find_13 : decode cX5_find 13 = .ok (.aload_n 0, 1) := by decide +kernel
theorem dX5_find_14 : decode cX5_find 14 = .ok (.getfield 12, 3) := by decide +kernel
theorem dX5_find_17 : decode cX5_find 17 = .ok (.aload_n 0, 1) := by decide +kernel
theorem dX5_find_18 : decode cX5_find 18 = .ok (.getfield 32, 3) := by decide +kernel
theorem dX5_find_21 : decode cX5_find 21 = .ok (.invokevirtual 99, 3) := by decide +kernel
theorem dX5_find_24 : decode cX5_find 24 = .ok (.invokevirtual 103, 3) := by decide +kernel
theorem dX5_find_27 : decode cX5_find 27 = .ok (.ireturn, 1) := by decide +kernel
set_option maxRecDepth 20000 in
theorem ggX5_ifSet_X5_isSettingValue : GoodIn wsX5_ifSet wsX5_isSettingValue := goodIn_r _ [8, 9, 10] (by decide +kernel) (by decide +kernel)
set_option maxRecDepth 20000 in
theorem gX5_ifSet_X5_isSettingValue : GoodIn wsX5_ifSet (va_wsS RX5 54 yX5_isSettingValue wsX5_isSettingValue) := goodIn_app (goodIn_of _ (by decide +kernel)) ggX5_ifSet_X5_isSettingValue
set_option maxRecDepth 20000 in
theorem ggX5_ifSet_X0_lay : GoodIn wsX5_ifSet wsX0_lay := goodIn_r _ [15, 16, 17, 18, 19, 20, 21, 22, 23, 14, 24, 25, 26, 27, 28, 29, 30, 31, 32, 33, 34, 35, 36, 37, 38, 39, 40, 41, 42, 43, 44, 45, 46, 47, 48, 49, 50, 51, 52, 53, 54, 55, 56, 57, 58, 59, 60, 61, 62, 63, 64, 65, 66, 67, 68, 69, 70, 71, 72, 73, 74, 75, 76, 77, 78, 79, 80, 81, 82, 83, 84, 85, 86, 87, 88, 101, 102, 103, 104, 105, 106, 107, 108, 109, 110, 111, 112, 113, 114, 115, 97, 98, 99, 100] (by decide +kernel) (by decide +kernel)
set_option maxRecDepth 20000 in
theorem gX5_ifSet_X0_lay : GoodIn wsX5_ifSet (wsV RX5 212 RX0 yX0_lay wsX0_lay) := goodIn_app (goodIn_of _ (by decide +kernel)) ggX5_ifSet_X0_lay
theorem dX5_ifSet_0 : decode cX5_ifSet 0 = .ok (.iload_n 1, 1) := by decide +kernel
theorem dX5_ifSet_1 : decode cX5_ifSet 1 = .ok (.iload_n 2, 1) := by decide +kernel
theorem dX5_ifSet_2 : decode cX5_ifSet 2 = .ok (.invokestatic 54, 3) := by decide +kernel
theorem dX5_ifSet_5 : decode cX5_ifSet 5 = .ok (.ifCond .ne 6, 3) := by decide +kernel
theorem dX5_ifSet_8 : decode cX5_ifSet 8 = .ok (.bipush (-2), 2) := by decide +kernel
theorem dX5_ifSet_10 : decode cX5_ifSet 10 = .ok (.ireturn, 1) := by decide +kernel
theorem dX5_ifSet_11 : decode cX5_ifSet 11 = .ok (.iload_n 1, 1) := by decide +kernel
theorem dX5_ifSet_12 : decode cX5_ifSet 12 = .ok (.ifCond .ne 7, 3) := by decide +kernel
theorem dX5_ifSet_15 : decode cX5_ifSet 15 = .ok (.iload_n 2, 1) := by decide +kernel
theorem dX5_ifSet_16 : decode cX5_ifSet 16 = .ok (.goto 12, 3) := by decide +kernel
theorem dX5_ifSet_19 : decode cX5_ifSet 19 = .ok (.aload_n 0, 1) := by decide +kernel
theorem dX5_ifSet_20 : decode cX5_ifSet 20 = .ok (.getfield 12, 3) := by decide +kernel
theorem dX5_ifSet_23 : decode cX5_ifSet 23 = .ok (.getfield 62, 3) := by decide +kernel
theorem dX5_ifSet_26 : decode cX5_ifSet 26 = .ok (.iconst 0, 1) := by decide +kernel
theorem dX5_ifSet_27 : decode cX5_ifSet 27 = .ok (.iaload, 1) := by decide +kernel
theorem dX5_ifSet_28 : decode cX5_ifSet 28 = .ok (.istore_n 3, 1) := by decide +kernel
theorem dX5_ifSet_29 : decode cX5_ifSet 29 = .ok (.iload_n 1, 1) := by decide +kernel
theorem dX5_ifSet_30 : decode cX5_ifSet 30 = .ok (.iconst 1, 1) := by decide +kernel
theorem dX5_ifSet_31 : decode cX5_ifSet 31 = .ok (.if_icmp .ne 7, 3) := by decide +kernel
theorem dX5_ifSet_34 : decode cX5_ifSet 34 = .ok (.iload_n 2, 1) := by decide +kernel
theorem dX5_ifSet_35 : decode cX5_ifSet 35 = .ok (.goto 12, 3) := by decide +kernel
theorem dX5_ifSet_38 : decode cX5_ifSet 38 = .ok (.aload_n 0, 1) := by decide +kernel
theorem dX5_ifSet_39 : decode cX5_ifSet 39 = .ok (.getfield 12, 3) := by decide +kernel
theorem dX5_ifSet_42 : decode cX5_ifSet 42 = .ok (.getfield 62, 3) := by decide +kernel
theorem dX5_ifSet_45 : decode cX5_ifSet 45 = .ok (.iconst 1, 1) := by decide +kernel
theorem dX5_ifSet_46 : decode cX5_ifSet 46 = .ok (.iaload, 1) := by decide +kernel
theorem dX5_ifSet_47 : decode cX5_ifSet 47 = .ok (.istore 4, 2) := by decide +kernel
theorem dX5_ifSet_49 : decode cX5_ifSet 49 = .ok (.iload_n 1, 1) := by decide +kernel
theorem dX5_ifSet_50 : decode cX5_ifSet 50 = .ok (.iconst 2, 1) := by decide +kernel
theorem dX5_ifSet_51 : decode cX5_ifSet 51 = .ok (.if_icmp .ne 7, 3) := by decide +kernel
theorem dX5_ifSet_54 : decode cX5_ifSet 54 = .ok (.iload_n 2, 1) := by decide +kernel
theorem dX5_ifSet_55 : decode cX5_ifSet 55 = .ok (.goto 12, 3) := by decide +kernel
theorem dX5_ifSet_58 : decode cX5_ifSet 58 = .ok (.aload_n 0, 1) := by decide +kernel
theorem dX5_ifSet_59 : decode cX5_ifSet 59 = .ok (.getfield 12, 3) := by decide +kernel
theorem dX5_ifSet_62 : decode cX5_ifSet 62 = .ok (.getfield 62, 3) := by decide +kernel
theorem dX5_ifSet_65 : decode cX5_ifSet 65 = .ok (.iconst 2, 1) := by decide +kernel
theorem dX5_ifSet_66 : decode cX5_ifSet 66 = .ok (.iaload, 1) := by decide +kernel
theorem dX5_ifSet_67 : decode cX5_ifSet 67 = .ok (.istore 5, 2) := by decide +kernel
theorem dX5_ifSet_69 : decode cX5_ifSet 69 = .ok (.aload_n 0, 1) := by decide +kernel
theorem dX5_ifSet_70 : decode cX5_ifSet 70 = .ok (.getfield 26, 3) := by decide +kernel
theorem dX5_ifSet_73 : decode cX5_ifSet 73 = .ok (.aload_n 0, 1) := by decide +kernel
theorem dX5_ifSet_74 : decode cX5_ifSet 74 = .ok (.getfield 12, 3) := by decide +kernel
theorem dX5_ifSet_77 : decode cX5_ifSet 77 = .ok (.iload_n 3, 1) := by decide +kernel
theorem dX5_ifSet_78 : decode cX5_ifSet 78 = .ok (.iload 4, 2) := by decide +kernel
theorem dX5_ifSet_80 : decode cX5_ifSet 80 = .ok (.iload 5, 2) := by decide +kernel
theorem dX5_ifSet_82 : decode cX5_ifSet 82 = .ok (.invokevirtual 212, 3) := by decide +kernel
theorem dX5_ifSet_85 : decode cX5_ifSet 85 = .ok (.aload_n 0, 1) := by decide +kernel
theorem dX5_ifSet_86 : decode cX5_ifSet 86 = .ok (.getfield 26, 3) := by decide +kernel
theorem dX5_ifSet_89 : decode cX5_ifSet 89 = .ok (.getfield 190, 3) := by decide +kernel
theorem dX5_ifSet_92 : decode cX5_ifSet 92 = .ok (.ireturn, 1) := by decide +kernel

theorem dX9_init_0 : decode cX9_init 0 = .ok (.aload_n 0, 1) := by decide +kernel
theorem dX9_init_1 : decode cX9_init 1 = .ok (.invokespecial 1, 3) := by decide +kernel
theorem dX9_init_4 : decode cX9_init 4 = .ok (.aload_n 0, 1) := by decide +kernel
theorem dX9_init_5 : decode cX9_init 5 = .ok (.sipush 8262, 3) := by decide +kernel
theorem dX9_init_8 : decode cX9_init 8 = .ok (.newarray .int, 2) := by decide +kernel
theorem dX9_init_10 : decode cX9_init 10 = .ok (.putfield 7, 3) := by decide +kernel
theorem dX9_init_13 : decode cX9_init 13 = .ok (.aload_n 0, 1) := by decide +kernel
theorem dX9_init_14 : decode cX9_init 14 = .ok (.iconst 2, 1) := by decide +kernel
theorem dX9_init_15 : decode cX9_init 15 = .ok (.newarray .boolean, 2) := by decide +kernel
theorem dX9_init_17 : decode cX9_init 17 = .ok (.putfield 13, 3) := by decide +kernel
theorem dX9_init_20 : decode cX9_init 20 = .ok (.aload_n 0, 1) := by decide +kernel
theorem dX9_init_21 : decode cX9_init 21 = .ok (.bipush 64, 2) := by decide +kernel
theorem dX9_init_23 : decode cX9_init 23 = .ok (.newarray .int, 2) := by decide +kernel
theorem dX9_init_25 : decode cX9_init 25 = .ok (.putfield 17, 3) := by decide +kernel
theorem dX9_init_28 : decode cX9_init 28 = .ok (.aload_n 0, 1) := by decide +kernel
theorem dX9_init_29 : decode cX9_init 29 = .ok (.bipush 16, 2) := by decide +kernel
theorem dX9_init_31 : decode cX9_init 31 = .ok (.newarray .int, 2) := by decide +kernel
theorem dX9_init_33 : decode cX9_init 33 = .ok (.putfield 20, 3) := by decide +kernel
theorem dX9_init_36 : decode cX9_init 36 = .ok (.aload_n 0, 1) := by decide +kernel
theorem dX9_init_37 : decode cX9_init 37 = .ok (.bipush 8, 2) := by decide +kernel
theorem dX9_init_39 : decode cX9_init 39 = .ok (.newarray .int, 2) := by decide +kernel
theorem dX9_init_41 : decode cX9_init 41 = .ok (.putfield 23, 3) := by decide +kernel
theorem dX9_init_44 : decode cX9_init 44 = .ok (.aload_n 0, 1) := by decide +kernel
theorem dX9_init_45 : decode cX9_init 45 = .ok (.bipush 8, 2) := by decide +kernel
theorem dX9_init_47 : decode cX9_init 47 = .ok (.newarray .int, 2) := by decide +kernel
theorem dX9_init_49 : decode cX9_init 49 = .ok (.putfield 26, 3) := by decide +kernel
theorem dX9_init_52 : decode cX9_init 52 = .ok (.aload_n 0, 1) := by decide +kernel
theorem dX9_init_53 : decode cX9_init 53 = .ok (.sipush 240, 3) := by decide +kernel
theorem dX9_init_56 : decode cX9_init 56 = .ok (.newarray .int, 2) := by decide +kernel
theorem dX9_init_58 : decode cX9_init 58 = .ok (.putfield 29, 3) := by decide +kernel
theorem dX9_init_61 : decode cX9_init 61 = .ok (.aload_n 0, 1) := by decide +kernel
theorem dX9_init_62 : decode cX9_init 62 = .ok (.iconst (-1), 1) := by decide +kernel
theorem dX9_init_63 : decode cX9_init 63 = .ok (.putfield 32, 3) := by decide +kernel
theorem dX9_init_66 : decode cX9_init 66 = .ok (.aload_n 0, 1) := by decide +kernel
theorem dX9_init_67 : decode cX9_init 67 = .ok (.bipush 20, 2) := by decide +kernel
theorem dX9_init_69 : decode cX9_init 69 = .ok (.newarray .int, 2) := by decide +kernel
theorem dX9_init_71 : decode cX9_init 71 = .ok (.putfield 36, 3) := by decide +kernel
theorem dX9_init_74 : decode cX9_init 74 = .ok (.aload_n 0, 1) := by decide +kernel
theorem dX9_init_75 : decode cX9_init 75 = .ok (.bipush 8, 2) := by decide +kernel
theorem dX9_init_77 : decode cX9_init 77 = .ok (.newarray .int, 2) := by decide +kernel
theorem dX9_init_79 : decode cX9_init 79 = .ok (.putfield 39, 3) := by decide +kernel
theorem dX9_init_82 : decode cX9_init 82 = .ok (.aload_n 0, 1) := by decide +kernel
theorem dX9_init_83 : decode cX9_init 83 = .ok (.bipush 8, 2) := by decide +kernel
theorem dX9_init_85 : decode cX9_init 85 = .ok (.newarray .int, 2) := by decide +kernel
theorem dX9_init_87 : decode cX9_init 87 = .ok (.putfield 42, 3) := by decide +kernel
theorem dX9_init_90 : decode cX9_init 90 = .ok (.aload_n 0, 1) := by decide +kernel
theorem dX9_init_91 : decode cX9_init 91 = .ok (.bipush 8, 2) := by decide +kernel
theorem dX9_init_93 : decode cX9_init 93 = .ok (.newarray .int, 2) := by decide +kernel
theorem dX9_init_95 : decode cX9_init 95 = .ok (.putfield 45, 3) := by decide +kernel
theorem dX9_init_98 : decode cX9_init 98 = .ok (.aload_n 0, 1) := by decide +kernel
theorem dX9_init_99 : decode cX9_init 99 = .ok (.bipush 20, 2) := by decide +kernel
theorem dX9_init_101 : decode cX9_init 101 = .ok (.newarray .int, 2) := by decide +kernel
theorem dX9_init_103 : decode cX9_init 103 = .ok (.putfield 48, 3) := by decide +kernel
theorem dX9_init_106 : decode cX9_init 106 = .ok (.aload_n 0, 1) := by decide +kernel
theorem dX9_init_107 : decode cX9_init 107 = .ok (.bipush 20, 2) := by decide +kernel
theorem dX9_init_109 : decode cX9_init 109 = .ok (.newarray .int, 2) := by decide +kernel
theorem dX9_init_111 : decode cX9_init 111 = .ok (.putfield 51, 3) := by decide +kernel
theorem dX9_init_114 : decode cX9_init 114 = .ok (.return_, 1) := by decide +kernel
theorem dX9_in_0 : decode cX9_in 0 = .ok (.lload_n 0, 1) := by decide +kernel
theorem dX9_in_1 : decode cX9_in 1 = .ok (.lload_n 2, 1) := by decide +kernel
theorem dX9_in_2 : decode cX9_in 2 = .ok (.lcmp, 1) := by decide +kernel
theorem dX9_in_3 : decode cX9_in 3 = .ok (.ifCond .lt 14, 3) := by decide +kernel
theorem dX9_in_6 : decode cX9_in 6 = .ok (.lload_n 0, 1) := by decide +kernel
theorem dX9_in_7 : decode cX9_in 7 = .ok (.lload 4, 2) := by decide +kernel
theorem dX9_in_9 : decode cX9_in 9 = .ok (.lcmp, 1) := by decide +kernel
theorem dX9_in_10 : decode cX9_in 10 = .ok (.ifCond .gt 7, 3) := by decide +kernel
theorem dX9_in_13 : decode cX9_in 13 = .ok (.iconst 1, 1) := by decide +kernel
theorem dX9_in_14 : decode cX9_in 14 = .ok (.goto 4, 3) := by decide +kernel
theorem dX9_in_17 : decode cX9_in 17 = .ok (.iconst 0, 1) := by decide +kernel
theorem dX9_in_18 : decode cX9_in 18 = .ok (.ireturn, 1) := by decide +kernel
theorem dX9_most_0 : decode cX9_most 0 = .ok (.iload_n 0, 1) := by decide +kernel
theorem dX9_most_1 : decode cX9_most 1 = .ok (.iload_n 1, 1) := by decide +kernel
theorem dX9_most_2 : decode cX9_most 2 = .ok (.if_icmp .le 7, 3) := by decide +kernel
theorem dX9_most_5 : decode cX9_most 5 = .ok (.iload_n 0, 1) := by decide +kernel
theorem dX9_most_6 : decode cX9_most 6 = .ok (.goto 4, 3) := by decide +kernel
theorem dX9_most_9 : decode cX9_most 9 = .ok (.iload_n 1, 1) := by decide +kernel
theorem dX9_most_10 : decode cX9_most 10 = .ok (.ireturn, 1) := by decide +kernel
theorem dX9_least_0 : decode cX9_least 0 = .ok (.iload_n 0, 1) := by decide +kernel
theorem dX9_least_1 : decode cX9_least 1 = .ok (.iload_n 1, 1) := by decide +kernel
theorem dX9_least_2 : decode cX9_least 2 = .ok (.if_icmp .ge 7, 3) := by decide +kernel
theorem dX9_least_5 : decode cX9_least 5 = .ok (.iload_n 0, 1) := by decide +kernel
theorem dX9_least_6 : decode cX9_least 6 = .ok (.goto 4, 3) := by decide +kernel
theorem dX9_least_9 : decode cX9_least 9 = .ok (.iload_n 1, 1) := by decide +kernel
theorem dX9_least_10 : decode cX9_least 10 = .ok (.ireturn, 1) := by decide +kernel
theorem dX9_size_0 : decode cX9_size 0 = .ok (.iload_n 0, 1) := by decide +kernel
theorem dX9_size_1 : decode cX9_size 1 = .ok (.ifCond .ge 8, 3) := by decide +kernel
theorem dX9_size_4 : decode cX9_size 4 = .ok (.iload_n 0, 1) := by decide +kernel
theorem dX9_size_5 : decode cX9_size 5 = .ok (.ineg, 1) := by decide +kernel
theorem dX9_size_6 : decode cX9_size 6 = .ok (.goto 4, 3) := by decide +kernel
theorem dX9_size_9 : decode cX9_size 9 = .ok (.iload_n 0, 1) := by decide +kernel
theorem dX9_size_10 : decode cX9_size 10 = .ok (.ireturn, 1) := by decide +kernel
theorem dX9_has_0 : decode cX9_has 0 = .ok (.iload_n 0, 1) := by decide +kernel
theorem dX9_has_1 : decode cX9_has 1 = .ok (.iload_n 1, 1) := by decide +kernel
theorem dX9_has_2 : decode cX9_has 2 = .ok (.ishr, 1) := by decide +kernel
theorem dX9_has_3 : decode cX9_has 3 = .ok (.iconst 1, 1) := by decide +kernel
theorem dX9_has_4 : decode cX9_has 4 = .ok (.iand, 1) := by decide +kernel
theorem dX9_has_5 : decode cX9_has 5 = .ok (.iconst 1, 1) := by decide +kernel
theorem dX9_has_6 : decode cX9_has 6 = .ok (.if_icmp .ne 7, 3) := by decide +kernel
theorem dX9_has_9 : decode cX9_has 9 = .ok (.iconst 1, 1) := by decide +kernel
theorem dX9_has_10 : decode cX9_has 10 = .ok (.goto 4, 3) := by decide +kernel
theorem dX9_has_13 : decode cX9_has 13 = .ok (.iconst 0, 1) := by decide +kernel
theorem dX9_has_14 : decode cX9_has 14 = .ok (.ireturn, 1) := by decide +kernel
theorem dX9_one_0 : decode cX9_one 0 = .ok (.iload_n 0, 1) := by decide +kernel
theorem dX9_one_1 : decode cX9_one 1 = .ok (.ifCond .eq 7, 3) := by decide +kernel
theorem dX9_one_4 : decode cX9_one 4 = .ok (.iconst 1, 1) := by decide +kernel
theorem dX9_one_5 : decode cX9_one 5 = .ok (.goto 4, 3) := by decide +kernel
theorem dX9_one_8 : decode cX9_one 8 = .ok (.iconst 0, 1) := by decide +kernel
theorem dX9_one_9 : decode cX9_one 9 = .ok (.ireturn, 1) := by decide +kernel
set_option maxRecDepth 20000 in
theorem ggX9_feed_X9_in : GoodIn wsX9_feed wsX9_in := goodIn_r _ [9] (by decide +kernel) (by decide +kernel)
set_option maxRecDepth 20000 in
theorem gX9_feed_X9_in : GoodIn wsX9_feed (va_wsS RX9 56 yX9_in wsX9_in) := goodIn_app (goodIn_of _ (by decide +kernel)) ggX9_feed_X9_in
theorem dX9_feed_0 : decode cX9_feed 0 = .ok (.iload_n 1, 1) := by decide +kernel
theorem dX9_feed_1 : decode cX9_feed 1 = .ok (.i2l, 1) := by decide +kernel
theorem dX9_feed_2 : decode cX9_feed 2 = .ok (.lconst 0, 1) := by decide +kernel
theorem dX9_feed_3 : decode cX9_feed 3 = .ok (.ldc2_w 54, 3) := by decide +kernel
theorem dX9_feed_6 : decode cX9_feed 6 = .ok (.invokestatic 56, 3) := by decide +kernel
theorem dX9_feed_9 : decode cX9_feed 9 = .ok (.ifCond .ne 6, 3) := by decide +kernel
theorem dX9_feed_12 : decode cX9_feed 12 = .ok (.ldc 60, 2) := by decide +kernel
theorem dX9_feed_14 : decode cX9_feed 14 = .ok (.ireturn, 1) := by decide +kernel
theorem dX9_feed_15 : decode cX9_feed 15 = .ok (.aload_n 0, 1) := by decide +kernel
theorem dX9_feed_16 : decode cX9_feed 16 = .ok (.getfield 61, 3) := by decide +kernel
theorem dX9_feed_19 : decode cX9_feed 19 = .ok (.sipush 240, 3) := by decide +kernel
theorem dX9_feed_22 : decode cX9_feed 22 = .ok (.if_icmp .ne 6, 3) := by decide +kernel
theorem dX9_feed_25 : decode cX9_feed 25 = .ok (.ldc 64, 2) := by decide +kernel
theorem dX9_feed_27 : decode cX9_feed 27 = .ok (.ireturn, 1) := by decide +kernel
theorem dX9_feed_28 : decode cX9_feed 28 = .ok (.aload_n 0, 1) := by decide +kernel
theorem dX9_feed_29 : decode cX9_feed 29 = .ok (.getfield 29, 3) := by decide +kernel
theorem dX9_feed_32 : decode cX9_feed 32 = .ok (.aload_n 0, 1) := by decide +kernel
theorem dX9_feed_33 : decode cX9_feed 33 = .ok (.getfield 61, 3) := by decide +kernel
theorem dX9_feed_36 : decode cX9_feed 36 = .ok (.iload_n 1, 1) := by decide +kernel
theorem dX9_feed_37 : decode cX9_feed 37 = .ok (.iastore, 1) := by decide +kernel
theorem dX9_feed_38 : decode cX9_feed 38 = .ok (.aload_n 0, 1) := by decide +kernel
theorem dX9_feed_39 : decode cX9_feed 39 = .ok (.dup, 1) := by decide +kernel
theorem dX9_feed_40 : decode cX9_feed 40 = .ok (.getfield 61, 3) := by decide +kernel
theorem dX9_feed_43 : decode cX9_feed 43 = .ok (.iconst 1, 1) := by decide +kernel
theorem dX9_feed_44 : decode cX9_feed 44 = .ok (.iadd, 1) := by decide +kernel
theorem dX9_feed_45 : decode cX9_feed 45 = .ok (.putfield 61, 3) := by decide +kernel
theorem dX9_feed_48 : decode cX9_feed 48 = .ok (.aload_n 0, 1) := by decide +kernel
theorem dX9_feed_49 : decode cX9_feed 49 = .ok (.getfield 61, 3) := by decide +kernel
theorem dX9_feed_52 : decode cX9_feed 52 = .ok (.ireturn, 1) := by decide +kernel
theorem dX9_here_0 : decode cX9_here 0 = .ok (.aload_n 0, 1) := by decide +kernel
theorem dX9_here_1 : decode cX9_here 1 = .ok (.getfield 65, 3) := by decide +kernel
theorem dX9_here_4 : decode cX9_here 4 = .ok (.aload_n 0, 1) := by decide +kernel
theorem dX9_here_5 : decode cX9_here 5 = .ok (.getfield 61, 3) := by decide +kernel
theorem dX9_here_8 : decode cX9_here 8 = .ok (.if_icmp .ge 30, 3) := by decide +kernel
theorem dX9_here_11 : decode cX9_here 11 = .ok (.aload_n 0, 1) := by decide +kernel
theorem dX9_here_12 : decode cX9_here 12 = .ok (.getfield 29, 3) := by decide +kernel
theorem dX9_here_15 : decode cX9_here 15 = .ok (.aload_n 0, 1) := by decide +kernel
theorem dX9_here_16 : decode cX9_here 16 = .ok (.getfield 65, 3) := by decide +kernel
theorem dX9_here_19 : decode cX9_here 19 = .ok (.iaload, 1) := by decide +kernel
theorem dX9_here_20 : decode cX9_here 20 = .ok (.bipush 32, 2) := by decide +kernel
theorem dX9_here_22 : decode cX9_here 22 = .ok (.if_icmp .ne 16, 3) := by decide +kernel
theorem dX9_here_25 : decode cX9_here 25 = .ok (.aload_n 0, 1) := by decide +kernel
theorem dX9_here_26 : decode cX9_here 26 = .ok (.dup, 1) := by decide +kernel
theorem dX9_here_27 : decode cX9_here 27 = .ok (.getfield 65, 3) := by decide +kernel
theorem dX9_here_30 : decode cX9_here 30 = .ok (.iconst 1, 1) := by decide +kernel
theorem dX9_here_31 : decode cX9_here 31 = .ok (.iadd, 1) := by decide +kernel
theorem dX9_here_32 : decode cX9_here 32 = .ok (.putfield 65, 3) := by decide +kernel
theorem dX9_here_35 : decode cX9_here 35 = .ok (.goto (-35), 3) := by decide +kernel
theorem dX9_here_38 : decode cX9_here 38 = .ok (.aload_n 0, 1) := by decide +kernel
theorem dX9_here_39 : decode cX9_here 39 = .ok (.getfield 65, 3) := by decide +kernel
theorem dX9_here_42 : decode cX9_here 42 = .ok (.aload_n 0, 1) := by decide +kernel
theorem dX9_here_43 : decode cX9_here 43 = .ok (.getfield 61, 3) := by decide +kernel
theorem dX9_here_46 : decode cX9_here 46 = .ok (.if_icmp .ge 15, 3) := by decide +kernel
theorem dX9_here_49 : decode cX9_here 49 = .ok (.aload_n 0, 1) := by decide +kernel
theorem dX9_here_50 : decode cX9_here 50 = .ok (.getfield 29, 3) := by decide +kernel
theorem dX9_here_53 : decode cX9_here 53 = .ok (.aload_n 0, 1) := by decide +kernel
theorem dX9_here_54 : decode cX9_here 54 = .ok (.getfield 65, 3) := by decide +kernel
theorem dX9_here_57 : decode cX9_here 57 = .ok (.iaload, 1) := by decide +kernel
theorem dX9_here_58 : decode cX9_here 58 = .ok (.goto 4, 3) := by decide +kernel
theorem dX9_here_61 : decode cX9_here 61 = .ok (.iconst (-1), 1) := by decide +kernel
theorem dX9_here_62 : decode cX9_here 62 = .ok (.ireturn, 1) := by decide +kernel
theorem dX9_want_0 : decode cX9_want 0 = .ok (.iload_n 1, 1) := by decide +kernel
theorem dX9_want_1 : decode cX9_want 1 = .ok (.ifCond .ne 20, 3) := by decide +kernel
theorem dX9_want_4 : decode cX9_want 4 = .ok (.aload_n 0, 1) := by decide +kernel
theorem dX9_want_5 : decode cX9_want 5 = .ok (.getfield 68, 3) := by decide +kernel
theorem dX9_want_8 : decode cX9_want 8 = .ok (.ifCond .ne 13, 3) := by decide +kernel
theorem dX9_want_11 : decode cX9_want 11 = .ok (.aload_n 0, 1) := by decide +kernel
theorem dX9_want_12 : decode cX9_want 12 = .ok (.iload_n 2, 1) := by decide +kernel
theorem dX9_want_13 : decode cX9_want 13 = .ok (.putfield 68, 3) := by decide +kernel
theorem dX9_want_16 : decode cX9_want 16 = .ok (.aload_n 0, 1) := by decide +kernel
theorem dX9_want_17 : decode cX9_want 17 = .ok (.iload_n 3, 1) := by decide +kernel
theorem dX9_want_18 : decode cX9_want 18 = .ok (.putfield 32, 3) := by decide +kernel
theorem dX9_want_21 : decode cX9_want 21 = .ok (.aload_n 0, 1) := by decide +kernel
theorem dX9_want_22 : decode cX9_want 22 = .ok (.getfield 68, 3) := by decide +kernel
theorem dX9_want_25 : decode cX9_want 25 = .ok (.ifCond .ne 7, 3) := by decide +kernel
theorem dX9_want_28 : decode cX9_want 28 = .ok (.iconst 1, 1) := by decide +kernel
theorem dX9_want_29 : decode cX9_want 29 = .ok (.goto 4, 3) := by decide +kernel
theorem dX9_want_32 : decode cX9_want 32 = .ok (.iconst 0, 1) := by decide +kernel
theorem dX9_want_33 : decode cX9_want 33 = .ok (.ireturn, 1) := by decide +kernel
set_option maxRecDepth 20000 in
theorem ggX9_takeNumber_X9_here : GoodIn wsX9_takeNumber wsX9_here := goodIn_r _ [13, 2, 6, 7, 22, 23, 24, 25, 26, 27, 28, 29, 30, 31, 32, 33, 34, 35, 36, 37, 38, 39, 40, 41, 42, 43, 44, 45, 46, 47, 48] (by decide +kernel) (by decide +kernel)
set_option maxRecDepth 20000 in
theorem gX9_takeNumber_X9_here : GoodIn wsX9_takeNumber (wsV RX9 71 RX9 yX9_here wsX9_here) := goodIn_app (goodIn_of _ (by decide +kernel)) ggX9_takeNumber_X9_here
set_option maxRecDepth 20000 in
theorem ggX9_takeNumber_X9_in : GoodIn wsX9_takeNumber wsX9_in := goodIn_r _ [16] (by decide +kernel) (by decide +kernel)
set_option maxRecDepth 20000 in
theorem gX9_takeNumber_X9_in : GoodIn wsX9_takeNumber (va_wsS RX9 56 yX9_in wsX9_in) := goodIn_app (goodIn_of _ (by decide +kernel)) ggX9_takeNumber_X9_in
set_option maxRecDepth 20000 in
theorem ggX9_takeNumber_X9_want : GoodIn wsX9_takeNumber wsX9_want := goodIn_r _ [20, 1, 21, 22, 23, 24, 25, 26, 27, 28, 29, 30, 31, 32, 33, 34, 35, 36, 37, 38, 39, 40, 41, 42, 43, 44, 45, 46, 47, 48] (by decide +kernel) (by decide +kernel)
set_option maxRecDepth 20000 in
theorem gX9_takeNumber_X9_want : GoodIn wsX9_takeNumber (wsV RX9 82 RX9 yX9_want wsX9_want) := goodIn_app (goodIn_of _ (by decide +kernel)) ggX9_takeNumber_X9_want
theorem dX9_takeNumber_0 : decode cX9_takeNumber 0 = .ok (.aload_n 0, 1) := by decide +kernel
theorem dX9_takeNumber_1 : decode cX9_takeNumber 1 = .ok (.getfield 68, 3) := by decide +kernel
theorem dX9_takeNumber_4 : decode cX9_takeNumber 4 = .ok (.ifCond .le 5, 3) := by decide +kernel
theorem dX9_takeNumber_7 : decode cX9_takeNumber 7 = .ok (.iconst 0, 1) := by decide +kernel
theorem dX9_takeNumber_8 : decode cX9_takeNumber 8 = .ok (.ireturn, 1) := by decide +kernel
theorem dX9_takeNumber_9 : decode cX9_takeNumber 9 = .ok (.aload_n 0, 1) := by decide +kernel
theorem dX9_takeNumber_10 : decode cX9_takeNumber 10 = .ok (.invokevirtual 71, 3) := by decide +kernel
theorem dX9_takeNumber_13 : decode cX9_takeNumber 13 = .ok (.istore_n 1, 1) := by decide +kernel
theorem dX9_takeNumber_14 : decode cX9_takeNumber 14 = .ok (.aload_n 0, 1) := by decide +kernel
theorem dX9_takeNumber_15 : decode cX9_takeNumber 15 = .ok (.aload_n 0, 1) := by decide +kernel
theorem dX9_takeNumber_16 : decode cX9_takeNumber 16 = .ok (.getfield 65, 3) := by decide +kernel
theorem dX9_takeNumber_19 : decode cX9_takeNumber 19 = .ok (.putfield 75, 3) := by decide +kernel
theorem dX9_takeNumber_22 : decode cX9_takeNumber 22 = .ok (.aload_n 0, 1) := by decide +kernel
theorem dX9_takeNumber_23 : decode cX9_takeNumber 23 = .ok (.iload_n 1, 1) := by decide +kernel
theorem dX9_takeNumber_24 : decode cX9_takeNumber 24 = .ok (.i2l, 1) := by decide +kernel
theorem dX9_takeNumber_25 : decode cX9_takeNumber 25 = .ok (.ldc2_w 78, 3) := by decide +kernel
theorem dX9_takeNumber_28 : decode cX9_takeNumber 28 = .ok (.ldc2_w 80, 3) := by decide +kernel
theorem dX9_takeNumber_31 : decode cX9_takeNumber 31 = .ok (.invokestatic 56, 3) := by decide +kernel
theorem dX9_takeNumber_34 : decode cX9_takeNumber 34 = .ok (.iconst 1, 1) := by decide +kernel
theorem dX9_takeNumber_35 : decode cX9_takeNumber 35 = .ok (.aload_n 0, 1) := by decide +kernel
theorem dX9_takeNumber_36 : decode cX9_takeNumber 36 = .ok (.getfield 65, 3) := by decide +kernel
theorem dX9_takeNumber_39 : decode cX9_takeNumber 39 = .ok (.invokevirtual 82, 3) := by decide +kernel
theorem dX9_takeNumber_42 : decode cX9_takeNumber 42 = .ok (.ifCond .ne 5, 3) := by decide +kernel
theorem dX9_takeNumber_45 : decode cX9_takeNumber 45 = .ok (.iconst 0, 1) := by decide +kernel
theorem dX9_takeNumber_46 : decode cX9_takeNumber 46 = .ok (.ireturn, 1) := by decide +kernel
theorem dX9_takeNumber_47 : decode cX9_takeNumber 47 = .ok (.iconst 0, 1) := by decide +kernel
theorem dX9_takeNumber_48 : decode cX9_takeNumber 48 = .ok (.istore_n 2, 1) := by decide +kernel
theorem dX9_takeNumber_49 : decode cX9_takeNumber 49 = .ok (.aload_n 0, 1) := by decide +kernel
theorem dX9_takeNumber_50 : decode cX9_takeNumber 50 = .ok (.getfield 65, 3) := by decide +kernel
theorem dX9_takeNumber_53 : decode cX9_takeNumber 53 = .ok (.aload_n 0, 1) := by decide +kernel
theorem dX9_takeNumber_54 : decode cX9_takeNumber 54 = .ok (.getfield 61, 3) := by decide +kernel
theorem dX9_takeNumber_57 : decode cX9_takeNumber 57 = .ok (.if_icmp .ge 66, 3) := by decide +kernel
theorem dX9_takeNumber_60 : decode cX9_takeNumber 60 = .ok (.aload_n 0, 1) := by decide +kernel
theorem dX9_takeNumber_61 : decode cX9_takeNumber 61 = .ok (.getfield 29, 3) := by decide +kernel
theorem dX9_takeNumber_64 : decode cX9_takeNumber 64 = .ok (.aload_n 0, 1) := by decide +kernel
theorem dX9_takeNumber_65 : decode cX9_takeNumber 65 = .ok (.getfield 65, 3) := by decide +kernel
theorem dX9_takeNumber_68 : decode cX9_takeNumber 68 = .ok (.iaload, 1) := by decide +kernel
theorem dX9_takeNumber_69 : decode cX9_takeNumber 69 = .ok (.i2l, 1) := by decide +kernel
theorem dX9_takeNumber_70 : decode cX9_takeNumber 70 = .ok (.ldc2_w 78, 3) := by decide +kernel
theorem dX9_takeNumber_73 : decode cX9_takeNumber 73 = .ok (.ldc2_w 80, 3) := by decide +kernel
theorem dX9_takeNumber_76 : decode cX9_takeNumber 76 = .ok (.invokestatic 56, 3) := by decide +kernel
theorem dX9_takeNumber_79 : decode cX9_takeNumber 79 = .ok (.ifCond .eq 44, 3) := by decide +kernel
theorem dX9_takeNumber_82 : decode cX9_takeNumber 82 = .ok (.iload_n 2, 1) := by decide +kernel
theorem dX9_takeNumber_83 : decode cX9_takeNumber 83 = .ok (.ldc 86, 2) := by decide +kernel
theorem dX9_takeNumber_85 : decode cX9_takeNumber 85 = .ok (.if_icmp .le 7, 3) := by decide +kernel
theorem dX9_takeNumber_88 : decode cX9_takeNumber 88 = .ok (.iload_n 2, 1) := by decide +kernel
theorem dX9_takeNumber_89 : decode cX9_takeNumber 89 = .ok (.goto 20, 3) := by decide +kernel
theorem dX9_takeNumber_92 : decode cX9_takeNumber 92 = .ok (.bipush 10, 2) := by decide +kernel
theorem dX9_takeNumber_94 : decode cX9_takeNumber 94 = .ok (.iload_n 2, 1) := by decide +kernel
theorem dX9_takeNumber_95 : decode cX9_takeNumber 95 = .ok (.imul, 1) := by decide +kernel
theorem dX9_takeNumber_96 : decode cX9_takeNumber 96 = .ok (.aload_n 0, 1) := by decide +kernel
theorem dX9_takeNumber_97 : decode cX9_takeNumber 97 = .ok (.getfield 29, 3) := by decide +kernel
theorem dX9_takeNumber_100 : decode cX9_takeNumber 100 = .ok (.aload_n 0, 1) := by decide +kernel
theorem dX9_takeNumber_101 : decode cX9_takeNumber 101 = .ok (.getfield 65, 3) := by decide +kernel
theorem dX9_takeNumber_104 : decode cX9_takeNumber 104 = .ok (.iaload, 1) := by decide +kernel
theorem dX9_takeNumber_105 : decode cX9_takeNumber 105 = .ok (.iadd, 1) := by decide +kernel
theorem dX9_takeNumber_106 : decode cX9_takeNumber 106 = .ok (.bipush 48, 2) := by decide +kernel
theorem dX9_takeNumber_108 : decode cX9_takeNumber 108 = .ok (.isub, 1) := by decide +kernel
theorem dX9_takeNumber_109 : decode cX9_takeNumber 109 = .ok (.istore_n 2, 1) := by decide +kernel
theorem dX9_takeNumber_110 : decode cX9_takeNumber 110 = .ok (.aload_n 0, 1) := by decide +kernel
theorem dX9_takeNumber_111 : decode cX9_takeNumber 111 = .ok (.dup, 1) := by decide +kernel
theorem dX9_takeNumber_112 : decode cX9_takeNumber 112 = .ok (.getfield 65, 3) := by decide +kernel
theorem dX9_takeNumber_115 : decode cX9_takeNumber 115 = .ok (.iconst 1, 1) := by decide +kernel
theorem dX9_takeNumber_116 : decode cX9_takeNumber 116 = .ok (.iadd, 1) := by decide +kernel
theorem dX9_takeNumber_117 : decode cX9_takeNumber 117 = .ok (.putfield 65, 3) := by decide +kernel
theorem dX9_takeNumber_120 : decode cX9_takeNumber 120 = .ok (.goto (-71), 3) := by decide +kernel
theorem dX9_takeNumber_123 : decode cX9_takeNumber 123 = .ok (.aload_n 0, 1) := by decide +kernel
theorem dX9_takeNumber_124 : decode cX9_takeNumber 124 = .ok (.aload_n 0, 1) := by decide +kernel
theorem dX9_takeNumber_125 : decode cX9_takeNumber 125 = .ok (.getfield 65, 3) := by decide +kernel
theorem dX9_takeNumber_128 : decode cX9_takeNumber 128 = .ok (.aload_n 0, 1) := by decide +kernel
theorem dX9_takeNumber_129 : decode cX9_takeNumber 129 = .ok (.getfield 75, 3) := by decide +kernel
theorem dX9_takeNumber_132 : decode cX9_takeNumber 132 = .ok (.isub, 1) := by decide +kernel
theorem dX9_takeNumber_133 : decode cX9_takeNumber 133 = .ok (.iconst 4, 1) := by decide +kernel
theorem dX9_takeNumber_134 : decode cX9_takeNumber 134 = .ok (.if_icmp .ge 7, 3) := by decide +kernel
theorem dX9_takeNumber_137 : decode cX9_takeNumber 137 = .ok (.iconst 1, 1) := by decide +kernel
theorem dX9_takeNumber_138 : decode cX9_takeNumber 138 = .ok (.goto 4, 3) := by decide +kernel
theorem dX9_takeNumber_141 : decode cX9_takeNumber 141 = .ok (.iconst 0, 1) := by decide +kernel
theorem dX9_takeNumber_142 : decode cX9_takeNumber 142 = .ok (.iconst 2, 1) := by decide +kernel
theorem dX9_takeNumber_143 : decode cX9_takeNumber 143 = .ok (.aload_n 0, 1) := by decide +kernel
theorem dX9_takeNumber_144 : decode cX9_takeNumber 144 = .ok (.getfield 75, 3) := by decide +kernel
theorem dX9_takeNumber_147 : decode cX9_takeNumber 147 = .ok (.invokevirtual 82, 3) := by decide +kernel
theorem dX9_takeNumber_150 : decode cX9_takeNumber 150 = .ok (.istore_n 3, 1) := by decide +kernel
theorem dX9_takeNumber_151 : decode cX9_takeNumber 151 = .ok (.iload_n 2, 1) := by decide +kernel
theorem dX9_takeNumber_152 : decode cX9_takeNumber 152 = .ok (.ireturn, 1) := by decide +kernel
set_option maxRecDepth 20000 in
theorem ggX9_takeIn_X9_takeNumber : GoodIn wsX9_takeIn wsX9_takeNumber := goodIn_r _ [7, 1, 8, 2, 9, 10, 11, 12, 13, 14, 15, 16, 6, 17, 18, 19, 20, 21, 22, 23, 24, 25, 26, 27, 28, 29, 30, 31, 32, 33, 34, 35, 36, 37, 38, 39, 40, 41, 42, 43, 44, 45, 46, 47, 48, 49, 50, 51, 52] (by decide +kernel) (by decide +kernel)
set_option maxRecDepth 20000 in
theorem gX9_takeIn_X9_takeNumber : GoodIn wsX9_takeIn (wsV RX9 87 RX9 yX9_takeNumber wsX9_takeNumber) := goodIn_app (goodIn_of _ (by decide +kernel)) ggX9_takeIn_X9_takeNumber
set_option maxRecDepth 20000 in
theorem ggX9_takeIn_X9_in : GoodIn wsX9_takeIn wsX9_in := goodIn_r _ [20] (by decide +kernel) (by decide +kernel)
set_option maxRecDepth 20000 in
theorem gX9_takeIn_X9_in : GoodIn wsX9_takeIn (va_wsS RX9 56 yX9_in wsX9_in) := goodIn_app (goodIn_of _ (by decide +kernel)) ggX9_takeIn_X9_in
set_option maxRecDepth 20000 in
theorem ggX9_takeIn_X9_want : GoodIn wsX9_takeIn wsX9_want := goodIn_r _ [24, 1, 25, 26, 27, 28, 29, 30, 31, 32, 33, 34, 35, 36, 37, 38, 39, 40, 41, 42, 43, 44, 45, 46, 47, 48, 49, 50, 51, 52] (by decide +kernel) (by decide +kernel)
set_option maxRecDepth 20000 in
theorem gX9_takeIn_X9_want : GoodIn wsX9_takeIn (wsV RX9 82 RX9 yX9_want wsX9_want) := goodIn_app (goodIn_of _ (by decide +kernel)) ggX9_takeIn_X9_want
theorem dX9_takeIn_0 : decode cX9_takeIn 0 = .ok (.aload_n 0, 1) := by decide +kernel
theorem dX9_takeIn_1 : decode cX9_takeIn 1 = .ok (.invokevirtual 87, 3) := by decide +kernel
theorem dX9_takeIn_4 : decode cX9_takeIn 4 = .ok (.istore_n 3, 1) := by decide +kernel
theorem dX9_takeIn_5 : decode cX9_takeIn 5 = .ok (.aload_n 0, 1) := by decide +kernel
theorem dX9_takeIn_6 : decode cX9_takeIn 6 = .ok (.aload_n 0, 1) := by decide +kernel
theorem dX9_takeIn_7 : decode cX9_takeIn 7 = .ok (.getfield 68, 3) := by decide +kernel
theorem dX9_takeIn_10 : decode cX9_takeIn 10 = .ok (.ifCond .gt 15, 3) := by decide +kernel
theorem dX9_takeIn_13 : decode cX9_takeIn 13 = .ok (.iload_n 3, 1) := by decide +kernel
theorem dX9_takeIn_14 : decode cX9_takeIn 14 = .ok (.i2l, 1) := by decide +kernel
theorem dX9_takeIn_15 : decode cX9_takeIn 15 = .ok (.iload_n 1, 1) := by decide +kernel
theorem dX9_takeIn_16 : decode cX9_takeIn 16 = .ok (.i2l, 1) := by decide +kernel
theorem dX9_takeIn_17 : decode cX9_takeIn 17 = .ok (.iload_n 2, 1) := by decide +kernel
theorem dX9_takeIn_18 : decode cX9_takeIn 18 = .ok (.i2l, 1) := by decide +kernel
theorem dX9_takeIn_19 : decode cX9_takeIn 19 = .ok (.invokestatic 56, 3) := by decide +kernel
theorem dX9_takeIn_22 : decode cX9_takeIn 22 = .ok (.ifCond .eq 7, 3) := by decide +kernel
theorem dX9_takeIn_25 : decode cX9_takeIn 25 = .ok (.iconst 1, 1) := by decide +kernel
theorem dX9_takeIn_26 : decode cX9_takeIn 26 = .ok (.goto 4, 3) := by decide +kernel
theorem dX9_takeIn_29 : decode cX9_takeIn 29 = .ok (.iconst 0, 1) := by decide +kernel
theorem dX9_takeIn_30 : decode cX9_takeIn 30 = .ok (.iconst 2, 1) := by decide +kernel
theorem dX9_takeIn_31 : decode cX9_takeIn 31 = .ok (.aload_n 0, 1) := by decide +kernel
theorem dX9_takeIn_32 : decode cX9_takeIn 32 = .ok (.getfield 75, 3) := by decide +kernel
theorem dX9_takeIn_35 : decode cX9_takeIn 35 = .ok (.invokevirtual 82, 3) := by decide +kernel
theorem dX9_takeIn_38 : decode cX9_takeIn 38 = .ok (.istore 4, 2) := by decide +kernel
theorem dX9_takeIn_40 : decode cX9_takeIn 40 = .ok (.aload_n 0, 1) := by decide +kernel
theorem dX9_takeIn_41 : decode cX9_takeIn 41 = .ok (.getfield 68, 3) := by decide +kernel
theorem dX9_takeIn_44 : decode cX9_takeIn 44 = .ok (.ifCond .le 7, 3) := by decide +kernel
theorem dX9_takeIn_47 : decode cX9_takeIn 47 = .ok (.iconst 0, 1) := by decide +kernel
theorem dX9_takeIn_48 : decode cX9_takeIn 48 = .ok (.goto 4, 3) := by decide +kernel
theorem dX9_takeIn_51 : decode cX9_takeIn 51 = .ok (.iload_n 3, 1) := by decide +kernel
theorem dX9_takeIn_52 : decode cX9_takeIn 52 = .ok (.ireturn, 1) := by decide +kernel
set_option maxRecDepth 20000 in
theorem ggX9_takeColours_X9_want : GoodIn wsX9_takeColours wsX9_want := goodIn_r _ [6, 7, 8, 31, 32, 33, 34, 35, 36, 37, 38, 39, 40, 41, 42, 43, 44, 45, 46, 47, 48, 49, 50, 51, 52, 53, 54, 55, 56, 57] (by decide +kernel) (by decide +kernel)
set_option maxRecDepth 20000 in
theorem gX9_takeColours_X9_want : GoodIn wsX9_takeColours (wsV RX9 82 RX9 yX9_want wsX9_want) := goodIn_app (goodIn_of _ (by decide +kernel)) ggX9_takeColours_X9_want
set_option maxRecDepth 20000 in
theorem ggX9_takeColours_X9_takeIn : GoodIn wsX9_takeColours wsX9_takeIn := goodIn_r _ [12, 7, 13, 14, 15, 16, 5, 17, 18, 19, 20, 21, 22, 23, 24, 25, 26, 27, 28, 29, 30, 2, 3, 4, 6, 8, 31, 32, 33, 34, 35, 36, 37, 38, 39, 40, 41, 42, 43, 44, 45, 46, 47, 48, 49, 50, 51, 52, 53, 54, 55, 56, 57] (by decide +kernel) (by decide +kernel)
set_option maxRecDepth 20000 in
theorem gX9_takeColours_X9_takeIn : GoodIn wsX9_takeColours (wsV RX9 93 RX9 yX9_takeIn wsX9_takeIn) := goodIn_app (goodIn_of _ (by decide +kernel)) ggX9_takeColours_X9_takeIn
theorem dX9_takeColours_0 : decode cX9_takeColours 0 = .ok (.aload_n 0, 1) := by decide +kernel
theorem dX9_takeColours_1 : decode cX9_takeColours 1 = .ok (.aload_n 0, 1) := by decide +kernel
theorem dX9_takeColours_2 : decode cX9_takeColours 2 = .ok (.getfield 90, 3) := by decide +kernel
theorem dX9_takeColours_5 : decode cX9_takeColours 5 = .ok (.ifCond .ne 7, 3) := by decide +kernel
theorem dX9_takeColours_8 : decode cX9_takeColours 8 = .ok (.iconst 1, 1) := by decide +kernel
theorem dX9_takeColours_9 : decode cX9_takeColours 9 = .ok (.goto 4, 3) := by decide +kernel
theorem dX9_takeColours_12 : decode cX9_takeColours 12 = .ok (.iconst 0, 1) := by decide +kernel
theorem dX9_takeColours_13 : decode cX9_takeColours 13 = .ok (.iconst 3, 1) := by decide +kernel
theorem dX9_takeColours_14 : decode cX9_takeColours 14 = .ok (.iload_n 1, 1) := by decide +kernel
theorem dX9_takeColours_15 : decode cX9_takeColours 15 = .ok (.invokevirtual 82, 3) := by decide +kernel
theorem dX9_takeColours_18 : decode cX9_takeColours 18 = .ok (.ifCond .eq 14, 3) := by decide +kernel
theorem dX9_takeColours_21 : decode cX9_takeColours 21 = .ok (.aload_n 0, 1) := by decide +kernel
theorem dX9_takeColours_22 : decode cX9_takeColours 22 = .ok (.aload_n 0, 1) := by decide +kernel
theorem dX9_takeColours_23 : decode cX9_takeColours 23 = .ok (.iconst 1, 1) := by decide +kernel
theorem dX9_takeColours_24 : decode cX9_takeColours 24 = .ok (.bipush 8, 2) := by decide +kernel
theorem dX9_takeColours_26 : decode cX9_takeColours 26 = .ok (.invokevirtual 93, 3) := by decide +kernel
theorem dX9_takeColours_29 : decode cX9_takeColours 29 = .ok (.putfield 90, 3) := by decide +kernel
theorem dX9_takeColours_32 : decode cX9_takeColours 32 = .ok (.return_, 1) := by decide +kernel
set_option maxRecDepth 20000 in
theorem ggX9_takeCard_X9_want : GoodIn wsX9_takeCard wsX9_want := goodIn_r _ [9, 10, 11, 34, 35, 36, 37, 38, 39, 40, 41, 42, 43, 44, 45, 46, 47, 48, 49, 50, 51, 52, 53, 54, 55, 56, 57, 58, 59, 60] (by decide +kernel) (by decide +kernel)
set_option maxRecDepth 20000 in
theorem gX9_takeCard_X9_want : GoodIn wsX9_takeCard (wsV RX9 82 RX9 yX9_want wsX9_want) := goodIn_app (goodIn_of _ (by decide +kernel)) ggX9_takeCard_X9_want
set_option maxRecDepth 20000 in
theorem ggX9_takeCard_X9_takeIn : GoodIn wsX9_takeCard wsX9_takeIn := goodIn_r _ [15, 10, 16, 17, 18, 19, 8, 20, 21, 22, 23, 24, 25, 26, 27, 28, 29, 30, 31, 32, 33, 5, 6, 7, 9, 11, 34, 35, 36, 37, 38, 39, 40, 41, 42, 43, 44, 45, 46, 47, 48, 49, 50, 51, 52, 53, 54, 55, 56, 57, 58, 59, 60] (by decide +kernel) (by decide +kernel)
set_option maxRecDepth 20000 in
theorem gX9_takeCard_X9_takeIn : GoodIn wsX9_takeCard (wsV RX9 93 RX9 yX9_takeIn wsX9_takeIn) := goodIn_app (goodIn_of _ (by decide +kernel)) ggX9_takeCard_X9_takeIn
theorem dX9_takeCard_0 : decode cX9_takeCard 0 = .ok (.aload_n 0, 1) := by decide +kernel
theorem dX9_takeCard_1 : decode cX9_takeCard 1 = .ok (.aload_n 0, 1) := by decide +kernel
theorem dX9_takeCard_2 : decode cX9_takeCard 2 = .ok (.getfield 97, 3) := by decide +kernel
theorem dX9_takeCard_5 : decode cX9_takeCard 5 = .ok (.bipush 8, 2) := by decide +kernel
theorem dX9_takeCard_7 : decode cX9_takeCard 7 = .ok (.if_icmp .ge 7, 3) := by decide +kernel
theorem dX9_takeCard_10 : decode cX9_takeCard 10 = .ok (.iconst 1, 1) := by decide +kernel
theorem dX9_takeCard_11 : decode cX9_takeCard 11 = .ok (.goto 4, 3) := by decide +kernel
theorem dX9_takeCard_14 : decode cX9_takeCard 14 = .ok (.iconst 0, 1) := by decide +kernel
theorem dX9_takeCard_15 : decode cX9_takeCard 15 = .ok (.iconst 3, 1) := by decide +kernel
theorem dX9_takeCard_16 : decode cX9_takeCard 16 = .ok (.iload_n 1, 1) := by decide +kernel
theorem dX9_takeCard_17 : decode cX9_takeCard 17 = .ok (.invokevirtual 82, 3) := by decide +kernel
theorem dX9_takeCard_20 : decode cX9_takeCard 20 = .ok (.ifCond .eq 71, 3) := by decide +kernel
theorem dX9_takeCard_23 : decode cX9_takeCard 23 = .ok (.iconst 0, 1) := by decide +kernel
theorem dX9_takeCard_24 : decode cX9_takeCard 24 = .ok (.istore_n 2, 1) := by decide +kernel
theorem dX9_takeCard_25 : decode cX9_takeCard 25 = .ok (.iload_n 2, 1) := by decide +kernel
theorem dX9_takeCard_26 : decode cX9_takeCard 26 = .ok (.iconst 4, 1) := by decide +kernel
theorem dX9_takeCard_27 : decode cX9_takeCard 27 = .ok (.if_icmp .ge 36, 3) := by decide +kernel
theorem dX9_takeCard_30 : decode cX9_takeCard 30 = .ok (.aload_n 0, 1) := by decide +kernel
theorem dX9_takeCard_31 : decode cX9_takeCard 31 = .ok (.getfield 17, 3) := by decide +kernel
theorem dX9_takeCard_34 : decode cX9_takeCard 34 = .ok (.bipush 32, 2) := by decide +kernel
theorem dX9_takeCard_36 : decode cX9_takeCard 36 = .ok (.iconst 4, 1) := by decide +kernel
theorem dX9_takeCard_37 : decode cX9_takeCard 37 = .ok (.aload_n 0, 1) := by decide +kernel
theorem dX9_takeCard_38 : decode cX9_takeCard 38 = .ok (.getfield 97, 3) := by decide +kernel
theorem dX9_takeCard_41 : decode cX9_takeCard 41 = .ok (.imul, 1) := by decide +kernel
theorem dX9_takeCard_42 : decode cX9_takeCard 42 = .ok (.iadd, 1) := by decide +kernel
theorem dX9_takeCard_43 : decode cX9_takeCard 43 = .ok (.iload_n 2, 1) := by decide +kernel
theorem dX9_takeCard_44 : decode cX9_takeCard 44 = .ok (.iadd, 1) := by decide +kernel
theorem dX9_takeCard_45 : decode cX9_takeCard 45 = .ok (.aload_n 0, 1) := by decide +kernel
theorem dX9_takeCard_46 : decode cX9_takeCard 46 = .ok (.iconst 0, 1) := by decide +kernel
theorem dX9_takeCard_47 : decode cX9_takeCard 47 = .ok (.aload_n 0, 1) := by decide +kernel
theorem dX9_takeCard_48 : decode cX9_takeCard 48 = .ok (.getfield 90, 3) := by decide +kernel
theorem dX9_takeCard_51 : decode cX9_takeCard 51 = .ok (.iconst 1, 1) := by decide +kernel
theorem dX9_takeCard_52 : decode cX9_takeCard 52 = .ok (.isub, 1) := by decide +kernel
theorem dX9_takeCard_53 : decode cX9_takeCard 53 = .ok (.invokevirtual 93, 3) := by decide +kernel
theorem dX9_takeCard_56 : decode cX9_takeCard 56 = .ok (.iastore, 1) := by decide +kernel
theorem dX9_takeCard_57 : decode cX9_takeCard 57 = .ok (.iinc 2 1, 3) := by decide +kernel
theorem dX9_takeCard_60 : decode cX9_takeCard 60 = .ok (.goto (-35), 3) := by decide +kernel
theorem dX9_takeCard_63 : decode cX9_takeCard 63 = .ok (.aload_n 0, 1) := by decide +kernel
theorem dX9_takeCard_64 : decode cX9_takeCard 64 = .ok (.getfield 20, 3) := by decide +kernel
theorem dX9_takeCard_67 : decode cX9_takeCard 67 = .ok (.bipush 8, 2) := by decide +kernel
theorem dX9_takeCard_69 : decode cX9_takeCard 69 = .ok (.aload_n 0, 1) := by decide +kernel
theorem dX9_takeCard_70 : decode cX9_takeCard 70 = .ok (.getfield 97, 3) := by decide +kernel
theorem dX9_takeCard_73 : decode cX9_takeCard 73 = .ok (.iadd, 1) := by decide +kernel
theorem dX9_takeCard_74 : decode cX9_takeCard 74 = .ok (.aload_n 0, 1) := by decide +kernel
theorem dX9_takeCard_75 : decode cX9_takeCard 75 = .ok (.iconst 0, 1) := by decide +kernel
theorem dX9_takeCard_76 : decode cX9_takeCard 76 = .ok (.iconst 1, 1) := by decide +kernel
theorem dX9_takeCard_77 : decode cX9_takeCard 77 = .ok (.invokevirtual 93, 3) := by decide +kernel
theorem dX9_takeCard_80 : decode cX9_takeCard 80 = .ok (.iastore, 1) := by decide +kernel
theorem dX9_takeCard_81 : decode cX9_takeCard 81 = .ok (.aload_n 0, 1) := by decide +kernel
theorem dX9_takeCard_82 : decode cX9_takeCard 82 = .ok (.dup, 1) := by decide +kernel
theorem dX9_takeCard_83 : decode cX9_takeCard 83 = .ok (.getfield 97, 3) := by decide +kernel
theorem dX9_takeCard_86 : decode cX9_takeCard 86 = .ok (.iconst 1, 1) := by decide +kernel
theorem dX9_takeCard_87 : decode cX9_takeCard 87 = .ok (.iadd, 1) := by decide +kernel
theorem dX9_takeCard_88 : decode cX9_takeCard 88 = .ok (.putfield 97, 3) := by decide +kernel
theorem dX9_takeCard_91 : decode cX9_takeCard 91 = .ok (.return_, 1) := by decide +kernel
set_option maxRecDepth 20000 in
theorem ggX9_takePack_X9_want : GoodIn wsX9_takePack wsX9_want := goodIn_r _ [10, 2, 11, 33, 34, 35, 36, 37, 38, 39, 40, 41, 42, 43, 44, 45, 46, 47, 48, 49, 50, 51, 52, 53, 54, 55, 56, 57, 58, 59] (by decide +kernel) (by decide +kernel)
set_option maxRecDepth 20000 in
theorem gX9_takePack_X9_want : GoodIn wsX9_takePack (wsV RX9 82 RX9 yX9_want wsX9_want) := goodIn_app (goodIn_of _ (by decide +kernel)) ggX9_takePack_X9_want
set_option maxRecDepth 20000 in
theorem ggX9_takePack_X9_takeIn : GoodIn wsX9_takePack wsX9_takeIn := goodIn_r _ [15, 2, 4, 16, 17, 18, 9, 19, 20, 21, 22, 23, 24, 25, 26, 27, 28, 29, 30, 31, 32, 6, 7, 8, 10, 11, 33, 34, 35, 36, 37, 38, 39, 40, 41, 42, 43, 44, 45, 46, 47, 48, 49, 50, 51, 52, 53, 54, 55, 56, 57, 58, 59] (by decide +kernel) (by decide +kernel)
set_option maxRecDepth 20000 in
theorem gX9_takePack_X9_takeIn : GoodIn wsX9_takePack (wsV RX9 93 RX9 yX9_takeIn wsX9_takeIn) := goodIn_app (goodIn_of _ (by decide +kernel)) ggX9_takePack_X9_takeIn
theorem dX9_takePack_0 : decode cX9_takePack 0 = .ok (.aload_n 0, 1) := by decide +kernel
theorem dX9_takePack_1 : decode cX9_takePack 1 = .ok (.aload_n 0, 1) := by decide +kernel
theorem dX9_takePack_2 : decode cX9_takePack 2 = .ok (.getfield 100, 3) := by decide +kernel
theorem dX9_takePack_5 : decode cX9_takePack 5 = .ok (.iconst 4, 1) := by decide +kernel
theorem dX9_takePack_6 : decode cX9_takePack 6 = .ok (.if_icmp .ge 7, 3) := by decide +kernel
theorem dX9_takePack_9 : decode cX9_takePack 9 = .ok (.iconst 1, 1) := by decide +kernel
theorem dX9_takePack_10 : decode cX9_takePack 10 = .ok (.goto 4, 3) := by decide +kernel
theorem dX9_takePack_13 : decode cX9_takePack 13 = .ok (.iconst 0, 1) := by decide +kernel
theorem dX9_takePack_14 : decode cX9_takePack 14 = .ok (.iconst 3, 1) := by decide +kernel
theorem dX9_takePack_15 : decode cX9_takePack 15 = .ok (.iload_n 1, 1) := by decide +kernel
theorem dX9_takePack_16 : decode cX9_takePack 16 = .ok (.invokevirtual 82, 3) := by decide +kernel
theorem dX9_takePack_19 : decode cX9_takePack 19 = .ok (.ifCond .ne 4, 3) := by decide +kernel
theorem dX9_takePack_22 : decode cX9_takePack 22 = .ok (.return_, 1) := by decide +kernel
theorem dX9_takePack_23 : decode cX9_takePack 23 = .ok (.aload_n 0, 1) := by decide +kernel
theorem dX9_takePack_24 : decode cX9_takePack 24 = .ok (.iconst 1, 1) := by decide +kernel
theorem dX9_takePack_25 : decode cX9_takePack 25 = .ok (.sipush 255, 3) := by decide +kernel
theorem dX9_takePack_28 : decode cX9_takePack 28 = .ok (.invokevirtual 93, 3) := by decide +kernel
theorem dX9_takePack_31 : decode cX9_takePack 31 = .ok (.istore_n 2, 1) := by decide +kernel
theorem dX9_takePack_32 : decode cX9_takePack 32 = .ok (.aload_n 0, 1) := by decide +kernel
theorem dX9_takePack_33 : decode cX9_takePack 33 = .ok (.aload_n 0, 1) := by decide +kernel
theorem dX9_takePack_34 : decode cX9_takePack 34 = .ok (.getfield 68, 3) := by decide +kernel
theorem dX9_takePack_37 : decode cX9_takePack 37 = .ok (.ifCond .gt 13, 3) := by decide +kernel
theorem dX9_takePack_40 : decode cX9_takePack 40 = .ok (.iload_n 2, 1) := by decide +kernel
theorem dX9_takePack_41 : decode cX9_takePack 41 = .ok (.iconst 1, 1) := by decide +kernel
theorem dX9_takePack_42 : decode cX9_takePack 42 = .ok (.aload_n 0, 1) := by decide +kernel
theorem dX9_takePack_43 : decode cX9_takePack 43 = .ok (.getfield 97, 3) := by decide +kernel
theorem dX9_takePack_46 : decode cX9_takePack 46 = .ok (.ishl, 1) := by decide +kernel
theorem dX9_takePack_47 : decode cX9_takePack 47 = .ok (.if_icmp .ge 7, 3) := by decide +kernel
theorem dX9_takePack_50 : decode cX9_takePack 50 = .ok (.iconst 1, 1) := by decide +kernel
theorem dX9_takePack_51 : decode cX9_takePack 51 = .ok (.goto 4, 3) := by decide +kernel
theorem dX9_takePack_54 : decode cX9_takePack 54 = .ok (.iconst 0, 1) := by decide +kernel
theorem dX9_takePack_55 : decode cX9_takePack 55 = .ok (.iconst 2, 1) := by decide +kernel
theorem dX9_takePack_56 : decode cX9_takePack 56 = .ok (.aload_n 0, 1) := by decide +kernel
theorem dX9_takePack_57 : decode cX9_takePack 57 = .ok (.getfield 75, 3) := by decide +kernel
theorem dX9_takePack_60 : decode cX9_takePack 60 = .ok (.invokevirtual 82, 3) := by decide +kernel
theorem dX9_takePack_63 : decode cX9_takePack 63 = .ok (.istore_n 3, 1) := by decide +kernel
theorem dX9_takePack_64 : decode cX9_takePack 64 = .ok (.iconst 0, 1) := by decide +kernel
theorem dX9_takePack_65 : decode cX9_takePack 65 = .ok (.istore 4, 2) := by decide +kernel
theorem dX9_takePack_67 : decode cX9_takePack 67 = .ok (.iload 4, 2) := by decide +kernel
theorem dX9_takePack_69 : decode cX9_takePack 69 = .ok (.aload_n 0, 1) := by decide +kernel
theorem dX9_takePack_70 : decode cX9_takePack 70 = .ok (.getfield 100, 3) := by decide +kernel
theorem dX9_takePack_73 : decode cX9_takePack 73 = .ok (.if_icmp .ge 45, 3) := by decide +kernel
theorem dX9_takePack_76 : decode cX9_takePack 76 = .ok (.aload_n 0, 1) := by decide +kernel
theorem dX9_takePack_77 : decode cX9_takePack 77 = .ok (.aload_n 0, 1) := by decide +kernel
theorem dX9_takePack_78 : decode cX9_takePack 78 = .ok (.getfield 68, 3) := by decide +kernel
theorem dX9_takePack_81 : decode cX9_takePack 81 = .ok (.ifCond .gt 17, 3) := by decide +kernel
theorem dX9_takePack_84 : decode cX9_takePack 84 = .ok (.iload_n 2, 1) := by decide +kernel
theorem dX9_takePack_85 : decode cX9_takePack 85 = .ok (.aload_n 0, 1) := by decide +kernel
theorem dX9_takePack_86 : decode cX9_takePack 86 = .ok (.getfield 23, 3) := by decide +kernel
theorem dX9_takePack_89 : decode cX9_takePack 89 = .ok (.iconst 4, 1) := by decide +kernel
theorem dX9_takePack_90 : decode cX9_takePack 90 = .ok (.iload 4, 2) := by decide +kernel
theorem dX9_takePack_92 : decode cX9_takePack 92 = .ok (.iadd, 1) := by decide +kernel
theorem dX9_takePack_93 : decode cX9_takePack 93 = .ok (.iaload, 1) := by decide +kernel
theorem dX9_takePack_94 : decode cX9_takePack 94 = .ok (.iand, 1) := by decide +kernel
theorem dX9_takePack_95 : decode cX9_takePack 95 = .ok (.ifCond .ne 7, 3) := by decide +kernel
theorem dX9_takePack_98 : decode cX9_takePack 98 = .ok (.iconst 1, 1) := by decide +kernel
theorem dX9_takePack_99 : decode cX9_takePack 99 = .ok (.goto 4, 3) := by decide +kernel
theorem dX9_takePack_102 : decode cX9_takePack 102 = .ok (.iconst 0, 1) := by decide +kernel
theorem dX9_takePack_103 : decode cX9_takePack 103 = .ok (.iconst 4, 1) := by decide +kernel
theorem dX9_takePack_104 : decode cX9_takePack 104 = .ok (.aload_n 0, 1) := by decide +kernel
theorem dX9_takePack_105 : decode cX9_takePack 105 = .ok (.getfield 75, 3) := by decide +kernel
theorem dX9_takePack_108 : decode cX9_takePack 108 = .ok (.invokevirtual 82, 3) := by decide +kernel
theorem dX9_takePack_111 : decode cX9_takePack 111 = .ok (.istore_n 3, 1) := by decide +kernel
theorem dX9_takePack_112 : decode cX9_takePack 112 = .ok (.iinc 4 1, 3) := by decide +kernel
theorem dX9_takePack_115 : decode cX9_takePack 115 = .ok (.goto (-48), 3) := by decide +kernel
theorem dX9_takePack_118 : decode cX9_takePack 118 = .ok (.aload_n 0, 1) := by decide +kernel
theorem dX9_takePack_119 : decode cX9_takePack 119 = .ok (.getfield 23, 3) := by decide +kernel
theorem dX9_takePack_122 : decode cX9_takePack 122 = .ok (.iconst 4, 1) := by decide +kernel
theorem dX9_takePack_123 : decode cX9_takePack 123 = .ok (.aload_n 0, 1) := by decide +kernel
theorem dX9_takePack_124 : decode cX9_takePack 124 = .ok (.getfield 100, 3) := by decide +kernel
theorem dX9_takePack_127 : decode cX9_takePack 127 = .ok (.iadd, 1) := by decide +kernel
theorem dX9_takePack_128 : decode cX9_takePack 128 = .ok (.iload_n 2, 1) := by decide +kernel
theorem dX9_takePack_129 : decode cX9_takePack 129 = .ok (.iastore, 1) := by decide +kernel
theorem dX9_takePack_130 : decode cX9_takePack 130 = .ok (.aload_n 0, 1) := by decide +kernel
theorem dX9_takePack_131 : decode cX9_takePack 131 = .ok (.dup, 1) := by decide +kernel
theorem dX9_takePack_132 : decode cX9_takePack 132 = .ok (.getfield 100, 3) := by decide +kernel
theorem dX9_takePack_135 : decode cX9_takePack 135 = .ok (.iconst 1, 1) := by decide +kernel
theorem dX9_takePack_136 : decode cX9_takePack 136 = .ok (.iadd, 1) := by decide +kernel
theorem dX9_takePack_137 : decode cX9_takePack 137 = .ok (.putfield 100, 3) := by decide +kernel
theorem dX9_takePack_140 : decode cX9_takePack 140 = .ok (.return_, 1) := by decide +kernel
set_option maxRecDepth 20000 in
theorem ggX9_takeYarn_X9_takeIn : GoodIn wsX9_takeYarn wsX9_takeIn := goodIn_r _ [8, 2, 9, 10, 11, 12, 7, 13, 14, 15, 16, 17, 18, 19, 20, 21, 22, 23, 24, 25, 26, 27, 28, 29, 30, 31, 32, 33, 34, 35, 36, 37, 38, 39, 40, 41, 42, 43, 44, 45, 46, 47, 48, 49, 50, 51, 52, 53, 54, 55, 56, 57, 58] (by decide +kernel) (by decide +kernel)
set_option maxRecDepth 20000 in
theorem gX9_takeYarn_X9_takeIn : GoodIn wsX9_takeYarn (wsV RX9 93 RX9 yX9_takeIn wsX9_takeIn) := goodIn_app (goodIn_of _ (by decide +kernel)) ggX9_takeYarn_X9_takeIn
theorem dX9_takeYarn_0 : decode cX9_takeYarn 0 = .ok (.aload_n 0, 1) := by decide +kernel
theorem dX9_takeYarn_1 : decode cX9_takeYarn 1 = .ok (.iconst 0, 1) := by decide +kernel
theorem dX9_takeYarn_2 : decode cX9_takeYarn 2 = .ok (.aload_n 0, 1) := by decide +kernel
theorem dX9_takeYarn_3 : decode cX9_takeYarn 3 = .ok (.getfield 90, 3) := by decide +kernel
theorem dX9_takeYarn_6 : decode cX9_takeYarn 6 = .ok (.iconst 1, 1) := by decide +kernel
theorem dX9_takeYarn_7 : decode cX9_takeYarn 7 = .ok (.isub, 1) := by decide +kernel
theorem dX9_takeYarn_8 : decode cX9_takeYarn 8 = .ok (.invokevirtual 93, 3) := by decide +kernel
theorem dX9_takeYarn_11 : decode cX9_takeYarn 11 = .ok (.istore_n 1, 1) := by decide +kernel
theorem dX9_takeYarn_12 : decode cX9_takeYarn 12 = .ok (.aload_n 0, 1) := by decide +kernel
theorem dX9_takeYarn_13 : decode cX9_takeYarn 13 = .ok (.iconst 0, 1) := by decide +kernel
theorem dX9_takeYarn_14 : decode cX9_takeYarn 14 = .ok (.sipush 999, 3) := by decide +kernel
theorem dX9_takeYarn_17 : decode cX9_takeYarn 17 = .ok (.invokevirtual 93, 3) := by decide +kernel
theorem dX9_takeYarn_20 : decode cX9_takeYarn 20 = .ok (.istore_n 2, 1) := by decide +kernel
theorem dX9_takeYarn_21 : decode cX9_takeYarn 21 = .ok (.aload_n 0, 1) := by decide +kernel
theorem dX9_takeYarn_22 : decode cX9_takeYarn 22 = .ok (.getfield 68, 3) := by decide +kernel
theorem dX9_takeYarn_25 : decode cX9_takeYarn 25 = .ok (.ifCond .ne 10, 3) := by decide +kernel
theorem dX9_takeYarn_28 : decode cX9_takeYarn 28 = .ok (.aload_n 0, 1) := by decide +kernel
theorem dX9_takeYarn_29 : decode cX9_takeYarn 29 = .ok (.getfield 26, 3) := by decide +kernel
theorem dX9_takeYarn_32 : decode cX9_takeYarn 32 = .ok (.iload_n 1, 1) := by decide +kernel
theorem dX9_takeYarn_33 : decode cX9_takeYarn 33 = .ok (.iload_n 2, 1) := by decide +kernel
theorem dX9_takeYarn_34 : decode cX9_takeYarn 34 = .ok (.iastore, 1) := by decide +kernel
theorem dX9_takeYarn_35 : decode cX9_takeYarn 35 = .ok (.return_, 1) := by decide +kernel
set_option maxRecDepth 20000 in
theorem ggX9_takeClause_X9_here : GoodIn wsX9_takeClause wsX9_here := goodIn_r _ [7, 1, 8, 9, 53, 54, 55, 56, 57, 58, 59, 60, 61, 62, 63, 64, 65, 66, 67, 68, 69, 70, 71, 72, 73, 74, 75, 76, 77, 78, 79] (by decide +kernel) (by decide +kernel)
set_option maxRecDepth 20000 in
theorem gX9_takeClause_X9_here : GoodIn wsX9_takeClause (wsV RX9 71 RX9 yX9_here wsX9_here) := goodIn_app (goodIn_of _ (by decide +kernel)) ggX9_takeClause_X9_here
set_option maxRecDepth 20000 in
theorem ggX9_takeClause_X9_want : GoodIn wsX9_takeClause wsX9_want := goodIn_r _ [13, 14, 15, 53, 54, 55, 56, 57, 58, 59, 60, 61, 62, 63, 64, 65, 66, 67, 68, 69, 70, 71, 72, 73, 74, 75, 76, 77, 78, 79] (by decide +kernel) (by decide +kernel)
set_option maxRecDepth 20000 in
theorem gX9_takeClause_X9_want : GoodIn wsX9_takeClause (wsV RX9 82 RX9 yX9_want wsX9_want) := goodIn_app (goodIn_of _ (by decide +kernel)) ggX9_takeClause_X9_want
set_option maxRecDepth 20000 in
theorem ggX9_takeClause_X9_takeColours : GoodIn wsX9_takeClause wsX9_takeColours := goodIn_r _ [19, 2, 10, 11, 12, 6, 13, 14, 15, 20, 21, 22, 23, 24, 25, 26, 27, 28, 1, 29, 30, 8, 9, 31, 3, 4, 5, 7, 32, 33, 34, 53, 54, 55, 56, 57, 58, 59, 60, 61, 62, 63, 64, 65, 66, 67, 68, 69, 70, 71, 72, 73, 74, 75, 76, 77, 78, 79] (by decide +kernel) (by decide +kernel)
set_option maxRecDepth 20000 in
theorem gX9_takeClause_X9_takeColours : GoodIn wsX9_takeClause (wsV RX9 103 RX9 yX9_takeColours wsX9_takeColours) := goodIn_app (goodIn_of _ (by decide +kernel)) ggX9_takeClause_X9_takeColours
set_option maxRecDepth 20000 in
theorem ggX9_takeClause_X9_takeCard : GoodIn wsX9_takeClause wsX9_takeCard := goodIn_r _ [38, 39, 40, 2, 41, 10, 11, 12, 6, 13, 14, 15, 20, 21, 22, 23, 24, 25, 26, 27, 28, 1, 29, 30, 8, 9, 31, 3, 4, 5, 7, 32, 33, 34, 53, 54, 55, 56, 57, 58, 59, 60, 61, 62, 63, 64, 65, 66, 67, 68, 69, 70, 71, 72, 73, 74, 75, 76, 77, 78, 79] (by decide +kernel) (by decide +kernel)
set_option maxRecDepth 20000 in
theorem gX9_takeClause_X9_takeCard : GoodIn wsX9_takeClause (wsV RX9 107 RX9 yX9_takeCard wsX9_takeCard) := goodIn_app (goodIn_of _ (by decide +kernel)) ggX9_takeClause_X9_takeCard
set_option maxRecDepth 20000 in
theorem ggX9_takeClause_X9_takePack : GoodIn wsX9_takeClause wsX9_takePack := goodIn_r _ [45, 46, 14, 39, 24, 47, 10, 11, 12, 6, 13, 15, 20, 21, 22, 23, 25, 26, 27, 28, 1, 29, 30, 8, 9, 31, 3, 4, 5, 7, 32, 33, 34, 53, 54, 55, 56, 57, 58, 59, 60, 61, 62, 63, 64, 65, 66, 67, 68, 69, 70, 71, 72, 73, 74, 75, 76, 77, 78, 79] (by decide +kernel) (by decide +kernel)
set_option maxRecDepth 20000 in
theorem gX9_takeClause_X9_takePack : GoodIn wsX9_takeClause (wsV RX9 110 RX9 yX9_takePack wsX9_takePack) := goodIn_app (goodIn_of _ (by decide +kernel)) ggX9_takeClause_X9_takePack
set_option maxRecDepth 20000 in
theorem ggX9_takeClause_X9_takeYarn : GoodIn wsX9_takeClause wsX9_takeYarn := goodIn_r _ [51, 2, 14, 52, 20, 21, 22, 6, 23, 24, 25, 26, 27, 28, 1, 29, 30, 8, 9, 31, 3, 4, 5, 7, 32, 33, 34, 10, 11, 12, 13, 15, 53, 54, 55, 56, 57, 58, 59, 60, 61, 62, 63, 64, 65, 66, 67, 68, 69, 70, 71, 72, 73, 74, 75, 76, 77, 78, 79] (by decide +kernel) (by decide +kernel)
set_option maxRecDepth 20000 in
theorem gX9_takeClause_X9_takeYarn : GoodIn wsX9_takeClause (wsV RX9 113 RX9 yX9_takeYarn wsX9_takeYarn) := goodIn_app (goodIn_of _ (by decide +kernel)) ggX9_takeClause_X9_takeYarn
theorem dX9_takeClause_0 : decode cX9_takeClause 0 = .ok (.aload_n 0, 1) := by decide +kernel
theorem dX9_takeClause_1 : decode cX9_takeClause 1 = .ok (.invokevirtual 71, 3) := by decide +kernel
theorem dX9_takeClause_4 : decode cX9_takeClause 4 = .ok (.istore_n 1, 1) := by decide +kernel
theorem dX9_takeClause_5 : decode cX9_takeClause 5 = .ok (.aload_n 0, 1) := by decide +kernel
theorem dX9_takeClause_6 : decode cX9_takeClause 6 = .ok (.getfield 65, 3) := by decide +kernel
theorem dX9_takeClause_9 : decode cX9_takeClause 9 = .ok (.istore_n 2, 1) := by decide +kernel
theorem dX9_takeClause_10 : decode cX9_takeClause 10 = .ok (.aload_n 0, 1) := by decide +kernel
theorem dX9_takeClause_11 : decode cX9_takeClause 11 = .ok (.dup, 1) := by decide +kernel
theorem dX9_takeClause_12 : decode cX9_takeClause 12 = .ok (.getfield 65, 3) := by decide +kernel
theorem dX9_takeClause_15 : decode cX9_takeClause 15 = .ok (.iconst 1, 1) := by decide +kernel
theorem dX9_takeClause_16 : decode cX9_takeClause 16 = .ok (.iadd, 1) := by decide +kernel
theorem dX9_takeClause_17 : decode cX9_takeClause 17 = .ok (.putfield 65, 3) := by decide +kernel
theorem dX9_takeClause_20 : decode cX9_takeClause 20 = .ok (.aload_n 0, 1) := by decide +kernel
theorem dX9_takeClause_21 : decode cX9_takeClause 21 = .ok (.iload_n 1, 1) := by decide +kernel
theorem dX9_takeClause_22 : decode cX9_takeClause 22 = .ok (.bipush 108, 2) := by decide +kernel
theorem dX9_takeClause_24 : decode cX9_takeClause 24 = .ok (.if_icmp .eq 10, 3) := by decide +kernel
theorem dX9_takeClause_27 : decode cX9_takeClause 27 = .ok (.aload_n 0, 1) := by decide +kernel
theorem dX9_takeClause_28 : decode cX9_takeClause 28 = .ok (.getfield 90, 3) := by decide +kernel
theorem dX9_takeClause_31 : decode cX9_takeClause 31 = .ok (.ifCond .le 7, 3) := by decide +kernel
theorem dX9_takeClause_34 : decode cX9_takeClause 34 = .ok (.iconst 1, 1) := by decide +kernel
theorem dX9_takeClause_35 : decode cX9_takeClause 35 = .ok (.goto 4, 3) := by decide +kernel
theorem dX9_takeClause_38 : decode cX9_takeClause 38 = .ok (.iconst 0, 1) := by decide +kernel
theorem dX9_takeClause_39 : decode cX9_takeClause 39 = .ok (.iconst 1, 1) := by decide +kernel
theorem dX9_takeClause_40 : decode cX9_takeClause 40 = .ok (.iload_n 2, 1) := by decide +kernel
theorem dX9_takeClause_41 : decode cX9_takeClause 41 = .ok (.invokevirtual 82, 3) := by decide +kernel
theorem dX9_takeClause_44 : decode cX9_takeClause 44 = .ok (.ifCond .ne 4, 3) := by decide +kernel
theorem dX9_takeClause_47 : decode cX9_takeClause 47 = .ok (.return_, 1) := by decide +kernel
theorem dX9_takeClause_48 : decode cX9_takeClause 48 = .ok (.iload_n 1, 1) := by decide +kernel
theorem dX9_takeClause_49 : decode cX9_takeClause 49 = .ok (.lookupswitch 74 #[(99, 51), (107, 59), (108, 43), (121, 67)], 43) := by decide +kernel
theorem dX9_takeClause_92 : decode cX9_takeClause 92 = .ok (.aload_n 0, 1) := by decide +kernel
theorem dX9_takeClause_93 : decode cX9_takeClause 93 = .ok (.iload_n 2, 1) := by decide +kernel
theorem dX9_takeClause_94 : decode cX9_takeClause 94 = .ok (.invokevirtual 103, 3) := by decide +kernel
theorem dX9_takeClause_97 : decode cX9_takeClause 97 = .ok (.goto 34, 3) := by decide +kernel
theorem dX9_takeClause_100 : decode cX9_takeClause 100 = .ok (.aload_n 0, 1) := by decide +kernel
theorem dX9_takeClause_101 : decode cX9_takeClause 101 = .ok (.iload_n 2, 1) := by decide +kernel
theorem dX9_takeClause_102 : decode cX9_takeClause 102 = .ok (.invokevirtual 107, 3) := by decide +kernel
theorem dX9_takeClause_105 : decode cX9_takeClause 105 = .ok (.goto 26, 3) := by decide +kernel
theorem dX9_takeClause_108 : decode cX9_takeClause 108 = .ok (.aload_n 0, 1) := by decide +kernel
theorem dX9_takeClause_109 : decode cX9_takeClause 109 = .ok (.iload_n 2, 1) := by decide +kernel
theorem dX9_takeClause_110 : decode cX9_takeClause 110 = .ok (.invokevirtual 110, 3) := by decide +kernel
theorem dX9_takeClause_113 : decode cX9_takeClause 113 = .ok (.goto 18, 3) := by decide +kernel
theorem dX9_takeClause_116 : decode cX9_takeClause 116 = .ok (.aload_n 0, 1) := by decide +kernel
theorem dX9_takeClause_117 : decode cX9_takeClause 117 = .ok (.invokevirtual 113, 3) := by decide +kernel
theorem dX9_takeClause_120 : decode cX9_takeClause 120 = .ok (.goto 11, 3) := by decide +kernel
theorem dX9_takeClause_123 : decode cX9_takeClause 123 = .ok (.aload_n 0, 1) := by decide +kernel
theorem dX9_takeClause_124 : decode cX9_takeClause 124 = .ok (.iconst 0, 1) := by decide +kernel
theorem dX9_takeClause_125 : decode cX9_takeClause 125 = .ok (.iconst 1, 1) := by decide +kernel
theorem dX9_takeClause_126 : decode cX9_takeClause 126 = .ok (.iload_n 2, 1) := by decide +kernel
theorem dX9_takeClause_127 : decode cX9_takeClause 127 = .ok (.invokevirtual 82, 3) := by decide +kernel
theorem dX9_takeClause_130 : decode cX9_takeClause 130 = .ok (.istore_n 3, 1) := by decide +kernel
theorem dX9_takeClause_131 : decode cX9_takeClause 131 = .ok (.return_, 1) := by decide +kernel
set_option maxRecDepth 20000 in
theorem ggX9_loom_X9_here : GoodIn wsX9_loom wsX9_here := goodIn_r _ [14, 1, 8, 15, 69, 70, 71, 72, 73, 74, 75, 76, 77, 78, 79, 80, 81, 82, 83, 84, 85, 86, 87, 88, 89, 90, 91, 92, 93, 94, 95] (by decide +kernel) (by decide +kernel)
set_option maxRecDepth 20000 in
theorem gX9_loom_X9_here : GoodIn wsX9_loom (wsV RX9 71 RX9 yX9_here wsX9_here) := goodIn_app (goodIn_of _ (by decide +kernel)) ggX9_loom_X9_here
set_option maxRecDepth 20000 in
theorem ggX9_loom_X9_takeClause : GoodIn wsX9_loom wsX9_takeClause := goodIn_r _ [19, 1, 4, 10, 11, 12, 13, 14, 8, 15, 20, 21, 22, 23, 2, 3, 24, 25, 26, 27, 28, 29, 30, 31, 32, 33, 34, 35, 36, 37, 38, 39, 40, 41, 42, 43, 44, 45, 46, 5, 47, 48, 49, 50, 51, 52, 6, 53, 54, 55, 56, 57, 7, 69, 70, 71, 72, 73, 74, 75, 76, 77, 78, 79, 80, 81, 82, 83, 84, 85, 86, 87, 88, 89, 90, 91, 92, 93, 94, 95] (by decide +kernel) (by decide +kernel)
set_option maxRecDepth 20000 in
theorem gX9_loom_X9_takeClause : GoodIn wsX9_loom (wsV RX9 116 RX9 yX9_takeClause wsX9_takeClause) := goodIn_app (goodIn_of _ (by decide +kernel)) ggX9_loom_X9_takeClause
set_option maxRecDepth 20000 in
theorem ggX9_loom_X9_want : GoodIn wsX9_loom wsX9_want := goodIn_r _ [23, 2, 3, 69, 70, 71, 72, 73, 74, 75, 76, 77, 78, 79, 80, 81, 82, 83, 84, 85, 86, 87, 88, 89, 90, 91, 92, 93, 94, 95] (by decide +kernel) (by decide +kernel)
set_option maxRecDepth 20000 in
theorem gX9_loom_X9_want : GoodIn wsX9_loom (wsV RX9 82 RX9 yX9_want wsX9_want) := goodIn_app (goodIn_of _ (by decide +kernel)) ggX9_loom_X9_want
set_option maxRecDepth 20000 in
theorem ggX9_loom_X9_take : GoodIn wsX9_loom wsX9_take := goodIn_r _ [61, 4, 62, 5, 9, 6, 63, 64, 47, 48, 53, 7, 65, 66, 67, 68, 69, 70, 71, 72, 73, 74, 75, 76, 77, 78, 79, 80, 81, 82, 83, 84, 85, 86, 87, 88, 89, 90, 91, 92, 93, 94, 95] (by decide +kernel) (by decide +kernel)
set_option maxRecDepth 20000 in
theorem gX9_loom_X9_take : GoodIn wsX9_loom (wsV RX9 119 RX9 yX9_take wsX9_take) := goodIn_app (goodIn_of _ (by decide +kernel)) ggX9_loom_X9_take
theorem dX9_loom_0 : decode cX9_loom 0 = .ok (.aload_n 0, 1) := by decide +kernel
theorem dX9_loom_1 : decode cX9_loom 1 = .ok (.iconst 0, 1) := by decide +kernel
theorem dX9_loom_2 : decode cX9_loom 2 = .ok (.putfield 65, 3) := by decide +kernel
theorem dX9_loom_5 : decode cX9_loom 5 = .ok (.aload_n 0, 1) := by decide +kernel
theorem dX9_loom_6 : decode cX9_loom 6 = .ok (.iconst 0, 1) := by decide +kernel
theorem dX9_loom_7 : decode cX9_loom 7 = .ok (.putfield 68, 3) := by decide +kernel
theorem dX9_loom_10 : decode cX9_loom 10 = .ok (.aload_n 0, 1) := by decide +kernel
theorem dX9_loom_11 : decode cX9_loom 11 = .ok (.iconst (-1), 1) := by decide +kernel
theorem dX9_loom_12 : decode cX9_loom 12 = .ok (.putfield 32, 3) := by decide +kernel
theorem dX9_loom_15 : decode cX9_loom 15 = .ok (.aload_n 0, 1) := by decide +kernel
theorem dX9_loom_16 : decode cX9_loom 16 = .ok (.iconst 0, 1) := by decide +kernel
theorem dX9_loom_17 : decode cX9_loom 17 = .ok (.putfield 90, 3) := by decide +kernel
theorem dX9_loom_20 : decode cX9_loom 20 = .ok (.aload_n 0, 1) := by decide +kernel
theorem dX9_loom_21 : decode cX9_loom 21 = .ok (.iconst 0, 1) := by decide +kernel
theorem dX9_loom_22 : decode cX9_loom 22 = .ok (.putfield 97, 3) := by decide +kernel
theorem dX9_loom_25 : decode cX9_loom 25 = .ok (.aload_n 0, 1) := by decide +kernel
theorem dX9_loom_26 : decode cX9_loom 26 = .ok (.iconst 0, 1) := by decide +kernel
theorem dX9_loom_27 : decode cX9_loom 27 = .ok (.putfield 100, 3) := by decide +kernel
theorem dX9_loom_30 : decode cX9_loom 30 = .ok (.iconst 0, 1) := by decide +kernel
theorem dX9_loom_31 : decode cX9_loom 31 = .ok (.istore_n 1, 1) := by decide +kernel
theorem dX9_loom_32 : decode cX9_loom 32 = .ok (.iload_n 1, 1) := by decide +kernel
theorem dX9_loom_33 : decode cX9_loom 33 = .ok (.bipush 8, 2) := by decide +kernel
theorem dX9_loom_35 : decode cX9_loom 35 = .ok (.if_icmp .ge 18, 3) := by decide +kernel
theorem dX9_loom_38 : decode cX9_loom 38 = .ok (.aload_n 0, 1) := by decide +kernel
theorem dX9_loom_39 : decode cX9_loom 39 = .ok (.getfield 26, 3) := by decide +kernel
theorem dX9_loom_42 : decode cX9_loom 42 = .ok (.iload_n 1, 1) := by decide +kernel
theorem dX9_loom_43 : decode cX9_loom 43 = .ok (.sipush 500, 3) := by decide +kernel
theorem dX9_loom_46 : decode cX9_loom 46 = .ok (.iastore, 1) := by decide +kernel
theorem dX9_loom_47 : decode cX9_loom 47 = .ok (.iinc 1 1, 3) := by decide +kernel
theorem dX9_loom_50 : decode cX9_loom 50 = .ok (.goto (-18), 3) := by decide +kernel
theorem dX9_loom_53 : decode cX9_loom 53 = .ok (.aload_n 0, 1) := by decide +kernel
theorem dX9_loom_54 : decode cX9_loom 54 = .ok (.getfield 68, 3) := by decide +kernel
theorem dX9_loom_57 : decode cX9_loom 57 = .ok (.ifCond .ne 60, 3) := by decide +kernel
theorem dX9_loom_60 : decode cX9_loom 60 = .ok (.aload_n 0, 1) := by decide +kernel
theorem dX9_loom_61 : decode cX9_loom 61 = .ok (.invokevirtual 71, 3) := by decide +kernel
theorem dX9_loom_64 : decode cX9_loom 64 = .ok (.ifCond .lt 53, 3) := by decide +kernel
theorem dX9_loom_67 : decode cX9_loom 67 = .ok (.aload_n 0, 1) := by decide +kernel
theorem dX9_loom_68 : decode cX9_loom 68 = .ok (.invokevirtual 116, 3) := by decide +kernel
theorem dX9_loom_71 : decode cX9_loom 71 = .ok (.aload_n 0, 1) := by decide +kernel
theorem dX9_loom_72 : decode cX9_loom 72 = .ok (.getfield 68, 3) := by decide +kernel
theorem dX9_loom_75 : decode cX9_loom 75 = .ok (.ifCond .ne (-22), 3) := by decide +kernel
theorem dX9_loom_78 : decode cX9_loom 78 = .ok (.aload_n 0, 1) := by decide +kernel
theorem dX9_loom_79 : decode cX9_loom 79 = .ok (.aload_n 0, 1) := by decide +kernel
theorem dX9_loom_80 : decode cX9_loom 80 = .ok (.invokevirtual 71, 3) := by decide +kernel
theorem dX9_loom_83 : decode cX9_loom 83 = .ok (.bipush 59, 2) := by decide +kernel
theorem dX9_loom_85 : decode cX9_loom 85 = .ok (.if_icmp .ne 7, 3) := by decide +kernel
theorem dX9_loom_88 : decode cX9_loom 88 = .ok (.iconst 1, 1) := by decide +kernel
theorem dX9_loom_89 : decode cX9_loom 89 = .ok (.goto 4, 3) := by decide +kernel
theorem dX9_loom_92 : decode cX9_loom 92 = .ok (.iconst 0, 1) := by decide +kernel
theorem dX9_loom_93 : decode cX9_loom 93 = .ok (.iconst 1, 1) := by decide +kernel
theorem dX9_loom_94 : decode cX9_loom 94 = .ok (.aload_n 0, 1) := by decide +kernel
theorem dX9_loom_95 : decode cX9_loom 95 = .ok (.getfield 65, 3) := by decide +kernel
theorem dX9_loom_98 : decode cX9_loom 98 = .ok (.invokevirtual 82, 3) := by decide +kernel
theorem dX9_loom_101 : decode cX9_loom 101 = .ok (.ifCond .eq (-48), 3) := by decide +kernel
theorem dX9_loom_104 : decode cX9_loom 104 = .ok (.aload_n 0, 1) := by decide +kernel
theorem dX9_loom_105 : decode cX9_loom 105 = .ok (.dup, 1) := by decide +kernel
theorem dX9_loom_106 : decode cX9_loom 106 = .ok (.getfield 65, 3) := by decide +kernel
theorem dX9_loom_109 : decode cX9_loom 109 = .ok (.iconst 1, 1) := by decide +kernel
theorem dX9_loom_110 : decode cX9_loom 110 = .ok (.iadd, 1) := by decide +kernel
theorem dX9_loom_111 : decode cX9_loom 111 = .ok (.putfield 65, 3) := by decide +kernel
theorem dX9_loom_114 : decode cX9_loom 114 = .ok (.goto (-61), 3) := by decide +kernel
theorem dX9_loom_117 : decode cX9_loom 117 = .ok (.aload_n 0, 1) := by decide +kernel
theorem dX9_loom_118 : decode cX9_loom 118 = .ok (.iconst 0, 1) := by decide +kernel
theorem dX9_loom_119 : decode cX9_loom 119 = .ok (.putfield 61, 3) := by decide +kernel
theorem dX9_loom_122 : decode cX9_loom 122 = .ok (.aload_n 0, 1) := by decide +kernel
theorem dX9_loom_123 : decode cX9_loom 123 = .ok (.getfield 68, 3) := by decide +kernel
theorem dX9_loom_126 : decode cX9_loom 126 = .ok (.ifCond .le 11, 3) := by decide +kernel
theorem dX9_loom_129 : decode cX9_loom 129 = .ok (.bipush (-10), 2) := by decide +kernel
theorem dX9_loom_131 : decode cX9_loom 131 = .ok (.aload_n 0, 1) := by decide +kernel
theorem dX9_loom_132 : decode cX9_loom 132 = .ok (.getfield 68, 3) := by decide +kernel
theorem dX9_loom_135 : decode cX9_loom 135 = .ok (.isub, 1) := by decide +kernel
theorem dX9_loom_136 : decode cX9_loom 136 = .ok (.ireturn, 1) := by decide +kernel
theorem dX9_loom_137 : decode cX9_loom 137 = .ok (.aload_n 0, 1) := by decide +kernel
theorem dX9_loom_138 : decode cX9_loom 138 = .ok (.invokevirtual 119, 3) := by decide +kernel
theorem dX9_loom_141 : decode cX9_loom 141 = .ok (.aload_n 0, 1) := by decide +kernel
theorem dX9_loom_142 : decode cX9_loom 142 = .ok (.getfield 122, 3) := by decide +kernel
theorem dX9_loom_145 : decode cX9_loom 145 = .ok (.ireturn, 1) := by decide +kernel
theorem dX9_take_0 : decode cX9_take 0 = .ok (.aload_n 0, 1) := by decide +kernel
theorem dX9_take_1 : decode cX9_take 1 = .ok (.aload_n 0, 1) := by decide +kernel
theorem dX9_take_2 : decode cX9_take 2 = .ok (.getfield 90, 3) := by decide +kernel
theorem dX9_take_5 : decode cX9_take 5 = .ok (.putfield 125, 3) := by decide +kernel
theorem dX9_take_8 : decode cX9_take 8 = .ok (.aload_n 0, 1) := by decide +kernel
theorem dX9_take_9 : decode cX9_take 9 = .ok (.aload_n 0, 1) := by decide +kernel
theorem dX9_take_10 : decode cX9_take 10 = .ok (.getfield 97, 3) := by decide +kernel
theorem dX9_take_13 : decode cX9_take 13 = .ok (.putfield 122, 3) := by decide +kernel
theorem dX9_take_16 : decode cX9_take 16 = .ok (.aload_n 0, 1) := by decide +kernel
theorem dX9_take_17 : decode cX9_take 17 = .ok (.aload_n 0, 1) := by decide +kernel
theorem dX9_take_18 : decode cX9_take 18 = .ok (.getfield 100, 3) := by decide +kernel
theorem dX9_take_21 : decode cX9_take 21 = .ok (.putfield 128, 3) := by decide +kernel
theorem dX9_take_24 : decode cX9_take 24 = .ok (.aload_n 0, 1) := by decide +kernel
theorem dX9_take_25 : decode cX9_take 25 = .ok (.getfield 7, 3) := by decide +kernel
theorem dX9_take_28 : decode cX9_take 28 = .ok (.sipush 242, 3) := by decide +kernel
theorem dX9_take_31 : decode cX9_take 31 = .ok (.iaload, 1) := by decide +kernel
theorem dX9_take_32 : decode cX9_take 32 = .ok (.istore_n 1, 1) := by decide +kernel
theorem dX9_take_33 : decode cX9_take 33 = .ok (.iconst 0, 1) := by decide +kernel
theorem dX9_take_34 : decode cX9_take 34 = .ok (.istore_n 2, 1) := by decide +kernel
theorem dX9_take_35 : decode cX9_take 35 = .ok (.iload_n 2, 1) := by decide +kernel
theorem dX9_take_36 : decode cX9_take 36 = .ok (.sipush 243, 3) := by decide +kernel
theorem dX9_take_39 : decode cX9_take 39 = .ok (.if_icmp .ge 16, 3) := by decide +kernel
theorem dX9_take_42 : decode cX9_take 42 = .ok (.aload_n 0, 1) := by decide +kernel
theorem dX9_take_43 : decode cX9_take 43 = .ok (.getfield 7, 3) := by decide +kernel
theorem dX9_take_46 : decode cX9_take 46 = .ok (.iload_n 2, 1) := by decide +kernel
theorem dX9_take_47 : decode cX9_take 47 = .ok (.iconst 0, 1) := by decide +kernel
theorem dX9_take_48 : decode cX9_take 48 = .ok (.iastore, 1) := by decide +kernel
theorem dX9_take_49 : decode cX9_take 49 = .ok (.iinc 2 1, 3) := by decide +kernel
theorem dX9_take_52 : decode cX9_take 52 = .ok (.goto (-17), 3) := by decide +kernel
theorem dX9_take_55 : decode cX9_take 55 = .ok (.aload_n 0, 1) := by decide +kernel
theorem dX9_take_56 : decode cX9_take 56 = .ok (.getfield 7, 3) := by decide +kernel
theorem dX9_take_59 : decode cX9_take 59 = .ok (.sipush 242, 3) := by decide +kernel
theorem dX9_take_62 : decode cX9_take 62 = .ok (.iload_n 1, 1) := by decide +kernel
theorem dX9_take_63 : decode cX9_take 63 = .ok (.iastore, 1) := by decide +kernel
theorem dX9_take_64 : decode cX9_take 64 = .ok (.iconst 0, 1) := by decide +kernel
theorem dX9_take_65 : decode cX9_take 65 = .ok (.istore_n 2, 1) := by decide +kernel
theorem dX9_take_66 : decode cX9_take 66 = .ok (.iload_n 2, 1) := by decide +kernel
theorem dX9_take_67 : decode cX9_take 67 = .ok (.bipush 32, 2) := by decide +kernel
theorem dX9_take_69 : decode cX9_take 69 = .ok (.if_icmp .ge 24, 3) := by decide +kernel
theorem dX9_take_72 : decode cX9_take 72 = .ok (.aload_n 0, 1) := by decide +kernel
theorem dX9_take_73 : decode cX9_take 73 = .ok (.getfield 17, 3) := by decide +kernel
theorem dX9_take_76 : decode cX9_take 76 = .ok (.iload_n 2, 1) := by decide +kernel
theorem dX9_take_77 : decode cX9_take 77 = .ok (.aload_n 0, 1) := by decide +kernel
theorem dX9_take_78 : decode cX9_take 78 = .ok (.getfield 17, 3) := by decide +kernel
theorem dX9_take_81 : decode cX9_take 81 = .ok (.bipush 32, 2) := by decide +kernel
theorem dX9_take_83 : decode cX9_take 83 = .ok (.iload_n 2, 1) := by decide +kernel
theorem dX9_take_84 : decode cX9_take 84 = .ok (.iadd, 1) := by decide +kernel
theorem dX9_take_85 : decode cX9_take 85 = .ok (.iaload, 1) := by decide +kernel
theorem dX9_take_86 : decode cX9_take 86 = .ok (.iastore, 1) := by decide +kernel
theorem dX9_take_87 : decode cX9_take 87 = .ok (.iinc 2 1, 3) := by decide +kernel
theorem dX9_take_90 : decode cX9_take 90 = .ok (.goto (-24), 3) := by decide +kernel
theorem dX9_take_93 : decode cX9_take 93 = .ok (.iconst 0, 1) := by decide +kernel
theorem dX9_take_94 : decode cX9_take 94 = .ok (.istore_n 2, 1) := by decide +kernel
theorem dX9_take_95 : decode cX9_take 95 = .ok (.iload_n 2, 1) := by decide +kernel
theorem dX9_take_96 : decode cX9_take 96 = .ok (.bipush 8, 2) := by decide +kernel
theorem dX9_take_98 : decode cX9_take 98 = .ok (.if_icmp .ge 71, 3) := by decide +kernel
theorem dX9_take_101 : decode cX9_take 101 = .ok (.aload_n 0, 1) := by decide +kernel
theorem dX9_take_102 : decode cX9_take 102 = .ok (.getfield 20, 3) := by decide +kernel
theorem dX9_take_105 : decode cX9_take 105 = .ok (.iload_n 2, 1) := by decide +kernel
theorem dX9_take_106 : decode cX9_take 106 = .ok (.aload_n 0, 1) := by decide +kernel
theorem dX9_take_107 : decode cX9_take 107 = .ok (.getfield 20, 3) := by decide +kernel
theorem dX9_take_110 : decode cX9_take 110 = .ok (.bipush 8, 2) := by decide +kernel
theorem dX9_take_112 : decode cX9_take 112 = .ok (.iload_n 2, 1) := by decide +kernel
theorem dX9_take_113 : decode cX9_take 113 = .ok (.iadd, 1) := by decide +kernel
theorem dX9_take_114 : decode cX9_take 114 = .ok (.iaload, 1) := by decide +kernel
theorem dX9_take_115 : decode cX9_take 115 = .ok (.iastore, 1) := by decide +kernel
theorem dX9_take_116 : decode cX9_take 116 = .ok (.aload_n 0, 1) := by decide +kernel
theorem dX9_take_117 : decode cX9_take 117 = .ok (.getfield 7, 3) := by decide +kernel
theorem dX9_take_120 : decode cX9_take 120 = .ok (.bipush 16, 2) := by decide +kernel
theorem dX9_take_122 : decode cX9_take 122 = .ok (.iload_n 2, 1) := by decide +kernel
theorem dX9_take_123 : decode cX9_take 123 = .ok (.iadd, 1) := by decide +kernel
theorem dX9_take_124 : decode cX9_take 124 = .ok (.iconst (-1), 1) := by decide +kernel
theorem dX9_take_125 : decode cX9_take 125 = .ok (.iastore, 1) := by decide +kernel
theorem dX9_take_126 : decode cX9_take 126 = .ok (.aload_n 0, 1) := by decide +kernel
theorem dX9_take_127 : decode cX9_take 127 = .ok (.getfield 7, 3) := by decide +kernel
theorem dX9_take_130 : decode cX9_take 130 = .ok (.bipush 24, 2) := by decide +kernel
theorem dX9_take_132 : decode cX9_take 132 = .ok (.iload_n 2, 1) := by decide +kernel
theorem dX9_take_133 : decode cX9_take 133 = .ok (.iadd, 1) := by decide +kernel
theorem dX9_take_134 : decode cX9_take 134 = .ok (.iconst (-1), 1) := by decide +kernel
theorem dX9_take_135 : decode cX9_take 135 = .ok (.iastore, 1) := by decide +kernel
theorem dX9_take_136 : decode cX9_take 136 = .ok (.aload_n 0, 1) := by decide +kernel
theorem dX9_take_137 : decode cX9_take 137 = .ok (.getfield 7, 3) := by decide +kernel
theorem dX9_take_140 : decode cX9_take 140 = .ok (.bipush 32, 2) := by decide +kernel
theorem dX9_take_142 : decode cX9_take 142 = .ok (.iload_n 2, 1) := by decide +kernel
theorem dX9_take_143 : decode cX9_take 143 = .ok (.iadd, 1) := by decide +kernel
theorem dX9_take_144 : decode cX9_take 144 = .ok (.iload_n 2, 1) := by decide +kernel
theorem dX9_take_145 : decode cX9_take 145 = .ok (.aload_n 0, 1) := by decide +kernel
theorem dX9_take_146 : decode cX9_take 146 = .ok (.getfield 122, 3) := by decide +kernel
theorem dX9_take_149 : decode cX9_take 149 = .ok (.if_icmp .ge 12, 3) := by decide +kernel
theorem dX9_take_152 : decode cX9_take 152 = .ok (.aload_n 0, 1) := by decide +kernel
theorem dX9_take_153 : decode cX9_take 153 = .ok (.getfield 20, 3) := by decide +kernel
theorem dX9_take_156 : decode cX9_take 156 = .ok (.iload_n 2, 1) := by decide +kernel
theorem dX9_take_157 : decode cX9_take 157 = .ok (.iaload, 1) := by decide +kernel
theorem dX9_take_158 : decode cX9_take 158 = .ok (.goto 4, 3) := by decide +kernel
theorem dX9_take_161 : decode cX9_take 161 = .ok (.iconst 0, 1) := by decide +kernel
theorem dX9_take_162 : decode cX9_take 162 = .ok (.iastore, 1) := by decide +kernel
theorem dX9_take_163 : decode cX9_take 163 = .ok (.iinc 2 1, 3) := by decide +kernel
theorem dX9_take_166 : decode cX9_take 166 = .ok (.goto (-71), 3) := by decide +kernel
theorem dX9_take_169 : decode cX9_take 169 = .ok (.iconst 0, 1) := by decide +kernel
theorem dX9_take_170 : decode cX9_take 170 = .ok (.istore_n 2, 1) := by decide +kernel
theorem dX9_take_171 : decode cX9_take 171 = .ok (.iload_n 2, 1) := by decide +kernel
theorem dX9_take_172 : decode cX9_take 172 = .ok (.iconst 4, 1) := by decide +kernel
theorem dX9_take_173 : decode cX9_take 173 = .ok (.if_icmp .ge 35, 3) := by decide +kernel
theorem dX9_take_176 : decode cX9_take 176 = .ok (.aload_n 0, 1) := by decide +kernel
theorem dX9_take_177 : decode cX9_take 177 = .ok (.getfield 23, 3) := by decide +kernel
theorem dX9_take_180 : decode cX9_take 180 = .ok (.iload_n 2, 1) := by decide +kernel
theorem dX9_take_181 : decode cX9_take 181 = .ok (.iload_n 2, 1) := by decide +kernel
theorem dX9_take_182 : decode cX9_take 182 = .ok (.aload_n 0, 1) := by decide +kernel
theorem dX9_take_183 : decode cX9_take 183 = .ok (.getfield 128, 3) := by decide +kernel
theorem dX9_take_186 : decode cX9_take 186 = .ok (.if_icmp .ge 14, 3) := by decide +kernel
theorem dX9_take_189 : decode cX9_take 189 = .ok (.aload_n 0, 1) := by decide +kernel
theorem dX9_take_190 : decode cX9_take 190 = .ok (.getfield 23, 3) := by decide +kernel
theorem dX9_take_193 : decode cX9_take 193 = .ok (.iconst 4, 1) := by decide +kernel
theorem dX9_take_194 : decode cX9_take 194 = .ok (.iload_n 2, 1) := by decide +kernel
theorem dX9_take_195 : decode cX9_take 195 = .ok (.iadd, 1) := by decide +kernel
theorem dX9_take_196 : decode cX9_take 196 = .ok (.iaload, 1) := by decide +kernel
theorem dX9_take_197 : decode cX9_take 197 = .ok (.goto 4, 3) := by decide +kernel
theorem dX9_take_200 : decode cX9_take 200 = .ok (.iconst 0, 1) := by decide +kernel
theorem dX9_take_201 : decode cX9_take 201 = .ok (.iastore, 1) := by decide +kernel
theorem dX9_take_202 : decode cX9_take 202 = .ok (.iinc 2 1, 3) := by decide +kernel
theorem dX9_take_205 : decode cX9_take 205 = .ok (.goto (-34), 3) := by decide +kernel
theorem dX9_take_208 : decode cX9_take 208 = .ok (.iconst 0, 1) := by decide +kernel
theorem dX9_take_209 : decode cX9_take 209 = .ok (.istore_n 2, 1) := by decide +kernel
theorem dX9_take_210 : decode cX9_take 210 = .ok (.iload_n 2, 1) := by decide +kernel
theorem dX9_take_211 : decode cX9_take 211 = .ok (.bipush 8, 2) := by decide +kernel
theorem dX9_take_213 : decode cX9_take 213 = .ok (.if_icmp .ge 36, 3) := by decide +kernel
theorem dX9_take_216 : decode cX9_take 216 = .ok (.aload_n 0, 1) := by decide +kernel
theorem dX9_take_217 : decode cX9_take 217 = .ok (.getfield 7, 3) := by decide +kernel
theorem dX9_take_220 : decode cX9_take 220 = .ok (.bipush 40, 2) := by decide +kernel
theorem dX9_take_222 : decode cX9_take 222 = .ok (.iload_n 2, 1) := by decide +kernel
theorem dX9_take_223 : decode cX9_take 223 = .ok (.iadd, 1) := by decide +kernel
theorem dX9_take_224 : decode cX9_take 224 = .ok (.iload_n 2, 1) := by decide +kernel
theorem dX9_take_225 : decode cX9_take 225 = .ok (.aload_n 0, 1) := by decide +kernel
theorem dX9_take_226 : decode cX9_take 226 = .ok (.getfield 125, 3) := by decide +kernel
theorem dX9_take_229 : decode cX9_take 229 = .ok (.if_icmp .ge 12, 3) := by decide +kernel
theorem dX9_take_232 : decode cX9_take 232 = .ok (.aload_n 0, 1) := by decide +kernel
theorem dX9_take_233 : decode cX9_take 233 = .ok (.getfield 26, 3) := by decide +kernel
theorem dX9_take_236 : decode cX9_take 236 = .ok (.iload_n 2, 1) := by decide +kernel
theorem dX9_take_237 : decode cX9_take 237 = .ok (.iaload, 1) := by decide +kernel
theorem dX9_take_238 : decode cX9_take 238 = .ok (.goto 4, 3) := by decide +kernel
theorem dX9_take_241 : decode cX9_take 241 = .ok (.iconst 0, 1) := by decide +kernel
theorem dX9_take_242 : decode cX9_take 242 = .ok (.iastore, 1) := by decide +kernel
theorem dX9_take_243 : decode cX9_take 243 = .ok (.iinc 2 1, 3) := by decide +kernel
theorem dX9_take_246 : decode cX9_take 246 = .ok (.goto (-36), 3) := by decide +kernel
theorem dX9_take_249 : decode cX9_take 249 = .ok (.aload_n 0, 1) := by decide +kernel
theorem dX9_take_250 : decode cX9_take 250 = .ok (.iconst 0, 1) := by decide +kernel
theorem dX9_take_251 : decode cX9_take 251 = .ok (.putfield 131, 3) := by decide +kernel
theorem dX9_take_254 : decode cX9_take 254 = .ok (.aload_n 0, 1) := by decide +kernel
theorem dX9_take_255 : decode cX9_take 255 = .ok (.iconst 0, 1) := by decide +kernel
theorem dX9_take_256 : decode cX9_take 256 = .ok (.putfield 134, 3) := by decide +kernel
theorem dX9_take_259 : decode cX9_take 259 = .ok (.aload_n 0, 1) := by decide +kernel
theorem dX9_take_260 : decode cX9_take 260 = .ok (.iconst 0, 1) := by decide +kernel
theorem dX9_take_261 : decode cX9_take 261 = .ok (.putfield 137, 3) := by decide +kernel
theorem dX9_take_264 : decode cX9_take 264 = .ok (.aload_n 0, 1) := by decide +kernel
theorem dX9_take_265 : decode cX9_take 265 = .ok (.getfield 13, 3) := by decide +kernel
theorem dX9_take_268 : decode cX9_take 268 = .ok (.iconst 0, 1) := by decide +kernel
theorem dX9_take_269 : decode cX9_take 269 = .ok (.iconst 0, 1) := by decide +kernel
theorem dX9_take_270 : decode cX9_take 270 = .ok (.bastore, 1) := by decide +kernel
theorem dX9_take_271 : decode cX9_take 271 = .ok (.aload_n 0, 1) := by decide +kernel
theorem dX9_take_272 : decode cX9_take 272 = .ok (.getfield 13, 3) := by decide +kernel
theorem dX9_take_275 : decode cX9_take 275 = .ok (.iconst 1, 1) := by decide +kernel
theorem dX9_take_276 : decode cX9_take 276 = .ok (.iconst 0, 1) := by decide +kernel
theorem dX9_take_277 : decode cX9_take 277 = .ok (.bastore, 1) := by decide +kernel
theorem dX9_take_278 : decode cX9_take 278 = .ok (.return_, 1) := by decide +kernel
theorem dX9_fault_0 : decode cX9_fault 0 = .ok (.aload_n 0, 1) := by decide +kernel
theorem dX9_fault_1 : decode cX9_fault 1 = .ok (.getfield 32, 3) := by decide +kernel
theorem dX9_fault_4 : decode cX9_fault 4 = .ok (.ireturn, 1) := by decide +kernel
set_option maxRecDepth 20000 in
theorem ggX9_isCard_X9_in : GoodIn wsX9_isCard wsX9_in := goodIn_r _ [5] (by decide +kernel) (by decide +kernel)
set_option maxRecDepth 20000 in
theorem gX9_isCard_X9_in : GoodIn wsX9_isCard (va_wsS RX9 56 yX9_in wsX9_in) := goodIn_app (goodIn_of _ (by decide +kernel)) ggX9_isCard_X9_in
theorem dX9_isCard_0 : decode cX9_isCard 0 = .ok (.iload_n 1, 1) := by decide +kernel
theorem dX9_isCard_1 : decode cX9_isCard 1 = .ok (.i2l, 1) := by decide +kernel
theorem dX9_isCard_2 : decode cX9_isCard 2 = .ok (.lconst 0, 1) := by decide +kernel
theorem dX9_isCard_3 : decode cX9_isCard 3 = .ok (.aload_n 0, 1) := by decide +kernel
theorem dX9_isCard_4 : decode cX9_isCard 4 = .ok (.getfield 122, 3) := by decide +kernel
theorem dX9_isCard_7 : decode cX9_isCard 7 = .ok (.iconst 1, 1) := by decide +kernel
theorem dX9_isCard_8 : decode cX9_isCard 8 = .ok (.isub, 1) := by decide +kernel
theorem dX9_isCard_9 : decode cX9_isCard 9 = .ok (.i2l, 1) := by decide +kernel
theorem dX9_isCard_10 : decode cX9_isCard 10 = .ok (.invokestatic 56, 3) := by decide +kernel
theorem dX9_isCard_13 : decode cX9_isCard 13 = .ok (.ireturn, 1) := by decide +kernel
set_option maxRecDepth 20000 in
theorem ggX9_isColour_X9_in : GoodIn wsX9_isColour wsX9_in := goodIn_r _ [5] (by decide +kernel) (by decide +kernel)
set_option maxRecDepth 20000 in
theorem gX9_isColour_X9_in : GoodIn wsX9_isColour (va_wsS RX9 56 yX9_in wsX9_in) := goodIn_app (goodIn_of _ (by decide +kernel)) ggX9_isColour_X9_in
theorem dX9_isColour_0 : decode cX9_isColour 0 = .ok (.iload_n 1, 1) := by decide +kernel
theorem dX9_isColour_1 : decode cX9_isColour 1 = .ok (.i2l, 1) := by decide +kernel
theorem dX9_isColour_2 : decode cX9_isColour 2 = .ok (.lconst 0, 1) := by decide +kernel
theorem dX9_isColour_3 : decode cX9_isColour 3 = .ok (.aload_n 0, 1) := by decide +kernel
theorem dX9_isColour_4 : decode cX9_isColour 4 = .ok (.getfield 125, 3) := by decide +kernel
theorem dX9_isColour_7 : decode cX9_isColour 7 = .ok (.iconst 1, 1) := by decide +kernel
theorem dX9_isColour_8 : decode cX9_isColour 8 = .ok (.isub, 1) := by decide +kernel
theorem dX9_isColour_9 : decode cX9_isColour 9 = .ok (.i2l, 1) := by decide +kernel
theorem dX9_isColour_10 : decode cX9_isColour 10 = .ok (.invokestatic 56, 3) := by decide +kernel
theorem dX9_isColour_13 : decode cX9_isColour 13 = .ok (.ireturn, 1) := by decide +kernel
theorem dX9_isLoom_0 : decode cX9_isLoom 0 = .ok (.aload_n 0, 1) := by decide +kernel
theorem dX9_isLoom_1 : decode cX9_isLoom 1 = .ok (.getfield 125, 3) := by decide +kernel
theorem dX9_isLoom_4 : decode cX9_isLoom 4 = .ok (.ifCond .le 7, 3) := by decide +kernel
theorem dX9_isLoom_7 : decode cX9_isLoom 7 = .ok (.iconst 1, 1) := by decide +kernel
theorem dX9_isLoom_8 : decode cX9_isLoom 8 = .ok (.goto 4, 3) := by decide +kernel
theorem dX9_isLoom_11 : decode cX9_isLoom 11 = .ok (.iconst 0, 1) := by decide +kernel
theorem dX9_isLoom_12 : decode cX9_isLoom 12 = .ok (.ireturn, 1) := by decide +kernel
theorem dX9_colourOf_0 : decode cX9_colourOf 0 = .ok (.aload_n 0, 1) := by decide +kernel
theorem dX9_colourOf_1 : decode cX9_colourOf 1 = .ok (.getfield 17, 3) := by decide +kernel
theorem dX9_colourOf_4 : decode cX9_colourOf 4 = .ok (.iconst 4, 1) := by decide +kernel
theorem dX9_colourOf_5 : decode cX9_colourOf 5 = .ok (.iload_n 1, 1) := by decide +kernel
theorem dX9_colourOf_6 : decode cX9_colourOf 6 = .ok (.imul, 1) := by decide +kernel
theorem dX9_colourOf_7 : decode cX9_colourOf 7 = .ok (.iload_n 2, 1) := by decide +kernel
theorem dX9_colourOf_8 : decode cX9_colourOf 8 = .ok (.iconst 3, 1) := by decide +kernel
theorem dX9_colourOf_9 : decode cX9_colourOf 9 = .ok (.iand, 1) := by decide +kernel
theorem dX9_colourOf_10 : decode cX9_colourOf 10 = .ok (.iadd, 1) := by decide +kernel
theorem dX9_colourOf_11 : decode cX9_colourOf 11 = .ok (.iaload, 1) := by decide +kernel
theorem dX9_colourOf_12 : decode cX9_colourOf 12 = .ok (.ireturn, 1) := by decide +kernel
set_option maxRecDepth 20000 in
theorem ggX9_packOf_X9_has : GoodIn wsX9_packOf wsX9_has := goodIn_r _ [6] (by decide +kernel) (by decide +kernel)
set_option maxRecDepth 20000 in
theorem gX9_packOf_X9_has : GoodIn wsX9_packOf (va_wsS RX9 140 yX9_has wsX9_has) := goodIn_app (goodIn_of _ (by decide +kernel)) ggX9_packOf_X9_has
theorem dX9_packOf_0 : decode cX9_packOf 0 = .ok (.iconst (-1), 1) := by decide +kernel
theorem dX9_packOf_1 : decode cX9_packOf 1 = .ok (.istore_n 2, 1) := by decide +kernel
theorem dX9_packOf_2 : decode cX9_packOf 2 = .ok (.iconst 0, 1) := by decide +kernel
theorem dX9_packOf_3 : decode cX9_packOf 3 = .ok (.istore_n 3, 1) := by decide +kernel
theorem dX9_packOf_4 : decode cX9_packOf 4 = .ok (.iload_n 3, 1) := by decide +kernel
theorem dX9_packOf_5 : decode cX9_packOf 5 = .ok (.aload_n 0, 1) := by decide +kernel
theorem dX9_packOf_6 : decode cX9_packOf 6 = .ok (.getfield 128, 3) := by decide +kernel
theorem dX9_packOf_9 : decode cX9_packOf 9 = .ok (.if_icmp .ge 28, 3) := by decide +kernel
theorem dX9_packOf_12 : decode cX9_packOf 12 = .ok (.aload_n 0, 1) := by decide +kernel
theorem dX9_packOf_13 : decode cX9_packOf 13 = .ok (.getfield 23, 3) := by decide +kernel
theorem dX9_packOf_16 : decode cX9_packOf 16 = .ok (.iload_n 3, 1) := by decide +kernel
theorem dX9_packOf_17 : decode cX9_packOf 17 = .ok (.iaload, 1) := by decide +kernel
theorem dX9_packOf_18 : decode cX9_packOf 18 = .ok (.iload_n 1, 1) := by decide +kernel
theorem dX9_packOf_19 : decode cX9_packOf 19 = .ok (.invokestatic 140, 3) := by decide +kernel
theorem dX9_packOf_22 : decode cX9_packOf 22 = .ok (.ifCond .eq 7, 3) := by decide +kernel
theorem dX9_packOf_25 : decode cX9_packOf 25 = .ok (.iload_n 3, 1) := by decide +kernel
theorem dX9_packOf_26 : decode cX9_packOf 26 = .ok (.goto 4, 3) := by decide +kernel
theorem dX9_packOf_29 : decode cX9_packOf 29 = .ok (.iload_n 2, 1) := by decide +kernel
theorem dX9_packOf_30 : decode cX9_packOf 30 = .ok (.istore_n 2, 1) := by decide +kernel
theorem dX9_packOf_31 : decode cX9_packOf 31 = .ok (.iinc 3 1, 3) := by decide +kernel
theorem dX9_packOf_34 : decode cX9_packOf 34 = .ok (.goto (-30), 3) := by decide +kernel
theorem dX9_packOf_37 : decode cX9_packOf 37 = .ok (.iload_n 2, 1) := by decide +kernel
theorem dX9_packOf_38 : decode cX9_packOf 38 = .ok (.ireturn, 1) := by decide +kernel
theorem dX9_was_0 : decode cX9_was 0 = .ok (.aload_n 0, 1) := by decide +kernel
theorem dX9_was_1 : decode cX9_was 1 = .ok (.getfield 7, 3) := by decide +kernel
theorem dX9_was_4 : decode cX9_was 4 = .ok (.bipush 50, 2) := by decide +kernel
theorem dX9_was_6 : decode cX9_was 6 = .ok (.bipush 8, 2) := by decide +kernel
theorem dX9_was_8 : decode cX9_was 8 = .ok (.aload_n 0, 1) := by decide +kernel
theorem dX9_was_9 : decode cX9_was 9 = .ok (.getfield 7, 3) := by decide +kernel
theorem dX9_was_12 : decode cX9_was 12 = .ok (.bipush 49, 2) := by decide +kernel
theorem dX9_was_14 : decode cX9_was 14 = .ok (.iaload, 1) := by decide +kernel
theorem dX9_was_15 : decode cX9_was 15 = .ok (.iconst 1, 1) := by decide +kernel
theorem dX9_was_16 : decode cX9_was 16 = .ok (.isub, 1) := by decide +kernel
theorem dX9_was_17 : decode cX9_was 17 = .ok (.iload_n 1, 1) := by decide +kernel
theorem dX9_was_18 : decode cX9_was 18 = .ok (.isub, 1) := by decide +kernel
theorem dX9_was_19 : decode cX9_was 19 = .ok (.imul, 1) := by decide +kernel
theorem dX9_was_20 : decode cX9_was 20 = .ok (.iadd, 1) := by decide +kernel
theorem dX9_was_21 : decode cX9_was 21 = .ok (.iload_n 2, 1) := by decide +kernel
theorem dX9_was_22 : decode cX9_was 22 = .ok (.iadd, 1) := by decide +kernel
theorem dX9_was_23 : decode cX9_was 23 = .ok (.iaload, 1) := by decide +kernel
theorem dX9_was_24 : decode cX9_was 24 = .ok (.ireturn, 1) := by decide +kernel
set_option maxRecDepth 20000 in
theorem ggX9_mirrored_X9_was : GoodIn wsX9_mirrored wsX9_was := goodIn_r _ [7, 1, 11, 12, 13, 14, 15, 16, 17, 18, 19, 20, 21, 22, 23, 24, 25, 26, 27, 28, 29, 30, 31, 32, 33, 34, 35, 36, 37] (by decide +kernel) (by decide +kernel)
set_option maxRecDepth 20000 in
theorem gX9_mirrored_X9_was : GoodIn wsX9_mirrored (wsV RX9 144 RX9 yX9_was wsX9_was) := goodIn_app (goodIn_of _ (by decide +kernel)) ggX9_mirrored_X9_was
set_option maxRecDepth 20000 in
theorem ggX9_mirrored_X9_one : GoodIn wsX9_mirrored wsX9_one := goodIn_r _ [10] (by decide +kernel) (by decide +kernel)
set_option maxRecDepth 20000 in
theorem gX9_mirrored_X9_one : GoodIn wsX9_mirrored (va_wsS RX9 147 yX9_one wsX9_one) := goodIn_app (goodIn_of _ (by decide +kernel)) ggX9_mirrored_X9_one
theorem dX9_mirrored_0 : decode cX9_mirrored 0 = .ok (.iconst 0, 1) := by decide +kernel
theorem dX9_mirrored_1 : decode cX9_mirrored 1 = .ok (.istore_n 1, 1) := by decide +kernel
theorem dX9_mirrored_2 : decode cX9_mirrored 2 = .ok (.iconst 0, 1) := by decide +kernel
theorem dX9_mirrored_3 : decode cX9_mirrored 3 = .ok (.istore_n 2, 1) := by decide +kernel
theorem dX9_mirrored_4 : decode cX9_mirrored 4 = .ok (.iload_n 2, 1) := by decide +kernel
theorem dX9_mirrored_5 : decode cX9_mirrored 5 = .ok (.aload_n 0, 1) := by decide +kernel
theorem dX9_mirrored_6 : decode cX9_mirrored 6 = .ok (.getfield 7, 3) := by decide +kernel
theorem dX9_mirrored_9 : decode cX9_mirrored 9 = .ok (.bipush 49, 2) := by decide +kernel
theorem dX9_mirrored_11 : decode cX9_mirrored 11 = .ok (.iaload, 1) := by decide +kernel
theorem dX9_mirrored_12 : decode cX9_mirrored 12 = .ok (.if_icmp .ge 70, 3) := by decide +kernel
theorem dX9_mirrored_15 : decode cX9_mirrored 15 = .ok (.iconst 1, 1) := by decide +kernel
theorem dX9_mirrored_16 : decode cX9_mirrored 16 = .ok (.istore_n 3, 1) := by decide +kernel
theorem dX9_mirrored_17 : decode cX9_mirrored 17 = .ok (.iconst 0, 1) := by decide +kernel
theorem dX9_mirrored_18 : decode cX9_mirrored 18 = .ok (.istore 4, 2) := by decide +kernel
theorem dX9_mirrored_20 : decode cX9_mirrored 20 = .ok (.iload 4, 2) := by decide +kernel
theorem dX9_mirrored_22 : decode cX9_mirrored 22 = .ok (.aload_n 0, 1) := by decide +kernel
theorem dX9_mirrored_23 : decode cX9_mirrored 23 = .ok (.getfield 122, 3) := by decide +kernel
theorem dX9_mirrored_26 : decode cX9_mirrored 26 = .ok (.if_icmp .ge 43, 3) := by decide +kernel
theorem dX9_mirrored_29 : decode cX9_mirrored 29 = .ok (.iload_n 3, 1) := by decide +kernel
theorem dX9_mirrored_30 : decode cX9_mirrored 30 = .ok (.ifCond .eq 31, 3) := by decide +kernel
theorem dX9_mirrored_33 : decode cX9_mirrored 33 = .ok (.aload_n 0, 1) := by decide +kernel
theorem dX9_mirrored_34 : decode cX9_mirrored 34 = .ok (.iload_n 2, 1) := by decide +kernel
theorem dX9_mirrored_35 : decode cX9_mirrored 35 = .ok (.iload 4, 2) := by decide +kernel
theorem dX9_mirrored_37 : decode cX9_mirrored 37 = .ok (.invokevirtual 144, 3) := by decide +kernel
theorem dX9_mirrored_40 : decode cX9_mirrored 40 = .ok (.aload_n 0, 1) := by decide +kernel
theorem dX9_mirrored_41 : decode cX9_mirrored 41 = .ok (.iload_n 2, 1) := by decide +kernel
theorem dX9_mirrored_42 : decode cX9_mirrored 42 = .ok (.aload_n 0, 1) := by decide +kernel
theorem dX9_mirrored_43 : decode cX9_mirrored 43 = .ok (.getfield 122, 3) := by decide +kernel
theorem dX9_mirrored_46 : decode cX9_mirrored 46 = .ok (.iconst 1, 1) := by decide +kernel
theorem dX9_mirrored_47 : decode cX9_mirrored 47 = .ok (.isub, 1) := by decide +kernel
theorem dX9_mirrored_48 : decode cX9_mirrored 48 = .ok (.iload 4, 2) := by decide +kernel
theorem dX9_mirrored_50 : decode cX9_mirrored 50 = .ok (.isub, 1) := by decide +kernel
theorem dX9_mirrored_51 : decode cX9_mirrored 51 = .ok (.invokevirtual 144, 3) := by decide +kernel
theorem dX9_mirrored_54 : decode cX9_mirrored 54 = .ok (.if_icmp .ne 7, 3) := by decide +kernel
theorem dX9_mirrored_57 : decode cX9_mirrored 57 = .ok (.iconst 1, 1) := by decide +kernel
theorem dX9_mirrored_58 : decode cX9_mirrored 58 = .ok (.goto 4, 3) := by decide +kernel
theorem dX9_mirrored_61 : decode cX9_mirrored 61 = .ok (.iconst 0, 1) := by decide +kernel
theorem dX9_mirrored_62 : decode cX9_mirrored 62 = .ok (.istore_n 3, 1) := by decide +kernel
theorem dX9_mirrored_63 : decode cX9_mirrored 63 = .ok (.iinc 4 1, 3) := by decide +kernel
theorem dX9_mirrored_66 : decode cX9_mirrored 66 = .ok (.goto (-46), 3) := by decide +kernel
theorem dX9_mirrored_69 : decode cX9_mirrored 69 = .ok (.iload_n 1, 1) := by decide +kernel
theorem dX9_mirrored_70 : decode cX9_mirrored 70 = .ok (.iload_n 3, 1) := by decide +kernel
theorem dX9_mirrored_71 : decode cX9_mirrored 71 = .ok (.invokestatic 147, 3) := by decide +kernel
theorem dX9_mirrored_74 : decode cX9_mirrored 74 = .ok (.iadd, 1) := by decide +kernel
theorem dX9_mirrored_75 : decode cX9_mirrored 75 = .ok (.istore_n 1, 1) := by decide +kernel
theorem dX9_mirrored_76 : decode cX9_mirrored 76 = .ok (.iinc 2 1, 3) := by decide +kernel
theorem dX9_mirrored_79 : decode cX9_mirrored 79 = .ok (.goto (-75), 3) := by decide +kernel
theorem dX9_mirrored_82 : decode cX9_mirrored 82 = .ok (.iload_n 1, 1) := by decide +kernel
theorem dX9_mirrored_83 : decode cX9_mirrored 83 = .ok (.ireturn, 1) := by decide +kernel
set_option maxRecDepth 20000 in
theorem ggX9_isPeriod_X9_was : GoodIn wsX9_isPeriod wsX9_was := goodIn_r _ [7, 1, 8, 9, 10, 11, 12, 13, 14, 15, 16, 17, 18, 19, 20, 21, 22, 23, 24, 25, 26, 27, 28, 29, 30, 31, 32, 33, 34] (by decide +kernel) (by decide +kernel)
set_option maxRecDepth 20000 in
theorem gX9_isPeriod_X9_was : GoodIn wsX9_isPeriod (wsV RX9 144 RX9 yX9_was wsX9_was) := goodIn_app (goodIn_of _ (by decide +kernel)) ggX9_isPeriod_X9_was
theorem dX9_isPeriod_0 : decode cX9_isPeriod 0 = .ok (.iconst 1, 1) := by decide +kernel
theorem dX9_isPeriod_1 : decode cX9_isPeriod 1 = .ok (.istore_n 2, 1) := by decide +kernel
theorem dX9_isPeriod_2 : decode cX9_isPeriod 2 = .ok (.iconst 0, 1) := by decide +kernel
theorem dX9_isPeriod_3 : decode cX9_isPeriod 3 = .ok (.istore_n 3, 1) := by decide +kernel
theorem dX9_isPeriod_4 : decode cX9_isPeriod 4 = .ok (.iload_n 3, 1) := by decide +kernel
theorem dX9_isPeriod_5 : decode cX9_isPeriod 5 = .ok (.iload_n 1, 1) := by decide +kernel
theorem dX9_isPeriod_6 : decode cX9_isPeriod 6 = .ok (.iadd, 1) := by decide +kernel
theorem dX9_isPeriod_7 : decode cX9_isPeriod 7 = .ok (.aload_n 0, 1) := by decide +kernel
theorem dX9_isPeriod_8 : decode cX9_isPeriod 8 = .ok (.getfield 7, 3) := by decide +kernel
theorem dX9_isPeriod_11 : decode cX9_isPeriod 11 = .ok (.bipush 49, 2) := by decide +kernel
theorem dX9_isPeriod_13 : decode cX9_isPeriod 13 = .ok (.iaload, 1) := by decide +kernel
theorem dX9_isPeriod_14 : decode cX9_isPeriod 14 = .ok (.if_icmp .ge 56, 3) := by decide +kernel
theorem dX9_isPeriod_17 : decode cX9_isPeriod 17 = .ok (.iconst 0, 1) := by decide +kernel
theorem dX9_isPeriod_18 : decode cX9_isPeriod 18 = .ok (.istore 4, 2) := by decide +kernel
theorem dX9_isPeriod_20 : decode cX9_isPeriod 20 = .ok (.iload 4, 2) := by decide +kernel
theorem dX9_isPeriod_22 : decode cX9_isPeriod 22 = .ok (.aload_n 0, 1) := by decide +kernel
theorem dX9_isPeriod_23 : decode cX9_isPeriod 23 = .ok (.getfield 122, 3) := by decide +kernel
theorem dX9_isPeriod_26 : decode cX9_isPeriod 26 = .ok (.if_icmp .ge 38, 3) := by decide +kernel
theorem dX9_isPeriod_29 : decode cX9_isPeriod 29 = .ok (.iload_n 2, 1) := by decide +kernel
theorem dX9_isPeriod_30 : decode cX9_isPeriod 30 = .ok (.ifCond .eq 26, 3) := by decide +kernel
theorem dX9_isPeriod_33 : decode cX9_isPeriod 33 = .ok (.aload_n 0, 1) := by decide +kernel
theorem dX9_isPeriod_34 : decode cX9_isPeriod 34 = .ok (.iload_n 3, 1) := by decide +kernel
theorem dX9_isPeriod_35 : decode cX9_isPeriod 35 = .ok (.iload 4, 2) := by decide +kernel
theorem dX9_isPeriod_37 : decode cX9_isPeriod 37 = .ok (.invokevirtual 144, 3) := by decide +kernel
theorem dX9_isPeriod_40 : decode cX9_isPeriod 40 = .ok (.aload_n 0, 1) := by decide +kernel
theorem dX9_isPeriod_41 : decode cX9_isPeriod 41 = .ok (.iload_n 3, 1) := by decide +kernel
theorem dX9_isPeriod_42 : decode cX9_isPeriod 42 = .ok (.iload_n 1, 1) := by decide +kernel
theorem dX9_isPeriod_43 : decode cX9_isPeriod 43 = .ok (.iadd, 1) := by decide +kernel
theorem dX9_isPeriod_44 : decode cX9_isPeriod 44 = .ok (.iload 4, 2) := by decide +kernel
theorem dX9_isPeriod_46 : decode cX9_isPeriod 46 = .ok (.invokevirtual 144, 3) := by decide +kernel
theorem dX9_isPeriod_49 : decode cX9_isPeriod 49 = .ok (.if_icmp .ne 7, 3) := by decide +kernel
theorem dX9_isPeriod_52 : decode cX9_isPeriod 52 = .ok (.iconst 1, 1) := by decide +kernel
theorem dX9_isPeriod_53 : decode cX9_isPeriod 53 = .ok (.goto 4, 3) := by decide +kernel
theorem dX9_isPeriod_56 : decode cX9_isPeriod 56 = .ok (.iconst 0, 1) := by decide +kernel
theorem dX9_isPeriod_57 : decode cX9_isPeriod 57 = .ok (.istore_n 2, 1) := by decide +kernel
theorem dX9_isPeriod_58 : decode cX9_isPeriod 58 = .ok (.iinc 4 1, 3) := by decide +kernel
theorem dX9_isPeriod_61 : decode cX9_isPeriod 61 = .ok (.goto (-41), 3) := by decide +kernel
theorem dX9_isPeriod_64 : decode cX9_isPeriod 64 = .ok (.iinc 3 1, 3) := by decide +kernel
theorem dX9_isPeriod_67 : decode cX9_isPeriod 67 = .ok (.goto (-63), 3) := by decide +kernel
theorem dX9_isPeriod_70 : decode cX9_isPeriod 70 = .ok (.iload_n 2, 1) := by decide +kernel
theorem dX9_isPeriod_71 : decode cX9_isPeriod 71 = .ok (.ireturn, 1) := by decide +kernel
set_option maxRecDepth 20000 in
theorem ggX9_period_X9_isPeriod : GoodIn wsX9_period wsX9_isPeriod := goodIn_r _ [6, 1, 7, 8, 9, 10, 5, 11, 12, 13, 14, 15, 16, 17, 18, 19, 20, 21, 22, 23, 24, 25, 26, 27, 28, 29, 30, 31, 32, 33, 34, 35, 36, 37, 38] (by decide +kernel) (by decide +kernel)
set_option maxRecDepth 20000 in
theorem gX9_period_X9_isPeriod : GoodIn wsX9_period (wsV RX9 151 RX9 yX9_isPeriod wsX9_isPeriod) := goodIn_app (goodIn_of _ (by decide +kernel)) ggX9_period_X9_isPeriod
theorem dX9_period_0 : decode cX9_period 0 = .ok (.aload_n 0, 1) := by decide +kernel
theorem dX9_period_1 : decode cX9_period 1 = .ok (.getfield 7, 3) := by decide +kernel
theorem dX9_period_4 : decode cX9_period 4 = .ok (.bipush 49, 2) := by decide +kernel
theorem dX9_period_6 : decode cX9_period 6 = .ok (.iaload, 1) := by decide +kernel
theorem dX9_period_7 : decode cX9_period 7 = .ok (.ifCond .ne 7, 3) := by decide +kernel
theorem dX9_period_10 : decode cX9_period 10 = .ok (.iconst 0, 1) := by decide +kernel
theorem dX9_period_11 : decode cX9_period 11 = .ok (.goto 4, 3) := by decide +kernel
theorem dX9_period_14 : decode cX9_period 14 = .ok (.iconst 1, 1) := by decide +kernel
theorem dX9_period_15 : decode cX9_period 15 = .ok (.istore_n 1, 1) := by decide +kernel
theorem dX9_period_16 : decode cX9_period 16 = .ok (.iload_n 1, 1) := by decide +kernel
theorem dX9_period_17 : decode cX9_period 17 = .ok (.ifCond .le 17, 3) := by decide +kernel
theorem dX9_period_20 : decode cX9_period 20 = .ok (.aload_n 0, 1) := by decide +kernel
theorem dX9_period_21 : decode cX9_period 21 = .ok (.iload_n 1, 1) := by decide +kernel
theorem dX9_period_22 : decode cX9_period 22 = .ok (.invokevirtual 151, 3) := by decide +kernel
theorem dX9_period_25 : decode cX9_period 25 = .ok (.ifCond .ne 9, 3) := by decide +kernel
theorem dX9_period_28 : decode cX9_period 28 = .ok (.iinc 1 1, 3) := by decide +kernel
theorem dX9_period_31 : decode cX9_period 31 = .ok (.goto (-15), 3) := by decide +kernel
theorem dX9_period_34 : decode cX9_period 34 = .ok (.iload_n 1, 1) := by decide +kernel
theorem dX9_period_35 : decode cX9_period 35 = .ok (.ireturn, 1) := by decide +kernel
set_option maxRecDepth 20000 in
theorem ggX9_floatOf_X9_was : GoodIn wsX9_floatOf wsX9_was := goodIn_r _ [6, 1, 10, 11, 12, 13, 14, 15, 16, 17, 18, 19, 20, 21, 22, 23, 24, 25, 26, 27, 28, 29, 30, 31, 32, 33, 34, 35, 36] (by decide +kernel) (by decide +kernel)
set_option maxRecDepth 20000 in
theorem gX9_floatOf_X9_was : GoodIn wsX9_floatOf (wsV RX9 144 RX9 yX9_was wsX9_was) := goodIn_app (goodIn_of _ (by decide +kernel)) ggX9_floatOf_X9_was
set_option maxRecDepth 20000 in
theorem ggX9_floatOf_X9_most : GoodIn wsX9_floatOf wsX9_most := goodIn_r _ [9] (by decide +kernel) (by decide +kernel)
set_option maxRecDepth 20000 in
theorem gX9_floatOf_X9_most : GoodIn wsX9_floatOf (va_wsS RX9 155 yX9_most wsX9_most) := goodIn_app (goodIn_of _ (by decide +kernel)) ggX9_floatOf_X9_most
theorem dX9_floatOf_0 : decode cX9_floatOf 0 = .ok (.iconst 0, 1) := by decide +kernel
theorem dX9_floatOf_1 : decode cX9_floatOf 1 = .ok (.istore_n 2, 1) := by decide +kernel
theorem dX9_floatOf_2 : decode cX9_floatOf 2 = .ok (.iconst 0, 1) := by decide +kernel
theorem dX9_floatOf_3 : decode cX9_floatOf 3 = .ok (.istore_n 3, 1) := by decide +kernel
theorem dX9_floatOf_4 : decode cX9_floatOf 4 = .ok (.iconst 0, 1) := by decide +kernel
theorem dX9_floatOf_5 : decode cX9_floatOf 5 = .ok (.istore 4, 2) := by decide +kernel
theorem dX9_floatOf_7 : decode cX9_floatOf 7 = .ok (.iload 4, 2) := by decide +kernel
theorem dX9_floatOf_9 : decode cX9_floatOf 9 = .ok (.aload_n 0, 1) := by decide +kernel
theorem dX9_floatOf_10 : decode cX9_floatOf 10 = .ok (.getfield 7, 3) := by decide +kernel
theorem dX9_floatOf_13 : decode cX9_floatOf 13 = .ok (.bipush 49, 2) := by decide +kernel
theorem dX9_floatOf_15 : decode cX9_floatOf 15 = .ok (.iaload, 1) := by decide +kernel
theorem dX9_floatOf_16 : decode cX9_floatOf 16 = .ok (.if_icmp .ge 74, 3) := by decide +kernel
theorem dX9_floatOf_19 : decode cX9_floatOf 19 = .ok (.iload 4, 2) := by decide +kernel
theorem dX9_floatOf_21 : decode cX9_floatOf 21 = .ok (.ifCond .le 26, 3) := by decide +kernel
theorem dX9_floatOf_24 : decode cX9_floatOf 24 = .ok (.aload_n 0, 1) := by decide +kernel
theorem dX9_floatOf_25 : decode cX9_floatOf 25 = .ok (.iload 4, 2) := by decide +kernel
theorem dX9_floatOf_27 : decode cX9_floatOf 27 = .ok (.iload_n 1, 1) := by decide +kernel
theorem dX9_floatOf_28 : decode cX9_floatOf 28 = .ok (.invokevirtual 144, 3) := by decide +kernel
theorem dX9_floatOf_31 : decode cX9_floatOf 31 = .ok (.aload_n 0, 1) := by decide +kernel
theorem dX9_floatOf_32 : decode cX9_floatOf 32 = .ok (.iload 4, 2) := by decide +kernel
theorem dX9_floatOf_34 : decode cX9_floatOf 34 = .ok (.iconst 1, 1) := by decide +kernel
theorem dX9_floatOf_35 : decode cX9_floatOf 35 = .ok (.isub, 1) := by decide +kernel
theorem dX9_floatOf_36 : decode cX9_floatOf 36 = .ok (.iload_n 1, 1) := by decide +kernel
theorem dX9_floatOf_37 : decode cX9_floatOf 37 = .ok (.invokevirtual 144, 3) := by decide +kernel
theorem dX9_floatOf_40 : decode cX9_floatOf 40 = .ok (.if_icmp .ne 7, 3) := by decide +kernel
theorem dX9_floatOf_43 : decode cX9_floatOf 43 = .ok (.iconst 1, 1) := by decide +kernel
theorem dX9_floatOf_44 : decode cX9_floatOf 44 = .ok (.goto 4, 3) := by decide +kernel
theorem dX9_floatOf_47 : decode cX9_floatOf 47 = .ok (.iconst 0, 1) := by decide +kernel
theorem dX9_floatOf_48 : decode cX9_floatOf 48 = .ok (.istore 5, 2) := by decide +kernel
theorem dX9_floatOf_50 : decode cX9_floatOf 50 = .ok (.aload_n 0, 1) := by decide +kernel
theorem dX9_floatOf_51 : decode cX9_floatOf 51 = .ok (.iload 4, 2) := by decide +kernel
theorem dX9_floatOf_53 : decode cX9_floatOf 53 = .ok (.iload_n 1, 1) := by decide +kernel
theorem dX9_floatOf_54 : decode cX9_floatOf 54 = .ok (.invokevirtual 144, 3) := by decide +kernel
theorem dX9_floatOf_57 : decode cX9_floatOf 57 = .ok (.iconst (-1), 1) := by decide +kernel
theorem dX9_floatOf_58 : decode cX9_floatOf 58 = .ok (.if_icmp .ne 7, 3) := by decide +kernel
theorem dX9_floatOf_61 : decode cX9_floatOf 61 = .ok (.iconst 0, 1) := by decide +kernel
theorem dX9_floatOf_62 : decode cX9_floatOf 62 = .ok (.goto 15, 3) := by decide +kernel
theorem dX9_floatOf_65 : decode cX9_floatOf 65 = .ok (.iload 5, 2) := by decide +kernel
theorem dX9_floatOf_67 : decode cX9_floatOf 67 = .ok (.ifCond .eq 9, 3) := by decide +kernel
theorem dX9_floatOf_70 : decode cX9_floatOf 70 = .ok (.iload_n 3, 1) := by decide +kernel
theorem dX9_floatOf_71 : decode cX9_floatOf 71 = .ok (.iconst 1, 1) := by decide +kernel
theorem dX9_floatOf_72 : decode cX9_floatOf 72 = .ok (.iadd, 1) := by decide +kernel
theorem dX9_floatOf_73 : decode cX9_floatOf 73 = .ok (.goto 4, 3) := by decide +kernel
theorem dX9_floatOf_76 : decode cX9_floatOf 76 = .ok (.iconst 1, 1) := by decide +kernel
theorem dX9_floatOf_77 : decode cX9_floatOf 77 = .ok (.istore_n 3, 1) := by decide +kernel
theorem dX9_floatOf_78 : decode cX9_floatOf 78 = .ok (.iload_n 3, 1) := by decide +kernel
theorem dX9_floatOf_79 : decode cX9_floatOf 79 = .ok (.iload_n 2, 1) := by decide +kernel
theorem dX9_floatOf_80 : decode cX9_floatOf 80 = .ok (.invokestatic 155, 3) := by decide +kernel
theorem dX9_floatOf_83 : decode cX9_floatOf 83 = .ok (.istore_n 2, 1) := by decide +kernel
theorem dX9_floatOf_84 : decode cX9_floatOf 84 = .ok (.iinc 4 1, 3) := by decide +kernel
theorem dX9_floatOf_87 : decode cX9_floatOf 87 = .ok (.goto (-80), 3) := by decide +kernel
theorem dX9_floatOf_90 : decode cX9_floatOf 90 = .ok (.iload_n 2, 1) := by decide +kernel
theorem dX9_floatOf_91 : decode cX9_floatOf 91 = .ok (.ireturn, 1) := by decide +kernel
set_option maxRecDepth 20000 in
theorem ggX9_longest_X9_floatOf : GoodIn wsX9_longest wsX9_floatOf := goodIn_r _ [7, 2, 8, 9, 10, 6, 11, 12, 13, 14, 15, 16, 17, 18, 19, 20, 21, 22, 23, 24, 25, 26, 27, 28, 29, 30, 31, 32, 33, 34, 35, 36, 37, 38, 39, 40, 41] (by decide +kernel) (by decide +kernel)
set_option maxRecDepth 20000 in
theorem gX9_longest_X9_floatOf : GoodIn wsX9_longest (wsV RX9 158 RX9 yX9_floatOf wsX9_floatOf) := goodIn_app (goodIn_of _ (by decide +kernel)) ggX9_longest_X9_floatOf
set_option maxRecDepth 20000 in
theorem ggX9_longest_X9_most : GoodIn wsX9_longest wsX9_most := goodIn_r _ [14] (by decide +kernel) (by decide +kernel)
set_option maxRecDepth 20000 in
theorem gX9_longest_X9_most : GoodIn wsX9_longest (va_wsS RX9 155 yX9_most wsX9_most) := goodIn_app (goodIn_of _ (by decide +kernel)) ggX9_longest_X9_most
theorem dX9_longest_0 : decode cX9_longest 0 = .ok (.iconst (-1), 1) := by decide +kernel
theorem dX9_longest_1 : decode cX9_longest 1 = .ok (.istore_n 1, 1) := by decide +kernel
theorem dX9_longest_2 : decode cX9_longest 2 = .ok (.iconst (-1), 1) := by decide +kernel
theorem dX9_longest_3 : decode cX9_longest 3 = .ok (.istore_n 2, 1) := by decide +kernel
theorem dX9_longest_4 : decode cX9_longest 4 = .ok (.iconst 0, 1) := by decide +kernel
theorem dX9_longest_5 : decode cX9_longest 5 = .ok (.istore_n 3, 1) := by decide +kernel
theorem dX9_longest_6 : decode cX9_longest 6 = .ok (.iload_n 3, 1) := by decide +kernel
theorem dX9_longest_7 : decode cX9_longest 7 = .ok (.aload_n 0, 1) := by decide +kernel
theorem dX9_longest_8 : decode cX9_longest 8 = .ok (.getfield 122, 3) := by decide +kernel
theorem dX9_longest_11 : decode cX9_longest 11 = .ok (.if_icmp .ge 45, 3) := by decide +kernel
theorem dX9_longest_14 : decode cX9_longest 14 = .ok (.aload_n 0, 1) := by decide +kernel
theorem dX9_longest_15 : decode cX9_longest 15 = .ok (.getfield 7, 3) := by decide +kernel
theorem dX9_longest_18 : decode cX9_longest 18 = .ok (.bipush 49, 2) := by decide +kernel
theorem dX9_longest_20 : decode cX9_longest 20 = .ok (.iaload, 1) := by decide +kernel
theorem dX9_longest_21 : decode cX9_longest 21 = .ok (.ifCond .le 35, 3) := by decide +kernel
theorem dX9_longest_24 : decode cX9_longest 24 = .ok (.aload_n 0, 1) := by decide +kernel
theorem dX9_longest_25 : decode cX9_longest 25 = .ok (.iload_n 3, 1) := by decide +kernel
theorem dX9_longest_26 : decode cX9_longest 26 = .ok (.invokevirtual 158, 3) := by decide +kernel
theorem dX9_longest_29 : decode cX9_longest 29 = .ok (.istore 4, 2) := by decide +kernel
theorem dX9_longest_31 : decode cX9_longest 31 = .ok (.iload 4, 2) := by decide +kernel
theorem dX9_longest_33 : decode cX9_longest 33 = .ok (.iload_n 2, 1) := by decide +kernel
theorem dX9_longest_34 : decode cX9_longest 34 = .ok (.if_icmp .le 7, 3) := by decide +kernel
theorem dX9_longest_37 : decode cX9_longest 37 = .ok (.iload_n 3, 1) := by decide +kernel
theorem dX9_longest_38 : decode cX9_longest 38 = .ok (.goto 4, 3) := by decide +kernel
theorem dX9_longest_41 : decode cX9_longest 41 = .ok (.iload_n 1, 1) := by decide +kernel
theorem dX9_longest_42 : decode cX9_longest 42 = .ok (.istore_n 1, 1) := by decide +kernel
theorem dX9_longest_43 : decode cX9_longest 43 = .ok (.iload 4, 2) := by decide +kernel
theorem dX9_longest_45 : decode cX9_longest 45 = .ok (.iload_n 2, 1) := by decide +kernel
theorem dX9_longest_46 : decode cX9_longest 46 = .ok (.invokestatic 155, 3) := by decide +kernel
theorem dX9_longest_49 : decode cX9_longest 49 = .ok (.istore_n 2, 1) := by decide +kernel
theorem dX9_longest_50 : decode cX9_longest 50 = .ok (.iinc 3 1, 3) := by decide +kernel
theorem dX9_longest_53 : decode cX9_longest 53 = .ok (.goto (-47), 3) := by decide +kernel
theorem dX9_longest_56 : decode cX9_longest 56 = .ok (.iload_n 1, 1) := by decide +kernel
theorem dX9_longest_57 : decode cX9_longest 57 = .ok (.ireturn, 1) := by decide +kernel
set_option maxRecDepth 20000 in
theorem ggX9_shownOf_X9_was : GoodIn wsX9_shownOf wsX9_was := goodIn_r _ [7, 1, 11, 12, 13, 14, 15, 16, 17, 18, 19, 20, 21, 22, 23, 24, 25, 26, 27, 28, 29, 30, 31, 32, 33, 34, 35, 36, 37] (by decide +kernel) (by decide +kernel)
set_option maxRecDepth 20000 in
theorem gX9_shownOf_X9_was : GoodIn wsX9_shownOf (wsV RX9 144 RX9 yX9_was wsX9_was) := goodIn_app (goodIn_of _ (by decide +kernel)) ggX9_shownOf_X9_was
set_option maxRecDepth 20000 in
theorem ggX9_shownOf_X9_one : GoodIn wsX9_shownOf wsX9_one := goodIn_r _ [10] (by decide +kernel) (by decide +kernel)
set_option maxRecDepth 20000 in
theorem gX9_shownOf_X9_one : GoodIn wsX9_shownOf (va_wsS RX9 147 yX9_one wsX9_one) := goodIn_app (goodIn_of _ (by decide +kernel)) ggX9_shownOf_X9_one
theorem dX9_shownOf_0 : decode cX9_shownOf 0 = .ok (.iconst 0, 1) := by decide +kernel
theorem dX9_shownOf_1 : decode cX9_shownOf 1 = .ok (.istore_n 2, 1) := by decide +kernel
theorem dX9_shownOf_2 : decode cX9_shownOf 2 = .ok (.iconst 0, 1) := by decide +kernel
theorem dX9_shownOf_3 : decode cX9_shownOf 3 = .ok (.istore_n 3, 1) := by decide +kernel
theorem dX9_shownOf_4 : decode cX9_shownOf 4 = .ok (.iload_n 3, 1) := by decide +kernel
theorem dX9_shownOf_5 : decode cX9_shownOf 5 = .ok (.aload_n 0, 1) := by decide +kernel
theorem dX9_shownOf_6 : decode cX9_shownOf 6 = .ok (.getfield 7, 3) := by decide +kernel
theorem dX9_shownOf_9 : decode cX9_shownOf 9 = .ok (.bipush 49, 2) := by decide +kernel
theorem dX9_shownOf_11 : decode cX9_shownOf 11 = .ok (.iaload, 1) := by decide +kernel
theorem dX9_shownOf_12 : decode cX9_shownOf 12 = .ok (.if_icmp .ge 49, 3) := by decide +kernel
theorem dX9_shownOf_15 : decode cX9_shownOf 15 = .ok (.iconst 0, 1) := by decide +kernel
theorem dX9_shownOf_16 : decode cX9_shownOf 16 = .ok (.istore 4, 2) := by decide +kernel
theorem dX9_shownOf_18 : decode cX9_shownOf 18 = .ok (.iload 4, 2) := by decide +kernel
theorem dX9_shownOf_20 : decode cX9_shownOf 20 = .ok (.aload_n 0, 1) := by decide +kernel
theorem dX9_shownOf_21 : decode cX9_shownOf 21 = .ok (.getfield 122, 3) := by decide +kernel
theorem dX9_shownOf_24 : decode cX9_shownOf 24 = .ok (.if_icmp .ge 31, 3) := by decide +kernel
theorem dX9_shownOf_27 : decode cX9_shownOf 27 = .ok (.iload_n 2, 1) := by decide +kernel
theorem dX9_shownOf_28 : decode cX9_shownOf 28 = .ok (.aload_n 0, 1) := by decide +kernel
theorem dX9_shownOf_29 : decode cX9_shownOf 29 = .ok (.iload_n 3, 1) := by decide +kernel
theorem dX9_shownOf_30 : decode cX9_shownOf 30 = .ok (.iload 4, 2) := by decide +kernel
theorem dX9_shownOf_32 : decode cX9_shownOf 32 = .ok (.invokevirtual 144, 3) := by decide +kernel
theorem dX9_shownOf_35 : decode cX9_shownOf 35 = .ok (.iload_n 1, 1) := by decide +kernel
theorem dX9_shownOf_36 : decode cX9_shownOf 36 = .ok (.if_icmp .ne 7, 3) := by decide +kernel
theorem dX9_shownOf_39 : decode cX9_shownOf 39 = .ok (.iconst 1, 1) := by decide +kernel
theorem dX9_shownOf_40 : decode cX9_shownOf 40 = .ok (.goto 4, 3) := by decide +kernel
theorem dX9_shownOf_43 : decode cX9_shownOf 43 = .ok (.iconst 0, 1) := by decide +kernel
theorem dX9_shownOf_44 : decode cX9_shownOf 44 = .ok (.invokestatic 147, 3) := by decide +kernel
theorem dX9_shownOf_47 : decode cX9_shownOf 47 = .ok (.iadd, 1) := by decide +kernel
theorem dX9_shownOf_48 : decode cX9_shownOf 48 = .ok (.istore_n 2, 1) := by decide +kernel
theorem dX9_shownOf_49 : decode cX9_shownOf 49 = .ok (.iinc 4 1, 3) := by decide +kernel
theorem dX9_shownOf_52 : decode cX9_shownOf 52 = .ok (.goto (-34), 3) := by decide +kernel
theorem dX9_shownOf_55 : decode cX9_shownOf 55 = .ok (.iinc 3 1, 3) := by decide +kernel
theorem dX9_shownOf_58 : decode cX9_shownOf 58 = .ok (.goto (-54), 3) := by decide +kernel
theorem dX9_shownOf_61 : decode cX9_shownOf 61 = .ok (.iload_n 2, 1) := by decide +kernel
theorem dX9_shownOf_62 : decode cX9_shownOf 62 = .ok (.ireturn, 1) := by decide +kernel
set_option maxRecDepth 20000 in
theorem ggX9_mostShown_X9_shownOf : GoodIn wsX9_mostShown wsX9_shownOf := goodIn_r _ [6, 7, 8, 9, 10, 11, 5, 12, 13, 14, 15, 19, 20, 21, 22, 23, 24, 25, 26, 27, 28, 29, 30, 31, 32, 33, 34, 35, 36, 37, 38, 39, 40, 41, 42, 43, 44, 45] (by decide +kernel) (by decide +kernel)
set_option maxRecDepth 20000 in
theorem gX9_mostShown_X9_shownOf : GoodIn wsX9_mostShown (wsV RX9 162 RX9 yX9_shownOf wsX9_shownOf) := goodIn_app (goodIn_of _ (by decide +kernel)) ggX9_mostShown_X9_shownOf
set_option maxRecDepth 20000 in
theorem ggX9_mostShown_X9_most : GoodIn wsX9_mostShown wsX9_most := goodIn_r _ [18] (by decide +kernel) (by decide +kernel)
set_option maxRecDepth 20000 in
theorem gX9_mostShown_X9_most : GoodIn wsX9_mostShown (va_wsS RX9 155 yX9_most wsX9_most) := goodIn_app (goodIn_of _ (by decide +kernel)) ggX9_mostShown_X9_most
theorem dX9_mostShown_0 : decode cX9_mostShown 0 = .ok (.iconst (-1), 1) := by decide +kernel
theorem dX9_mostShown_1 : decode cX9_mostShown 1 = .ok (.istore_n 1, 1) := by decide +kernel
theorem dX9_mostShown_2 : decode cX9_mostShown 2 = .ok (.iconst 0, 1) := by decide +kernel
theorem dX9_mostShown_3 : decode cX9_mostShown 3 = .ok (.istore_n 2, 1) := by decide +kernel
theorem dX9_mostShown_4 : decode cX9_mostShown 4 = .ok (.iconst 0, 1) := by decide +kernel
theorem dX9_mostShown_5 : decode cX9_mostShown 5 = .ok (.istore_n 3, 1) := by decide +kernel
theorem dX9_mostShown_6 : decode cX9_mostShown 6 = .ok (.iload_n 3, 1) := by decide +kernel
theorem dX9_mostShown_7 : decode cX9_mostShown 7 = .ok (.aload_n 0, 1) := by decide +kernel
theorem dX9_mostShown_8 : decode cX9_mostShown 8 = .ok (.getfield 125, 3) := by decide +kernel
theorem dX9_mostShown_11 : decode cX9_mostShown 11 = .ok (.if_icmp .ge 35, 3) := by decide +kernel
theorem dX9_mostShown_14 : decode cX9_mostShown 14 = .ok (.aload_n 0, 1) := by decide +kernel
theorem dX9_mostShown_15 : decode cX9_mostShown 15 = .ok (.iload_n 3, 1) := by decide +kernel
theorem dX9_mostShown_16 : decode cX9_mostShown 16 = .ok (.invokevirtual 162, 3) := by decide +kernel
theorem dX9_mostShown_19 : decode cX9_mostShown 19 = .ok (.istore 4, 2) := by decide +kernel
theorem dX9_mostShown_21 : decode cX9_mostShown 21 = .ok (.iload 4, 2) := by decide +kernel
theorem dX9_mostShown_23 : decode cX9_mostShown 23 = .ok (.iload_n 2, 1) := by decide +kernel
theorem dX9_mostShown_24 : decode cX9_mostShown 24 = .ok (.if_icmp .le 7, 3) := by decide +kernel
theorem dX9_mostShown_27 : decode cX9_mostShown 27 = .ok (.iload_n 3, 1) := by decide +kernel
theorem dX9_mostShown_28 : decode cX9_mostShown 28 = .ok (.goto 4, 3) := by decide +kernel
theorem dX9_mostShown_31 : decode cX9_mostShown 31 = .ok (.iload_n 1, 1) := by decide +kernel
theorem dX9_mostShown_32 : decode cX9_mostShown 32 = .ok (.istore_n 1, 1) := by decide +kernel
theorem dX9_mostShown_33 : decode cX9_mostShown 33 = .ok (.iload 4, 2) := by decide +kernel
theorem dX9_mostShown_35 : decode cX9_mostShown 35 = .ok (.iload_n 2, 1) := by decide +kernel
theorem dX9_mostShown_36 : decode cX9_mostShown 36 = .ok (.invokestatic 155, 3) := by decide +kernel
theorem dX9_mostShown_39 : decode cX9_mostShown 39 = .ok (.istore_n 2, 1) := by decide +kernel
theorem dX9_mostShown_40 : decode cX9_mostShown 40 = .ok (.iinc 3 1, 3) := by decide +kernel
theorem dX9_mostShown_43 : decode cX9_mostShown 43 = .ok (.goto (-37), 3) := by decide +kernel
theorem dX9_mostShown_46 : decode cX9_mostShown 46 = .ok (.iload_n 1, 1) := by decide +kernel
theorem dX9_mostShown_47 : decode cX9_mostShown 47 = .ok (.ireturn, 1) := by decide +kernel
theorem dX9_allYarn_0 : decode cX9_allYarn 0 = .ok (.iconst 0, 1) := by decide +kernel
theorem dX9_allYarn_1 : decode cX9_allYarn 1 = .ok (.istore_n 1, 1) := by decide +kernel
theorem dX9_allYarn_2 : decode cX9_allYarn 2 = .ok (.iconst 0, 1) := by decide +kernel
theorem dX9_allYarn_3 : decode cX9_allYarn 3 = .ok (.istore_n 2, 1) := by decide +kernel
theorem dX9_allYarn_4 : decode cX9_allYarn 4 = .ok (.iload_n 2, 1) := by decide +kernel
theorem dX9_allYarn_5 : decode cX9_allYarn 5 = .ok (.bipush 8, 2) := by decide +kernel
theorem dX9_allYarn_7 : decode cX9_allYarn 7 = .ok (.if_icmp .ge 21, 3) := by decide +kernel
theorem dX9_allYarn_10 : decode cX9_allYarn 10 = .ok (.iload_n 1, 1) := by decide +kernel
theorem dX9_allYarn_11 : decode cX9_allYarn 11 = .ok (.aload_n 0, 1) := by decide +kernel
theorem dX9_allYarn_12 : decode cX9_allYarn 12 = .ok (.getfield 7, 3) := by decide +kernel
theorem dX9_allYarn_15 : decode cX9_allYarn 15 = .ok (.bipush 40, 2) := by decide +kernel
theorem dX9_allYarn_17 : decode cX9_allYarn 17 = .ok (.iload_n 2, 1) := by decide +kernel
theorem dX9_allYarn_18 : decode cX9_allYarn 18 = .ok (.iadd, 1) := by decide +kernel
theorem dX9_allYarn_19 : decode cX9_allYarn 19 = .ok (.iaload, 1) := by decide +kernel
theorem dX9_allYarn_20 : decode cX9_allYarn 20 = .ok (.iadd, 1) := by decide +kernel
theorem dX9_allYarn_21 : decode cX9_allYarn 21 = .ok (.istore_n 1, 1) := by decide +kernel
theorem dX9_allYarn_22 : decode cX9_allYarn 22 = .ok (.iinc 2 1, 3) := by decide +kernel
theorem dX9_allYarn_25 : decode cX9_allYarn 25 = .ok (.goto (-21), 3) := by decide +kernel
theorem dX9_allYarn_28 : decode cX9_allYarn 28 = .ok (.iload_n 1, 1) := by decide +kernel
theorem dX9_allYarn_29 : decode cX9_allYarn 29 = .ok (.ireturn, 1) := by decide +kernel
set_option maxRecDepth 20000 in
theorem ggX9_told_X9_mirrored : GoodIn wsX9_told wsX9_mirrored := goodIn_r _ [14, 5, 2, 15, 16, 17, 13, 18, 19, 20, 21, 53, 54, 55, 56, 57, 58, 59, 60, 61, 62, 63, 64, 65, 66, 67, 68, 69, 70, 71, 72, 73, 74, 75, 76, 77, 78, 79] (by decide +kernel) (by decide +kernel)
set_option maxRecDepth 20000 in
theorem gX9_told_X9_mirrored : GoodIn wsX9_told (wsV RX9 165 RX9 yX9_mirrored wsX9_mirrored) := goodIn_app (goodIn_of _ (by decide +kernel)) ggX9_told_X9_mirrored
set_option maxRecDepth 20000 in
theorem ggX9_told_X9_period : GoodIn wsX9_told wsX9_period := goodIn_r _ [25, 5, 26, 27, 28, 13, 29, 2, 15, 16, 17, 18, 53, 54, 55, 56, 57, 58, 59, 60, 61, 62, 63, 64, 65, 66, 67, 68, 69, 70, 71, 72, 73, 74, 75, 76, 77, 78, 79] (by decide +kernel) (by decide +kernel)
set_option maxRecDepth 20000 in
theorem gX9_told_X9_period : GoodIn wsX9_told (wsV RX9 168 RX9 yX9_period wsX9_period) := goodIn_app (goodIn_of _ (by decide +kernel)) ggX9_told_X9_period
set_option maxRecDepth 20000 in
theorem ggX9_told_X9_longest : GoodIn wsX9_told wsX9_longest := goodIn_r _ [33, 2, 5, 34, 35, 36, 13, 37, 15, 16, 17, 18, 38, 39, 40, 53, 54, 55, 56, 57, 58, 59, 60, 61, 62, 63, 64, 65, 66, 67, 68, 69, 70, 71, 72, 73, 74, 75, 76, 77, 78, 79] (by decide +kernel) (by decide +kernel)
set_option maxRecDepth 20000 in
theorem gX9_told_X9_longest : GoodIn wsX9_told (wsV RX9 171 RX9 yX9_longest wsX9_longest) := goodIn_app (goodIn_of _ (by decide +kernel)) ggX9_told_X9_longest
set_option maxRecDepth 20000 in
theorem ggX9_told_X9_mostShown : GoodIn wsX9_told wsX9_mostShown := goodIn_r _ [44, 1, 45, 46, 47, 13, 48, 5, 2, 15, 16, 17, 18, 19, 20, 21, 38, 39, 40, 53, 54, 55, 56, 57, 58, 59, 60, 61, 62, 63, 64, 65, 66, 67, 68, 69, 70, 71, 72, 73, 74, 75, 76, 77, 78, 79] (by decide +kernel) (by decide +kernel)
set_option maxRecDepth 20000 in
theorem gX9_told_X9_mostShown : GoodIn wsX9_told (wsV RX9 174 RX9 yX9_mostShown wsX9_mostShown) := goodIn_app (goodIn_of _ (by decide +kernel)) ggX9_told_X9_mostShown
set_option maxRecDepth 20000 in
theorem ggX9_told_X9_allYarn : GoodIn wsX9_told wsX9_allYarn := goodIn_r _ [52, 5, 53, 54, 55, 56, 57, 58, 59, 60, 61, 62, 63, 64, 65, 66, 67, 68, 69, 70, 71, 72, 73, 74, 75, 76, 77, 78, 79] (by decide +kernel) (by decide +kernel)
set_option maxRecDepth 20000 in
theorem gX9_told_X9_allYarn : GoodIn wsX9_told (wsV RX9 177 RX9 yX9_allYarn wsX9_allYarn) := goodIn_app (goodIn_of _ (by decide +kernel)) ggX9_told_X9_allYarn
theorem dX9_told_0 : decode cX9_told 0 = .ok (.iload_n 1, 1) := by decide +kernel
theorem dX9_told_1 : decode cX9_told 1 = .ok (.tableswitch 147 0 13 #[71, 76, 81, 86, 91, 99, 107, 112, 117, 122, 127, 132, 137, 142], 71) := by decide +kernel
theorem dX9_told_72 : decode cX9_told 72 = .ok (.aload_n 0, 1) := by decide +kernel
theorem dX9_told_73 : decode cX9_told 73 = .ok (.getfield 125, 3) := by decide +kernel
theorem dX9_told_76 : decode cX9_told 76 = .ok (.ireturn, 1) := by decide +kernel
theorem dX9_told_77 : decode cX9_told 77 = .ok (.aload_n 0, 1) := by decide +kernel
theorem dX9_told_78 : decode cX9_told 78 = .ok (.getfield 122, 3) := by decide +kernel
theorem dX9_told_81 : decode cX9_told 81 = .ok (.ireturn, 1) := by decide +kernel
theorem dX9_told_82 : decode cX9_told 82 = .ok (.aload_n 0, 1) := by decide +kernel
theorem dX9_told_83 : decode cX9_told 83 = .ok (.getfield 128, 3) := by decide +kernel
theorem dX9_told_86 : decode cX9_told 86 = .ok (.ireturn, 1) := by decide +kernel
theorem dX9_told_87 : decode cX9_told 87 = .ok (.aload_n 0, 1) := by decide +kernel
theorem dX9_told_88 : decode cX9_told 88 = .ok (.getfield 61, 3) := by decide +kernel
theorem dX9_told_91 : decode cX9_told 91 = .ok (.ireturn, 1) := by decide +kernel
theorem dX9_told_92 : decode cX9_told 92 = .ok (.aload_n 0, 1) := by decide +kernel
theorem dX9_told_93 : decode cX9_told 93 = .ok (.getfield 7, 3) := by decide +kernel
theorem dX9_told_96 : decode cX9_told 96 = .ok (.bipush 48, 2) := by decide +kernel
theorem dX9_told_98 : decode cX9_told 98 = .ok (.iaload, 1) := by decide +kernel
theorem dX9_told_99 : decode cX9_told 99 = .ok (.ireturn, 1) := by decide +kernel
theorem dX9_told_100 : decode cX9_told 100 = .ok (.aload_n 0, 1) := by decide +kernel
theorem dX9_told_101 : decode cX9_told 101 = .ok (.getfield 7, 3) := by decide +kernel
theorem dX9_told_104 : decode cX9_told 104 = .ok (.bipush 49, 2) := by decide +kernel
theorem dX9_told_106 : decode cX9_told 106 = .ok (.iaload, 1) := by decide +kernel
theorem dX9_told_107 : decode cX9_told 107 = .ok (.ireturn, 1) := by decide +kernel
theorem dX9_told_108 : decode cX9_told 108 = .ok (.aload_n 0, 1) := by decide +kernel
theorem dX9_told_109 : decode cX9_told 109 = .ok (.invokevirtual 165, 3) := by decide +kernel
theorem dX9_told_112 : decode cX9_told 112 = .ok (.ireturn, 1) := by decide +kernel
theorem dX9_told_113 : decode cX9_told 113 = .ok (.aload_n 0, 1) := by decide +kernel
theorem dX9_told_114 : decode cX9_told 114 = .ok (.invokevirtual 168, 3) := by decide +kernel
theorem dX9_told_117 : decode cX9_told 117 = .ok (.ireturn, 1) := by decide +kernel
theorem dX9_told_118 : decode cX9_told 118 = .ok (.aload_n 0, 1) := by decide +kernel
theorem dX9_told_119 : decode cX9_told 119 = .ok (.invokevirtual 171, 3) := by decide +kernel
theorem dX9_told_122 : decode cX9_told 122 = .ok (.ireturn, 1) := by decide +kernel
theorem dX9_told_123 : decode cX9_told 123 = .ok (.aload_n 0, 1) := by decide +kernel
theorem dX9_told_124 : decode cX9_told 124 = .ok (.invokevirtual 174, 3) := by decide +kernel
theorem dX9_told_127 : decode cX9_told 127 = .ok (.ireturn, 1) := by decide +kernel
theorem dX9_told_128 : decode cX9_told 128 = .ok (.aload_n 0, 1) := by decide +kernel
theorem dX9_told_129 : decode cX9_told 129 = .ok (.invokevirtual 177, 3) := by decide +kernel
theorem dX9_told_132 : decode cX9_told 132 = .ok (.ireturn, 1) := by decide +kernel
theorem dX9_told_133 : decode cX9_told 133 = .ok (.aload_n 0, 1) := by decide +kernel
theorem dX9_told_134 : decode cX9_told 134 = .ok (.getfield 131, 3) := by decide +kernel
theorem dX9_told_137 : decode cX9_told 137 = .ok (.ireturn, 1) := by decide +kernel
theorem dX9_told_138 : decode cX9_told 138 = .ok (.aload_n 0, 1) := by decide +kernel
theorem dX9_told_139 : decode cX9_told 139 = .ok (.getfield 134, 3) := by decide +kernel
theorem dX9_told_142 : decode cX9_told 142 = .ok (.ireturn, 1) := by decide +kernel
theorem dX9_told_143 : decode cX9_told 143 = .ok (.aload_n 0, 1) := by decide +kernel
theorem dX9_told_144 : decode cX9_told 144 = .ok (.getfield 137, 3) := by decide +kernel
theorem dX9_told_147 : decode cX9_told 147 = .ok (.ireturn, 1) := by decide +kernel
theorem dX9_told_148 : decode cX9_told 148 = .ok (.ldc 60, 2) := by decide +kernel
theorem dX9_told_150 : decode cX9_told 150 = .ok (.ireturn, 1) := by decide +kernel
set_option maxRecDepth 20000 in
theorem ggX9_card_X9_isCard : GoodIn wsX9_card wsX9_isCard := goodIn_r _ [8, 9, 10, 11, 7, 12, 27, 28, 29, 30, 31, 32, 33, 34, 35, 36, 37, 38, 39, 40, 41, 42, 43, 44, 45, 46, 47, 48, 49, 50, 51, 52, 53] (by decide +kernel) (by decide +kernel)
set_option maxRecDepth 20000 in
theorem gX9_card_X9_isCard : GoodIn wsX9_card (wsV RX9 180 RX9 yX9_isCard wsX9_isCard) := goodIn_app (goodIn_of _ (by decide +kernel)) ggX9_card_X9_isCard
set_option maxRecDepth 20000 in
theorem ggX9_card_X9_colourOf : GoodIn wsX9_card wsX9_colourOf := goodIn_r _ [16, 17, 27, 28, 29, 30, 31, 32, 33, 34, 35, 36, 37, 38, 39, 40, 41, 42, 43, 44, 45, 46, 47, 48, 49, 50, 51, 52, 53] (by decide +kernel) (by decide +kernel)
set_option maxRecDepth 20000 in
theorem gX9_card_X9_colourOf : GoodIn wsX9_card (wsV RX9 184 RX9 yX9_colourOf wsX9_colourOf) := goodIn_app (goodIn_of _ (by decide +kernel)) ggX9_card_X9_colourOf
set_option maxRecDepth 20000 in
theorem ggX9_card_X9_packOf : GoodIn wsX9_card wsX9_packOf := goodIn_r _ [21, 22, 23, 24, 25, 7, 26, 27, 28, 29, 30, 31, 32, 33, 34, 35, 36, 37, 38, 39, 40, 41, 42, 43, 44, 45, 46, 47, 48, 49, 50, 51, 52, 53] (by decide +kernel) (by decide +kernel)
set_option maxRecDepth 20000 in
theorem gX9_card_X9_packOf : GoodIn wsX9_card (wsV RX9 187 RX9 yX9_packOf wsX9_packOf) := goodIn_app (goodIn_of _ (by decide +kernel)) ggX9_card_X9_packOf
theorem dX9_card_0 : decode cX9_card 0 = .ok (.aload_n 0, 1) := by decide +kernel
theorem dX9_card_1 : decode cX9_card 1 = .ok (.iload_n 1, 1) := by decide +kernel
theorem dX9_card_2 : decode cX9_card 2 = .ok (.invokevirtual 180, 3) := by decide +kernel
theorem dX9_card_5 : decode cX9_card 5 = .ok (.ifCond .ne 6, 3) := by decide +kernel
theorem dX9_card_8 : decode cX9_card 8 = .ok (.ldc 183, 2) := by decide +kernel
theorem dX9_card_10 : decode cX9_card 10 = .ok (.ireturn, 1) := by decide +kernel
theorem dX9_card_11 : decode cX9_card 11 = .ok (.iload_n 2, 1) := by decide +kernel
theorem dX9_card_12 : decode cX9_card 12 = .ok (.tableswitch 119 0 9 #[56, 56, 56, 56, 63, 73, 80, 93, 103, 113], 56) := by decide +kernel
theorem dX9_card_68 : decode cX9_card 68 = .ok (.aload_n 0, 1) := by decide +kernel
theorem dX9_card_69 : decode cX9_card 69 = .ok (.iload_n 1, 1) := by decide +kernel
theorem dX9_card_70 : decode cX9_card 70 = .ok (.iload_n 2, 1) := by decide +kernel
theorem dX9_card_71 : decode cX9_card 71 = .ok (.invokevirtual 184, 3) := by decide +kernel
theorem dX9_card_74 : decode cX9_card 74 = .ok (.ireturn, 1) := by decide +kernel
theorem dX9_card_75 : decode cX9_card 75 = .ok (.aload_n 0, 1) := by decide +kernel
theorem dX9_card_76 : decode cX9_card 76 = .ok (.getfield 7, 3) := by decide +kernel
theorem dX9_card_79 : decode cX9_card 79 = .ok (.bipush 32, 2) := by decide +kernel
theorem dX9_card_81 : decode cX9_card 81 = .ok (.iload_n 1, 1) := by decide +kernel
theorem dX9_card_82 : decode cX9_card 82 = .ok (.iadd, 1) := by decide +kernel
theorem dX9_card_83 : decode cX9_card 83 = .ok (.iaload, 1) := by decide +kernel
theorem dX9_card_84 : decode cX9_card 84 = .ok (.ireturn, 1) := by decide +kernel
theorem dX9_card_85 : decode cX9_card 85 = .ok (.aload_n 0, 1) := by decide +kernel
theorem dX9_card_86 : decode cX9_card 86 = .ok (.getfield 7, 3) := by decide +kernel
theorem dX9_card_89 : decode cX9_card 89 = .ok (.iload_n 1, 1) := by decide +kernel
theorem dX9_card_90 : decode cX9_card 90 = .ok (.iaload, 1) := by decide +kernel
theorem dX9_card_91 : decode cX9_card 91 = .ok (.ireturn, 1) := by decide +kernel
theorem dX9_card_92 : decode cX9_card 92 = .ok (.aload_n 0, 1) := by decide +kernel
theorem dX9_card_93 : decode cX9_card 93 = .ok (.getfield 7, 3) := by decide +kernel
theorem dX9_card_96 : decode cX9_card 96 = .ok (.bipush 8, 2) := by decide +kernel
theorem dX9_card_98 : decode cX9_card 98 = .ok (.iload_n 1, 1) := by decide +kernel
theorem dX9_card_99 : decode cX9_card 99 = .ok (.iadd, 1) := by decide +kernel
theorem dX9_card_100 : decode cX9_card 100 = .ok (.iaload, 1) := by decide +kernel
theorem dX9_card_101 : decode cX9_card 101 = .ok (.bipush 99, 2) := by decide +kernel
theorem dX9_card_103 : decode cX9_card 103 = .ok (.iadd, 1) := by decide +kernel
theorem dX9_card_104 : decode cX9_card 104 = .ok (.ireturn, 1) := by decide +kernel
theorem dX9_card_105 : decode cX9_card 105 = .ok (.aload_n 0, 1) := by decide +kernel
theorem dX9_card_106 : decode cX9_card 106 = .ok (.getfield 7, 3) := by decide +kernel
theorem dX9_card_109 : decode cX9_card 109 = .ok (.bipush 16, 2) := by decide +kernel
theorem dX9_card_111 : decode cX9_card 111 = .ok (.iload_n 1, 1) := by decide +kernel
theorem dX9_card_112 : decode cX9_card 112 = .ok (.iadd, 1) := by decide +kernel
theorem dX9_card_113 : decode cX9_card 113 = .ok (.iaload, 1) := by decide +kernel
theorem dX9_card_114 : decode cX9_card 114 = .ok (.ireturn, 1) := by decide +kernel
theorem dX9_card_115 : decode cX9_card 115 = .ok (.aload_n 0, 1) := by decide +kernel
theorem dX9_card_116 : decode cX9_card 116 = .ok (.getfield 7, 3) := by decide +kernel
theorem dX9_card_119 : decode cX9_card 119 = .ok (.bipush 24, 2) := by decide +kernel
theorem dX9_card_121 : decode cX9_card 121 = .ok (.iload_n 1, 1) := by decide +kernel
theorem dX9_card_122 : decode cX9_card 122 = .ok (.iadd, 1) := by decide +kernel
theorem dX9_card_123 : decode cX9_card 123 = .ok (.iaload, 1) := by decide +kernel
theorem dX9_card_124 : decode cX9_card 124 = .ok (.ireturn, 1) := by decide +kernel
theorem dX9_card_125 : decode cX9_card 125 = .ok (.aload_n 0, 1) := by decide +kernel
theorem dX9_card_126 : decode cX9_card 126 = .ok (.iload_n 1, 1) := by decide +kernel
theorem dX9_card_127 : decode cX9_card 127 = .ok (.invokevirtual 187, 3) := by decide +kernel
theorem dX9_card_130 : decode cX9_card 130 = .ok (.ireturn, 1) := by decide +kernel
theorem dX9_card_131 : decode cX9_card 131 = .ok (.ldc 60, 2) := by decide +kernel
theorem dX9_card_133 : decode cX9_card 133 = .ok (.ireturn, 1) := by decide +kernel
set_option maxRecDepth 20000 in
theorem ggX9_pack_X9_in : GoodIn wsX9_pack wsX9_in := goodIn_r _ [7] (by decide +kernel) (by decide +kernel)
set_option maxRecDepth 20000 in
theorem gX9_pack_X9_in : GoodIn wsX9_pack (va_wsS RX9 56 yX9_in wsX9_in) := goodIn_app (goodIn_of _ (by decide +kernel)) ggX9_pack_X9_in
theorem dX9_pack_0 : decode cX9_pack 0 = .ok (.iload_n 1, 1) := by decide +kernel
theorem dX9_pack_1 : decode cX9_pack 1 = .ok (.i2l, 1) := by decide +kernel
theorem dX9_pack_2 : decode cX9_pack 2 = .ok (.lconst 0, 1) := by decide +kernel
theorem dX9_pack_3 : decode cX9_pack 3 = .ok (.aload_n 0, 1) := by decide +kernel
theorem dX9_pack_4 : decode cX9_pack 4 = .ok (.getfield 128, 3) := by decide +kernel
theorem dX9_pack_7 : decode cX9_pack 7 = .ok (.iconst 1, 1) := by decide +kernel
theorem dX9_pack_8 : decode cX9_pack 8 = .ok (.isub, 1) := by decide +kernel
theorem dX9_pack_9 : decode cX9_pack 9 = .ok (.i2l, 1) := by decide +kernel
theorem dX9_pack_10 : decode cX9_pack 10 = .ok (.invokestatic 56, 3) := by decide +kernel
theorem dX9_pack_13 : decode cX9_pack 13 = .ok (.ifCond .eq 12, 3) := by decide +kernel
theorem dX9_pack_16 : decode cX9_pack 16 = .ok (.aload_n 0, 1) := by decide +kernel
theorem dX9_pack_17 : decode cX9_pack 17 = .ok (.getfield 23, 3) := by decide +kernel
theorem dX9_pack_20 : decode cX9_pack 20 = .ok (.iload_n 1, 1) := by decide +kernel
theorem dX9_pack_21 : decode cX9_pack 21 = .ok (.iaload, 1) := by decide +kernel
theorem dX9_pack_22 : decode cX9_pack 22 = .ok (.goto 5, 3) := by decide +kernel
theorem dX9_pack_25 : decode cX9_pack 25 = .ok (.ldc 183, 2) := by decide +kernel
theorem dX9_pack_27 : decode cX9_pack 27 = .ok (.ireturn, 1) := by decide +kernel
set_option maxRecDepth 20000 in
theorem ggX9_yarn_X9_isColour : GoodIn wsX9_yarn wsX9_isColour := goodIn_r _ [7, 8, 9, 10, 6, 11, 12, 13, 14, 15, 16, 17, 18, 19, 20, 21, 22, 23, 24, 25, 26, 27, 28, 29, 30, 31, 32, 33, 34, 35, 36, 37, 38] (by decide +kernel) (by decide +kernel)
set_option maxRecDepth 20000 in
theorem gX9_yarn_X9_isColour : GoodIn wsX9_yarn (wsV RX9 190 RX9 yX9_isColour wsX9_isColour) := goodIn_app (goodIn_of _ (by decide +kernel)) ggX9_yarn_X9_isColour
theorem dX9_yarn_0 : decode cX9_yarn 0 = .ok (.aload_n 0, 1) := by decide +kernel
theorem dX9_yarn_1 : decode cX9_yarn 1 = .ok (.iload_n 1, 1) := by decide +kernel
theorem dX9_yarn_2 : decode cX9_yarn 2 = .ok (.invokevirtual 190, 3) := by decide +kernel
theorem dX9_yarn_5 : decode cX9_yarn 5 = .ok (.ifCond .eq 15, 3) := by decide +kernel
theorem dX9_yarn_8 : decode cX9_yarn 8 = .ok (.aload_n 0, 1) := by decide +kernel
theorem dX9_yarn_9 : decode cX9_yarn 9 = .ok (.getfield 7, 3) := by decide +kernel
theorem dX9_yarn_12 : decode cX9_yarn 12 = .ok (.bipush 40, 2) := by decide +kernel
theorem dX9_yarn_14 : decode cX9_yarn 14 = .ok (.iload_n 1, 1) := by decide +kernel
theorem dX9_yarn_15 : decode cX9_yarn 15 = .ok (.iadd, 1) := by decide +kernel
theorem dX9_yarn_16 : decode cX9_yarn 16 = .ok (.iaload, 1) := by decide +kernel
theorem dX9_yarn_17 : decode cX9_yarn 17 = .ok (.goto 5, 3) := by decide +kernel
theorem dX9_yarn_20 : decode cX9_yarn 20 = .ok (.ldc 183, 2) := by decide +kernel
theorem dX9_yarn_22 : decode cX9_yarn 22 = .ok (.ireturn, 1) := by decide +kernel
set_option maxRecDepth 20000 in
theorem ggX9_row_X9_isCard : GoodIn wsX9_row wsX9_isCard := goodIn_r _ [7, 8, 9, 10, 6, 11, 16, 17, 18, 19, 20, 21, 22, 23, 24, 25, 26, 27, 28, 29, 30, 31, 32, 33, 34, 35, 36, 37, 38, 39, 40, 41, 42] (by decide +kernel) (by decide +kernel)
set_option maxRecDepth 20000 in
theorem gX9_row_X9_isCard : GoodIn wsX9_row (wsV RX9 180 RX9 yX9_isCard wsX9_isCard) := goodIn_app (goodIn_of _ (by decide +kernel)) ggX9_row_X9_isCard
set_option maxRecDepth 20000 in
theorem ggX9_row_X9_in : GoodIn wsX9_row wsX9_in := goodIn_r _ [11] (by decide +kernel) (by decide +kernel)
set_option maxRecDepth 20000 in
theorem gX9_row_X9_in : GoodIn wsX9_row (va_wsS RX9 56 yX9_in wsX9_in) := goodIn_app (goodIn_of _ (by decide +kernel)) ggX9_row_X9_in
set_option maxRecDepth 20000 in
theorem ggX9_row_X9_was : GoodIn wsX9_row wsX9_was := goodIn_r _ [15, 2, 16, 17, 18, 19, 20, 21, 22, 23, 24, 25, 26, 27, 28, 29, 30, 31, 32, 33, 34, 35, 36, 37, 38, 39, 40, 41, 42] (by decide +kernel) (by decide +kernel)
set_option maxRecDepth 20000 in
theorem gX9_row_X9_was : GoodIn wsX9_row (wsV RX9 144 RX9 yX9_was wsX9_was) := goodIn_app (goodIn_of _ (by decide +kernel)) ggX9_row_X9_was
theorem dX9_row_0 : decode cX9_row 0 = .ok (.aload_n 0, 1) := by decide +kernel
theorem dX9_row_1 : decode cX9_row 1 = .ok (.iload_n 2, 1) := by decide +kernel
theorem dX9_row_2 : decode cX9_row 2 = .ok (.invokevirtual 180, 3) := by decide +kernel
theorem dX9_row_5 : decode cX9_row 5 = .ok (.ifCond .ne 6, 3) := by decide +kernel
theorem dX9_row_8 : decode cX9_row 8 = .ok (.ldc 183, 2) := by decide +kernel
theorem dX9_row_10 : decode cX9_row 10 = .ok (.ireturn, 1) := by decide +kernel
theorem dX9_row_11 : decode cX9_row 11 = .ok (.iload_n 1, 1) := by decide +kernel
theorem dX9_row_12 : decode cX9_row 12 = .ok (.i2l, 1) := by decide +kernel
theorem dX9_row_13 : decode cX9_row 13 = .ok (.lconst 0, 1) := by decide +kernel
theorem dX9_row_14 : decode cX9_row 14 = .ok (.aload_n 0, 1) := by decide +kernel
theorem dX9_row_15 : decode cX9_row 15 = .ok (.getfield 7, 3) := by decide +kernel
theorem dX9_row_18 : decode cX9_row 18 = .ok (.bipush 49, 2) := by decide +kernel
theorem dX9_row_20 : decode cX9_row 20 = .ok (.iaload, 1) := by decide +kernel
theorem dX9_row_21 : decode cX9_row 21 = .ok (.iconst 1, 1) := by decide +kernel
theorem dX9_row_22 : decode cX9_row 22 = .ok (.isub, 1) := by decide +kernel
theorem dX9_row_23 : decode cX9_row 23 = .ok (.i2l, 1) := by decide +kernel
theorem dX9_row_24 : decode cX9_row 24 = .ok (.invokestatic 56, 3) := by decide +kernel
theorem dX9_row_27 : decode cX9_row 27 = .ok (.ifCond .eq 12, 3) := by decide +kernel
theorem dX9_row_30 : decode cX9_row 30 = .ok (.aload_n 0, 1) := by decide +kernel
theorem dX9_row_31 : decode cX9_row 31 = .ok (.iload_n 1, 1) := by decide +kernel
theorem dX9_row_32 : decode cX9_row 32 = .ok (.iload_n 2, 1) := by decide +kernel
theorem dX9_row_33 : decode cX9_row 33 = .ok (.invokevirtual 144, 3) := by decide +kernel
theorem dX9_row_36 : decode cX9_row 36 = .ok (.goto 4, 3) := by decide +kernel
theorem dX9_row_39 : decode cX9_row 39 = .ok (.iconst (-1), 1) := by decide +kernel
theorem dX9_row_40 : decode cX9_row 40 = .ok (.ireturn, 1) := by decide +kernel
theorem dX9_copy_0 : decode cX9_copy 0 = .ok (.iconst 0, 1) := by decide +kernel
theorem dX9_copy_1 : decode cX9_copy 1 = .ok (.istore_n 3, 1) := by decide +kernel
theorem dX9_copy_2 : decode cX9_copy 2 = .ok (.iload_n 3, 1) := by decide +kernel
theorem dX9_copy_3 : decode cX9_copy 3 = .ok (.sipush 243, 3) := by decide +kernel
theorem dX9_copy_6 : decode cX9_copy 6 = .ok (.if_icmp .ge 25, 3) := by decide +kernel
theorem dX9_copy_9 : decode cX9_copy 9 = .ok (.aload_n 0, 1) := by decide +kernel
theorem dX9_copy_10 : decode cX9_copy 10 = .ok (.getfield 7, 3) := by decide +kernel
theorem dX9_copy_13 : decode cX9_copy 13 = .ok (.iload_n 2, 1) := by decide +kernel
theorem dX9_copy_14 : decode cX9_copy 14 = .ok (.iload_n 3, 1) := by decide +kernel
theorem dX9_copy_15 : decode cX9_copy 15 = .ok (.iadd, 1) := by decide +kernel
theorem dX9_copy_16 : decode cX9_copy 16 = .ok (.aload_n 0, 1) := by decide +kernel
theorem dX9_copy_17 : decode cX9_copy 17 = .ok (.getfield 7, 3) := by decide +kernel
theorem dX9_copy_20 : decode cX9_copy 20 = .ok (.iload_n 1, 1) := by decide +kernel
theorem dX9_copy_21 : decode cX9_copy 21 = .ok (.iload_n 3, 1) := by decide +kernel
theorem dX9_copy_22 : decode cX9_copy 22 = .ok (.iadd, 1) := by decide +kernel
theorem dX9_copy_23 : decode cX9_copy 23 = .ok (.iaload, 1) := by decide +kernel
theorem dX9_copy_24 : decode cX9_copy 24 = .ok (.iastore, 1) := by decide +kernel
theorem dX9_copy_25 : decode cX9_copy 25 = .ok (.iinc 3 1, 3) := by decide +kernel
theorem dX9_copy_28 : decode cX9_copy 28 = .ok (.goto (-26), 3) := by decide +kernel
theorem dX9_copy_31 : decode cX9_copy 31 = .ok (.return_, 1) := by decide +kernel
set_option maxRecDepth 20000 in
theorem ggX9_remember_X9_copy : GoodIn wsX9_remember wsX9_copy := goodIn_r _ [6, 7, 8, 9, 10, 11, 12, 13, 14, 15, 16, 17, 18, 19, 20, 21, 22, 23, 24, 25, 26, 27, 28, 29, 30, 31, 32, 33, 34] (by decide +kernel) (by decide +kernel)
set_option maxRecDepth 20000 in
theorem gX9_remember_X9_copy : GoodIn wsX9_remember (wsV RX9 193 RX9 yX9_copy wsX9_copy) := goodIn_app (goodIn_of _ (by decide +kernel)) ggX9_remember_X9_copy
theorem dX9_remember_0 : decode cX9_remember 0 = .ok (.aload_n 0, 1) := by decide +kernel
theorem dX9_remember_1 : decode cX9_remember 1 = .ok (.getfield 137, 3) := by decide +kernel
theorem dX9_remember_4 : decode cX9_remember 4 = .ok (.bipush 30, 2) := by decide +kernel
theorem dX9_remember_6 : decode cX9_remember 6 = .ok (.if_icmp .ne 51, 3) := by decide +kernel
theorem dX9_remember_9 : decode cX9_remember 9 = .ok (.iconst 1, 1) := by decide +kernel
theorem dX9_remember_10 : decode cX9_remember 10 = .ok (.istore_n 1, 1) := by decide +kernel
theorem dX9_remember_11 : decode cX9_remember 11 = .ok (.iload_n 1, 1) := by decide +kernel
theorem dX9_remember_12 : decode cX9_remember 12 = .ok (.bipush 30, 2) := by decide +kernel
theorem dX9_remember_14 : decode cX9_remember 14 = .ok (.if_icmp .ge 33, 3) := by decide +kernel
theorem dX9_remember_17 : decode cX9_remember 17 = .ok (.aload_n 0, 1) := by decide +kernel
theorem dX9_remember_18 : decode cX9_remember 18 = .ok (.sipush 972, 3) := by decide +kernel
theorem dX9_remember_21 : decode cX9_remember 21 = .ok (.sipush 243, 3) := by decide +kernel
theorem dX9_remember_24 : decode cX9_remember 24 = .ok (.iload_n 1, 1) := by decide +kernel
theorem dX9_remember_25 : decode cX9_remember 25 = .ok (.imul, 1) := by decide +kernel
theorem dX9_remember_26 : decode cX9_remember 26 = .ok (.iadd, 1) := by decide +kernel
theorem dX9_remember_27 : decode cX9_remember 27 = .ok (.sipush 972, 3) := by decide +kernel
theorem dX9_remember_30 : decode cX9_remember 30 = .ok (.sipush 243, 3) := by decide +kernel
theorem dX9_remember_33 : decode cX9_remember 33 = .ok (.iload_n 1, 1) := by decide +kernel
theorem dX9_remember_34 : decode cX9_remember 34 = .ok (.iconst 1, 1) := by decide +kernel
theorem dX9_remember_35 : decode cX9_remember 35 = .ok (.isub, 1) := by decide +kernel
theorem dX9_remember_36 : decode cX9_remember 36 = .ok (.imul, 1) := by decide +kernel
theorem dX9_remember_37 : decode cX9_remember 37 = .ok (.iadd, 1) := by decide +kernel
theorem dX9_remember_38 : decode cX9_remember 38 = .ok (.invokevirtual 193, 3) := by decide +kernel
theorem dX9_remember_41 : decode cX9_remember 41 = .ok (.iinc 1 1, 3) := by decide +kernel
theorem dX9_remember_44 : decode cX9_remember 44 = .ok (.goto (-33), 3) := by decide +kernel
theorem dX9_remember_47 : decode cX9_remember 47 = .ok (.aload_n 0, 1) := by decide +kernel
theorem dX9_remember_48 : decode cX9_remember 48 = .ok (.dup, 1) := by decide +kernel
theorem dX9_remember_49 : decode cX9_remember 49 = .ok (.getfield 137, 3) := by decide +kernel
theorem dX9_remember_52 : decode cX9_remember 52 = .ok (.iconst 1, 1) := by decide +kernel
theorem dX9_remember_53 : decode cX9_remember 53 = .ok (.isub, 1) := by decide +kernel
theorem dX9_remember_54 : decode cX9_remember 54 = .ok (.putfield 137, 3) := by decide +kernel
theorem dX9_remember_57 : decode cX9_remember 57 = .ok (.aload_n 0, 1) := by decide +kernel
theorem dX9_remember_58 : decode cX9_remember 58 = .ok (.iconst 0, 1) := by decide +kernel
theorem dX9_remember_59 : decode cX9_remember 59 = .ok (.sipush 972, 3) := by decide +kernel
theorem dX9_remember_62 : decode cX9_remember 62 = .ok (.sipush 243, 3) := by decide +kernel
theorem dX9_remember_65 : decode cX9_remember 65 = .ok (.aload_n 0, 1) := by decide +kernel
theorem dX9_remember_66 : decode cX9_remember 66 = .ok (.getfield 137, 3) := by decide +kernel
theorem dX9_remember_69 : decode cX9_remember 69 = .ok (.imul, 1) := by decide +kernel
theorem dX9_remember_70 : decode cX9_remember 70 = .ok (.iadd, 1) := by decide +kernel
theorem dX9_remember_71 : decode cX9_remember 71 = .ok (.invokevirtual 193, 3) := by decide +kernel
theorem dX9_remember_74 : decode cX9_remember 74 = .ok (.aload_n 0, 1) := by decide +kernel
theorem dX9_remember_75 : decode cX9_remember 75 = .ok (.dup, 1) := by decide +kernel
theorem dX9_remember_76 : decode cX9_remember 76 = .ok (.getfield 137, 3) := by decide +kernel
theorem dX9_remember_79 : decode cX9_remember 79 = .ok (.iconst 1, 1) := by decide +kernel
theorem dX9_remember_80 : decode cX9_remember 80 = .ok (.iadd, 1) := by decide +kernel
theorem dX9_remember_81 : decode cX9_remember 81 = .ok (.putfield 137, 3) := by decide +kernel
theorem dX9_remember_84 : decode cX9_remember 84 = .ok (.return_, 1) := by decide +kernel
theorem dX9_figureOf_0 : decode cX9_figureOf 0 = .ok (.iload_n 0, 1) := by decide +kernel
theorem dX9_figureOf_1 : decode cX9_figureOf 1 = .ok (.istore_n 2, 1) := by decide +kernel
theorem dX9_figureOf_2 : decode cX9_figureOf 2 = .ok (.iconst 0, 1) := by decide +kernel
theorem dX9_figureOf_3 : decode cX9_figureOf 3 = .ok (.istore_n 3, 1) := by decide +kernel
theorem dX9_figureOf_4 : decode cX9_figureOf 4 = .ok (.iload_n 3, 1) := by decide +kernel
theorem dX9_figureOf_5 : decode cX9_figureOf 5 = .ok (.iload_n 1, 1) := by decide +kernel
theorem dX9_figureOf_6 : decode cX9_figureOf 6 = .ok (.if_icmp .ge 13, 3) := by decide +kernel
theorem dX9_figureOf_9 : decode cX9_figureOf 9 = .ok (.iload_n 2, 1) := by decide +kernel
theorem dX9_figureOf_10 : decode cX9_figureOf 10 = .ok (.iconst 3, 1) := by decide +kernel
theorem dX9_figureOf_11 : decode cX9_figureOf 11 = .ok (.idiv, 1) := by decide +kernel
theorem dX9_figureOf_12 : decode cX9_figureOf 12 = .ok (.istore_n 2, 1) := by decide +kernel
theorem dX9_figureOf_13 : decode cX9_figureOf 13 = .ok (.iinc 3 1, 3) := by decide +kernel
theorem dX9_figureOf_16 : decode cX9_figureOf 16 = .ok (.goto (-12), 3) := by decide +kernel
theorem dX9_figureOf_19 : decode cX9_figureOf 19 = .ok (.iload_n 2, 1) := by decide +kernel
theorem dX9_figureOf_20 : decode cX9_figureOf 20 = .ok (.iconst 3, 1) := by decide +kernel
theorem dX9_figureOf_21 : decode cX9_figureOf 21 = .ok (.irem, 1) := by decide +kernel
theorem dX9_figureOf_22 : decode cX9_figureOf 22 = .ok (.ireturn, 1) := by decide +kernel
set_option maxRecDepth 20000 in
theorem ggX9_isMoves_X9_in : GoodIn wsX9_isMoves wsX9_in := goodIn_r _ [5] (by decide +kernel) (by decide +kernel)
set_option maxRecDepth 20000 in
theorem gX9_isMoves_X9_in : GoodIn wsX9_isMoves (va_wsS RX9 56 yX9_in wsX9_in) := goodIn_app (goodIn_of _ (by decide +kernel)) ggX9_isMoves_X9_in
theorem dX9_isMoves_0 : decode cX9_isMoves 0 = .ok (.iconst 1, 1) := by decide +kernel
theorem dX9_isMoves_1 : decode cX9_isMoves 1 = .ok (.istore_n 2, 1) := by decide +kernel
theorem dX9_isMoves_2 : decode cX9_isMoves 2 = .ok (.iconst 0, 1) := by decide +kernel
theorem dX9_isMoves_3 : decode cX9_isMoves 3 = .ok (.istore_n 3, 1) := by decide +kernel
theorem dX9_isMoves_4 : decode cX9_isMoves 4 = .ok (.iload_n 3, 1) := by decide +kernel
theorem dX9_isMoves_5 : decode cX9_isMoves 5 = .ok (.aload_n 0, 1) := by decide +kernel
theorem dX9_isMoves_6 : decode cX9_isMoves 6 = .ok (.getfield 128, 3) := by decide +kernel
theorem dX9_isMoves_9 : decode cX9_isMoves 9 = .ok (.if_icmp .ge 13, 3) := by decide +kernel
theorem dX9_isMoves_12 : decode cX9_isMoves 12 = .ok (.iload_n 2, 1) := by decide +kernel
theorem dX9_isMoves_13 : decode cX9_isMoves 13 = .ok (.iconst 3, 1) := by decide +kernel
theorem dX9_isMoves_14 : decode cX9_isMoves 14 = .ok (.imul, 1) := by decide +kernel
theorem dX9_isMoves_15 : decode cX9_isMoves 15 = .ok (.istore_n 2, 1) := by decide +kernel
theorem dX9_isMoves_16 : decode cX9_isMoves 16 = .ok (.iinc 3 1, 3) := by decide +kernel
theorem dX9_isMoves_19 : decode cX9_isMoves 19 = .ok (.goto (-15), 3) := by decide +kernel
theorem dX9_isMoves_22 : decode cX9_isMoves 22 = .ok (.iload_n 1, 1) := by decide +kernel
theorem dX9_isMoves_23 : decode cX9_isMoves 23 = .ok (.i2l, 1) := by decide +kernel
theorem dX9_isMoves_24 : decode cX9_isMoves 24 = .ok (.lconst 0, 1) := by decide +kernel
theorem dX9_isMoves_25 : decode cX9_isMoves 25 = .ok (.iload_n 2, 1) := by decide +kernel
theorem dX9_isMoves_26 : decode cX9_isMoves 26 = .ok (.iconst 1, 1) := by decide +kernel
theorem dX9_isMoves_27 : decode cX9_isMoves 27 = .ok (.isub, 1) := by decide +kernel
theorem dX9_isMoves_28 : decode cX9_isMoves 28 = .ok (.i2l, 1) := by decide +kernel
theorem dX9_isMoves_29 : decode cX9_isMoves 29 = .ok (.invokestatic 56, 3) := by decide +kernel
theorem dX9_isMoves_32 : decode cX9_isMoves 32 = .ok (.ireturn, 1) := by decide +kernel
set_option maxRecDepth 20000 in
theorem ggX9_turn_X9_colourOf : GoodIn wsX9_turn wsX9_colourOf := goodIn_r _ [6, 7, 8, 9, 10, 11, 12, 13, 14, 15, 16, 17, 18, 19, 20, 21, 22, 23, 24, 25, 26, 27, 28, 29, 30, 31, 32, 33, 34] (by decide +kernel) (by decide +kernel)
set_option maxRecDepth 20000 in
theorem gX9_turn_X9_colourOf : GoodIn wsX9_turn (wsV RX9 184 RX9 yX9_colourOf wsX9_colourOf) := goodIn_app (goodIn_of _ (by decide +kernel)) ggX9_turn_X9_colourOf
theorem dX9_turn_0 : decode cX9_turn 0 = .ok (.iload_n 3, 1) := by decide +kernel
theorem dX9_turn_1 : decode cX9_turn 1 = .ok (.iconst 2, 1) := by decide +kernel
theorem dX9_turn_2 : decode cX9_turn 2 = .ok (.if_icmp .ne 23, 3) := by decide +kernel
theorem dX9_turn_5 : decode cX9_turn 5 = .ok (.aload_n 0, 1) := by decide +kernel
theorem dX9_turn_6 : decode cX9_turn 6 = .ok (.getfield 7, 3) := by decide +kernel
theorem dX9_turn_9 : decode cX9_turn 9 = .ok (.iload_n 1, 1) := by decide +kernel
theorem dX9_turn_10 : decode cX9_turn 10 = .ok (.iload_n 2, 1) := by decide +kernel
theorem dX9_turn_11 : decode cX9_turn 11 = .ok (.iadd, 1) := by decide +kernel
theorem dX9_turn_12 : decode cX9_turn 12 = .ok (.aload_n 0, 1) := by decide +kernel
theorem dX9_turn_13 : decode cX9_turn 13 = .ok (.getfield 7, 3) := by decide +kernel
theorem dX9_turn_16 : decode cX9_turn 16 = .ok (.iload_n 1, 1) := by decide +kernel
theorem dX9_turn_17 : decode cX9_turn 17 = .ok (.iload_n 2, 1) := by decide +kernel
theorem dX9_turn_18 : decode cX9_turn 18 = .ok (.iadd, 1) := by decide +kernel
theorem dX9_turn_19 : decode cX9_turn 19 = .ok (.iaload, 1) := by decide +kernel
theorem dX9_turn_20 : decode cX9_turn 20 = .ok (.iconst 3, 1) := by decide +kernel
theorem dX9_turn_21 : decode cX9_turn 21 = .ok (.iadd, 1) := by decide +kernel
theorem dX9_turn_22 : decode cX9_turn 22 = .ok (.iconst 4, 1) := by decide +kernel
theorem dX9_turn_23 : decode cX9_turn 23 = .ok (.irem, 1) := by decide +kernel
theorem dX9_turn_24 : decode cX9_turn 24 = .ok (.iastore, 1) := by decide +kernel
theorem dX9_turn_25 : decode cX9_turn 25 = .ok (.aload_n 0, 1) := by decide +kernel
theorem dX9_turn_26 : decode cX9_turn 26 = .ok (.iload_n 2, 1) := by decide +kernel
theorem dX9_turn_27 : decode cX9_turn 27 = .ok (.aload_n 0, 1) := by decide +kernel
theorem dX9_turn_28 : decode cX9_turn 28 = .ok (.getfield 7, 3) := by decide +kernel
theorem dX9_turn_31 : decode cX9_turn 31 = .ok (.iload_n 1, 1) := by decide +kernel
theorem dX9_turn_32 : decode cX9_turn 32 = .ok (.iload_n 2, 1) := by decide +kernel
theorem dX9_turn_33 : decode cX9_turn 33 = .ok (.iadd, 1) := by decide +kernel
theorem dX9_turn_34 : decode cX9_turn 34 = .ok (.iaload, 1) := by decide +kernel
theorem dX9_turn_35 : decode cX9_turn 35 = .ok (.invokevirtual 184, 3) := by decide +kernel
theorem dX9_turn_38 : decode cX9_turn 38 = .ok (.istore 4, 2) := by decide +kernel
theorem dX9_turn_40 : decode cX9_turn 40 = .ok (.iload_n 3, 1) := by decide +kernel
theorem dX9_turn_41 : decode cX9_turn 41 = .ok (.iconst 1, 1) := by decide +kernel
theorem dX9_turn_42 : decode cX9_turn 42 = .ok (.if_icmp .ne 23, 3) := by decide +kernel
theorem dX9_turn_45 : decode cX9_turn 45 = .ok (.aload_n 0, 1) := by decide +kernel
theorem dX9_turn_46 : decode cX9_turn 46 = .ok (.getfield 7, 3) := by decide +kernel
theorem dX9_turn_49 : decode cX9_turn 49 = .ok (.iload_n 1, 1) := by decide +kernel
theorem dX9_turn_50 : decode cX9_turn 50 = .ok (.iload_n 2, 1) := by decide +kernel
theorem dX9_turn_51 : decode cX9_turn 51 = .ok (.iadd, 1) := by decide +kernel
theorem dX9_turn_52 : decode cX9_turn 52 = .ok (.aload_n 0, 1) := by decide +kernel
theorem dX9_turn_53 : decode cX9_turn 53 = .ok (.getfield 7, 3) := by decide +kernel
theorem dX9_turn_56 : decode cX9_turn 56 = .ok (.iload_n 1, 1) := by decide +kernel
theorem dX9_turn_57 : decode cX9_turn 57 = .ok (.iload_n 2, 1) := by decide +kernel
theorem dX9_turn_58 : decode cX9_turn 58 = .ok (.iadd, 1) := by decide +kernel
theorem dX9_turn_59 : decode cX9_turn 59 = .ok (.iaload, 1) := by decide +kernel
theorem dX9_turn_60 : decode cX9_turn 60 = .ok (.iconst 1, 1) := by decide +kernel
theorem dX9_turn_61 : decode cX9_turn 61 = .ok (.iadd, 1) := by decide +kernel
theorem dX9_turn_62 : decode cX9_turn 62 = .ok (.iconst 4, 1) := by decide +kernel
theorem dX9_turn_63 : decode cX9_turn 63 = .ok (.irem, 1) := by decide +kernel
theorem dX9_turn_64 : decode cX9_turn 64 = .ok (.iastore, 1) := by decide +kernel
theorem dX9_turn_65 : decode cX9_turn 65 = .ok (.aload_n 0, 1) := by decide +kernel
theorem dX9_turn_66 : decode cX9_turn 66 = .ok (.getfield 7, 3) := by decide +kernel
theorem dX9_turn_69 : decode cX9_turn 69 = .ok (.iload_n 1, 1) := by decide +kernel
theorem dX9_turn_70 : decode cX9_turn 70 = .ok (.bipush 8, 2) := by decide +kernel
theorem dX9_turn_72 : decode cX9_turn 72 = .ok (.iadd, 1) := by decide +kernel
theorem dX9_turn_73 : decode cX9_turn 73 = .ok (.iload_n 2, 1) := by decide +kernel
theorem dX9_turn_74 : decode cX9_turn 74 = .ok (.iadd, 1) := by decide +kernel
theorem dX9_turn_75 : decode cX9_turn 75 = .ok (.dup2, 1) := by decide +kernel
theorem dX9_turn_76 : decode cX9_turn 76 = .ok (.iaload, 1) := by decide +kernel
theorem dX9_turn_77 : decode cX9_turn 77 = .ok (.iload_n 3, 1) := by decide +kernel
theorem dX9_turn_78 : decode cX9_turn 78 = .ok (.iconst 1, 1) := by decide +kernel
theorem dX9_turn_79 : decode cX9_turn 79 = .ok (.if_icmp .ne 7, 3) := by decide +kernel
theorem dX9_turn_82 : decode cX9_turn 82 = .ok (.iconst 1, 1) := by decide +kernel
theorem dX9_turn_83 : decode cX9_turn 83 = .ok (.goto 4, 3) := by decide +kernel
theorem dX9_turn_86 : decode cX9_turn 86 = .ok (.iconst (-1), 1) := by decide +kernel
theorem dX9_turn_87 : decode cX9_turn 87 = .ok (.iadd, 1) := by decide +kernel
theorem dX9_turn_88 : decode cX9_turn 88 = .ok (.iastore, 1) := by decide +kernel
theorem dX9_turn_89 : decode cX9_turn 89 = .ok (.aload_n 0, 1) := by decide +kernel
theorem dX9_turn_90 : decode cX9_turn 90 = .ok (.getfield 7, 3) := by decide +kernel
theorem dX9_turn_93 : decode cX9_turn 93 = .ok (.iload_n 1, 1) := by decide +kernel
theorem dX9_turn_94 : decode cX9_turn 94 = .ok (.bipush 16, 2) := by decide +kernel
theorem dX9_turn_96 : decode cX9_turn 96 = .ok (.iadd, 1) := by decide +kernel
theorem dX9_turn_97 : decode cX9_turn 97 = .ok (.iload_n 2, 1) := by decide +kernel
theorem dX9_turn_98 : decode cX9_turn 98 = .ok (.iadd, 1) := by decide +kernel
theorem dX9_turn_99 : decode cX9_turn 99 = .ok (.iload 4, 2) := by decide +kernel
theorem dX9_turn_101 : decode cX9_turn 101 = .ok (.iastore, 1) := by decide +kernel
theorem dX9_turn_102 : decode cX9_turn 102 = .ok (.aload_n 0, 1) := by decide +kernel
theorem dX9_turn_103 : decode cX9_turn 103 = .ok (.getfield 7, 3) := by decide +kernel
theorem dX9_turn_106 : decode cX9_turn 106 = .ok (.iload_n 1, 1) := by decide +kernel
theorem dX9_turn_107 : decode cX9_turn 107 = .ok (.bipush 24, 2) := by decide +kernel
theorem dX9_turn_109 : decode cX9_turn 109 = .ok (.iadd, 1) := by decide +kernel
theorem dX9_turn_110 : decode cX9_turn 110 = .ok (.iload_n 2, 1) := by decide +kernel
theorem dX9_turn_111 : decode cX9_turn 111 = .ok (.iadd, 1) := by decide +kernel
theorem dX9_turn_112 : decode cX9_turn 112 = .ok (.iload_n 3, 1) := by decide +kernel
theorem dX9_turn_113 : decode cX9_turn 113 = .ok (.iconst 1, 1) := by decide +kernel
theorem dX9_turn_114 : decode cX9_turn 114 = .ok (.if_icmp .ne 17, 3) := by decide +kernel
theorem dX9_turn_117 : decode cX9_turn 117 = .ok (.aload_n 0, 1) := by decide +kernel
theorem dX9_turn_118 : decode cX9_turn 118 = .ok (.getfield 7, 3) := by decide +kernel
theorem dX9_turn_121 : decode cX9_turn 121 = .ok (.iload_n 1, 1) := by decide +kernel
theorem dX9_turn_122 : decode cX9_turn 122 = .ok (.bipush 32, 2) := by decide +kernel
theorem dX9_turn_124 : decode cX9_turn 124 = .ok (.iadd, 1) := by decide +kernel
theorem dX9_turn_125 : decode cX9_turn 125 = .ok (.iload_n 2, 1) := by decide +kernel
theorem dX9_turn_126 : decode cX9_turn 126 = .ok (.iadd, 1) := by decide +kernel
theorem dX9_turn_127 : decode cX9_turn 127 = .ok (.iaload, 1) := by decide +kernel
theorem dX9_turn_128 : decode cX9_turn 128 = .ok (.goto 16, 3) := by decide +kernel
theorem dX9_turn_131 : decode cX9_turn 131 = .ok (.iconst 1, 1) := by decide +kernel
theorem dX9_turn_132 : decode cX9_turn 132 = .ok (.aload_n 0, 1) := by decide +kernel
theorem dX9_turn_133 : decode cX9_turn 133 = .ok (.getfield 7, 3) := by decide +kernel
theorem dX9_turn_136 : decode cX9_turn 136 = .ok (.iload_n 1, 1) := by decide +kernel
theorem dX9_turn_137 : decode cX9_turn 137 = .ok (.bipush 32, 2) := by decide +kernel
theorem dX9_turn_139 : decode cX9_turn 139 = .ok (.iadd, 1) := by decide +kernel
theorem dX9_turn_140 : decode cX9_turn 140 = .ok (.iload_n 2, 1) := by decide +kernel
theorem dX9_turn_141 : decode cX9_turn 141 = .ok (.iadd, 1) := by decide +kernel
theorem dX9_turn_142 : decode cX9_turn 142 = .ok (.iaload, 1) := by decide +kernel
theorem dX9_turn_143 : decode cX9_turn 143 = .ok (.isub, 1) := by decide +kernel
theorem dX9_turn_144 : decode cX9_turn 144 = .ok (.iastore, 1) := by decide +kernel
theorem dX9_turn_145 : decode cX9_turn 145 = .ok (.aload_n 0, 1) := by decide +kernel
theorem dX9_turn_146 : decode cX9_turn 146 = .ok (.getfield 7, 3) := by decide +kernel
theorem dX9_turn_149 : decode cX9_turn 149 = .ok (.iload_n 1, 1) := by decide +kernel
theorem dX9_turn_150 : decode cX9_turn 150 = .ok (.bipush 40, 2) := by decide +kernel
theorem dX9_turn_152 : decode cX9_turn 152 = .ok (.iadd, 1) := by decide +kernel
theorem dX9_turn_153 : decode cX9_turn 153 = .ok (.iload 4, 2) := by decide +kernel
theorem dX9_turn_155 : decode cX9_turn 155 = .ok (.iadd, 1) := by decide +kernel
theorem dX9_turn_156 : decode cX9_turn 156 = .ok (.dup2, 1) := by decide +kernel
theorem dX9_turn_157 : decode cX9_turn 157 = .ok (.iaload, 1) := by decide +kernel
theorem dX9_turn_158 : decode cX9_turn 158 = .ok (.iconst 1, 1) := by decide +kernel
theorem dX9_turn_159 : decode cX9_turn 159 = .ok (.isub, 1) := by decide +kernel
theorem dX9_turn_160 : decode cX9_turn 160 = .ok (.iastore, 1) := by decide +kernel
theorem dX9_turn_161 : decode cX9_turn 161 = .ok (.return_, 1) := by decide +kernel
theorem dX9_lay_0 : decode cX9_lay 0 = .ok (.aload_n 0, 1) := by decide +kernel
theorem dX9_lay_1 : decode cX9_lay 1 = .ok (.getfield 7, 3) := by decide +kernel
theorem dX9_lay_4 : decode cX9_lay 4 = .ok (.iload_n 1, 1) := by decide +kernel
theorem dX9_lay_5 : decode cX9_lay 5 = .ok (.bipush 49, 2) := by decide +kernel
theorem dX9_lay_7 : decode cX9_lay 7 = .ok (.iadd, 1) := by decide +kernel
theorem dX9_lay_8 : decode cX9_lay 8 = .ok (.iaload, 1) := by decide +kernel
theorem dX9_lay_9 : decode cX9_lay 9 = .ok (.bipush 24, 2) := by decide +kernel
theorem dX9_lay_11 : decode cX9_lay 11 = .ok (.if_icmp .ne 57, 3) := by decide +kernel
theorem dX9_lay_14 : decode cX9_lay 14 = .ok (.bipush 8, 2) := by decide +kernel
theorem dX9_lay_16 : decode cX9_lay 16 = .ok (.istore_n 2, 1) := by decide +kernel
theorem dX9_lay_17 : decode cX9_lay 17 = .ok (.iload_n 2, 1) := by decide +kernel
theorem dX9_lay_18 : decode cX9_lay 18 = .ok (.sipush 192, 3) := by decide +kernel
theorem dX9_lay_21 : decode cX9_lay 21 = .ok (.if_icmp .ge 34, 3) := by decide +kernel
theorem dX9_lay_24 : decode cX9_lay 24 = .ok (.aload_n 0, 1) := by decide +kernel
theorem dX9_lay_25 : decode cX9_lay 25 = .ok (.getfield 7, 3) := by decide +kernel
theorem dX9_lay_28 : decode cX9_lay 28 = .ok (.iload_n 1, 1) := by decide +kernel
theorem dX9_lay_29 : decode cX9_lay 29 = .ok (.bipush 50, 2) := by decide +kernel
theorem dX9_lay_31 : decode cX9_lay 31 = .ok (.iadd, 1) := by decide +kernel
theorem dX9_lay_32 : decode cX9_lay 32 = .ok (.iload_n 2, 1) := by decide +kernel
theorem dX9_lay_33 : decode cX9_lay 33 = .ok (.iadd, 1) := by decide +kernel
theorem dX9_lay_34 : decode cX9_lay 34 = .ok (.bipush 8, 2) := by decide +kernel
theorem dX9_lay_36 : decode cX9_lay 36 = .ok (.isub, 1) := by decide +kernel
theorem dX9_lay_37 : decode cX9_lay 37 = .ok (.aload_n 0, 1) := by decide +kernel
theorem dX9_lay_38 : decode cX9_lay 38 = .ok (.getfield 7, 3) := by decide +kernel
theorem dX9_lay_41 : decode cX9_lay 41 = .ok (.iload_n 1, 1) := by decide +kernel
theorem dX9_lay_42 : decode cX9_lay 42 = .ok (.bipush 50, 2) := by decide +kernel
theorem dX9_lay_44 : decode cX9_lay 44 = .ok (.iadd, 1) := by decide +kernel
theorem dX9_lay_45 : decode cX9_lay 45 = .ok (.iload_n 2, 1) := by decide +kernel
theorem dX9_lay_46 : decode cX9_lay 46 = .ok (.iadd, 1) := by decide +kernel
theorem dX9_lay_47 : decode cX9_lay 47 = .ok (.iaload, 1) := by decide +kernel
theorem dX9_lay_48 : decode cX9_lay 48 = .ok (.iastore, 1) := by decide +kernel
theorem dX9_lay_49 : decode cX9_lay 49 = .ok (.iinc 2 1, 3) := by decide +kernel
theorem dX9_lay_52 : decode cX9_lay 52 = .ok (.goto (-35), 3) := by decide +kernel
theorem dX9_lay_55 : decode cX9_lay 55 = .ok (.aload_n 0, 1) := by decide +kernel
theorem dX9_lay_56 : decode cX9_lay 56 = .ok (.getfield 7, 3) := by decide +kernel
theorem dX9_lay_59 : decode cX9_lay 59 = .ok (.iload_n 1, 1) := by decide +kernel
theorem dX9_lay_60 : decode cX9_lay 60 = .ok (.bipush 49, 2) := by decide +kernel
theorem dX9_lay_62 : decode cX9_lay 62 = .ok (.iadd, 1) := by decide +kernel
theorem dX9_lay_63 : decode cX9_lay 63 = .ok (.dup2, 1) := by decide +kernel
theorem dX9_lay_64 : decode cX9_lay 64 = .ok (.iaload, 1) := by decide +kernel
theorem dX9_lay_65 : decode cX9_lay 65 = .ok (.iconst 1, 1) := by decide +kernel
theorem dX9_lay_66 : decode cX9_lay 66 = .ok (.isub, 1) := by decide +kernel
theorem dX9_lay_67 : decode cX9_lay 67 = .ok (.iastore, 1) := by decide +kernel
theorem dX9_lay_68 : decode cX9_lay 68 = .ok (.iconst 0, 1) := by decide +kernel
theorem dX9_lay_69 : decode cX9_lay 69 = .ok (.istore_n 2, 1) := by decide +kernel
theorem dX9_lay_70 : decode cX9_lay 70 = .ok (.iload_n 2, 1) := by decide +kernel
theorem dX9_lay_71 : decode cX9_lay 71 = .ok (.bipush 8, 2) := by decide +kernel
theorem dX9_lay_73 : decode cX9_lay 73 = .ok (.if_icmp .ge 44, 3) := by decide +kernel
theorem dX9_lay_76 : decode cX9_lay 76 = .ok (.aload_n 0, 1) := by decide +kernel
theorem dX9_lay_77 : decode cX9_lay 77 = .ok (.getfield 7, 3) := by decide +kernel
theorem dX9_lay_80 : decode cX9_lay 80 = .ok (.iload_n 1, 1) := by decide +kernel
theorem dX9_lay_81 : decode cX9_lay 81 = .ok (.bipush 50, 2) := by decide +kernel
theorem dX9_lay_83 : decode cX9_lay 83 = .ok (.iadd, 1) := by decide +kernel
theorem dX9_lay_84 : decode cX9_lay 84 = .ok (.bipush 8, 2) := by decide +kernel
theorem dX9_lay_86 : decode cX9_lay 86 = .ok (.aload_n 0, 1) := by decide +kernel
theorem dX9_lay_87 : decode cX9_lay 87 = .ok (.getfield 7, 3) := by decide +kernel
theorem dX9_lay_90 : decode cX9_lay 90 = .ok (.iload_n 1, 1) := by decide +kernel
theorem dX9_lay_91 : decode cX9_lay 91 = .ok (.bipush 49, 2) := by decide +kernel
theorem dX9_lay_93 : decode cX9_lay 93 = .ok (.iadd, 1) := by decide +kernel
theorem dX9_lay_94 : decode cX9_lay 94 = .ok (.iaload, 1) := by decide +kernel
theorem dX9_lay_95 : decode cX9_lay 95 = .ok (.imul, 1) := by decide +kernel
theorem dX9_lay_96 : decode cX9_lay 96 = .ok (.iadd, 1) := by decide +kernel
theorem dX9_lay_97 : decode cX9_lay 97 = .ok (.iload_n 2, 1) := by decide +kernel
theorem dX9_lay_98 : decode cX9_lay 98 = .ok (.iadd, 1) := by decide +kernel
theorem dX9_lay_99 : decode cX9_lay 99 = .ok (.aload_n 0, 1) := by decide +kernel
theorem dX9_lay_100 : decode cX9_lay 100 = .ok (.getfield 7, 3) := by decide +kernel
theorem dX9_lay_103 : decode cX9_lay 103 = .ok (.iload_n 1, 1) := by decide +kernel
theorem dX9_lay_104 : decode cX9_lay 104 = .ok (.bipush 16, 2) := by decide +kernel
theorem dX9_lay_106 : decode cX9_lay 106 = .ok (.iadd, 1) := by decide +kernel
theorem dX9_lay_107 : decode cX9_lay 107 = .ok (.iload_n 2, 1) := by decide +kernel
theorem dX9_lay_108 : decode cX9_lay 108 = .ok (.iadd, 1) := by decide +kernel
theorem dX9_lay_109 : decode cX9_lay 109 = .ok (.iaload, 1) := by decide +kernel
theorem dX9_lay_110 : decode cX9_lay 110 = .ok (.iastore, 1) := by decide +kernel
theorem dX9_lay_111 : decode cX9_lay 111 = .ok (.iinc 2 1, 3) := by decide +kernel
theorem dX9_lay_114 : decode cX9_lay 114 = .ok (.goto (-44), 3) := by decide +kernel
theorem dX9_lay_117 : decode cX9_lay 117 = .ok (.aload_n 0, 1) := by decide +kernel
theorem dX9_lay_118 : decode cX9_lay 118 = .ok (.getfield 7, 3) := by decide +kernel
theorem dX9_lay_121 : decode cX9_lay 121 = .ok (.iload_n 1, 1) := by decide +kernel
theorem dX9_lay_122 : decode cX9_lay 122 = .ok (.bipush 49, 2) := by decide +kernel
theorem dX9_lay_124 : decode cX9_lay 124 = .ok (.iadd, 1) := by decide +kernel
theorem dX9_lay_125 : decode cX9_lay 125 = .ok (.dup2, 1) := by decide +kernel
theorem dX9_lay_126 : decode cX9_lay 126 = .ok (.iaload, 1) := by decide +kernel
theorem dX9_lay_127 : decode cX9_lay 127 = .ok (.iconst 1, 1) := by decide +kernel
theorem dX9_lay_128 : decode cX9_lay 128 = .ok (.iadd, 1) := by decide +kernel
theorem dX9_lay_129 : decode cX9_lay 129 = .ok (.iastore, 1) := by decide +kernel
theorem dX9_lay_130 : decode cX9_lay 130 = .ok (.aload_n 0, 1) := by decide +kernel
theorem dX9_lay_131 : decode cX9_lay 131 = .ok (.getfield 7, 3) := by decide +kernel
theorem dX9_lay_134 : decode cX9_lay 134 = .ok (.iload_n 1, 1) := by decide +kernel
theorem dX9_lay_135 : decode cX9_lay 135 = .ok (.bipush 48, 2) := by decide +kernel
theorem dX9_lay_137 : decode cX9_lay 137 = .ok (.iadd, 1) := by decide +kernel
theorem dX9_lay_138 : decode cX9_lay 138 = .ok (.dup2, 1) := by decide +kernel
theorem dX9_lay_139 : decode cX9_lay 139 = .ok (.iaload, 1) := by decide +kernel
theorem dX9_lay_140 : decode cX9_lay 140 = .ok (.iconst 1, 1) := by decide +kernel
theorem dX9_lay_141 : decode cX9_lay 141 = .ok (.iadd, 1) := by decide +kernel
theorem dX9_lay_142 : decode cX9_lay 142 = .ok (.iastore, 1) := by decide +kernel
theorem dX9_lay_143 : decode cX9_lay 143 = .ok (.return_, 1) := by decide +kernel
set_option maxRecDepth 20000 in
theorem ggX9_pickIn_X9_packOf : GoodIn wsX9_pickIn wsX9_packOf := goodIn_r _ [6, 7, 8, 9, 10, 5, 11, 29, 30, 31, 32, 33, 34, 35, 36, 37, 38, 39, 40, 41, 42, 43, 44, 45, 46, 47, 48, 49, 50, 51, 52, 53, 54, 55] (by decide +kernel) (by decide +kernel)
set_option maxRecDepth 20000 in
theorem gX9_pickIn_X9_packOf : GoodIn wsX9_pickIn (wsV RX9 187 RX9 yX9_packOf wsX9_packOf) := goodIn_app (goodIn_of _ (by decide +kernel)) ggX9_pickIn_X9_packOf
set_option maxRecDepth 20000 in
theorem ggX9_pickIn_X9_figureOf : GoodIn wsX9_pickIn wsX9_figureOf := goodIn_r _ [14] (by decide +kernel) (by decide +kernel)
set_option maxRecDepth 20000 in
theorem gX9_pickIn_X9_figureOf : GoodIn wsX9_pickIn (va_wsS RX9 197 yX9_figureOf wsX9_figureOf) := goodIn_app (goodIn_of _ (by decide +kernel)) ggX9_pickIn_X9_figureOf
set_option maxRecDepth 20000 in
theorem ggX9_pickIn_X9_turn : GoodIn wsX9_pickIn wsX9_turn := goodIn_r _ [18, 19, 20, 21, 22, 5, 23, 24, 29, 30, 31, 32, 33, 34, 35, 36, 37, 38, 39, 40, 41, 42, 43, 44, 45, 46, 47, 48, 49, 50, 51, 52, 53, 54, 55] (by decide +kernel) (by decide +kernel)
set_option maxRecDepth 20000 in
theorem gX9_pickIn_X9_turn : GoodIn wsX9_pickIn (wsV RX9 200 RX9 yX9_turn wsX9_turn) := goodIn_app (goodIn_of _ (by decide +kernel)) ggX9_pickIn_X9_turn
set_option maxRecDepth 20000 in
theorem ggX9_pickIn_X9_lay : GoodIn wsX9_pickIn wsX9_lay := goodIn_r _ [28, 19, 29, 30, 31, 32, 33, 34, 35, 36, 37, 38, 39, 40, 41, 42, 43, 44, 45, 46, 47, 48, 49, 50, 51, 52, 53, 54, 55] (by decide +kernel) (by decide +kernel)
set_option maxRecDepth 20000 in
theorem gX9_pickIn_X9_lay : GoodIn wsX9_pickIn (wsV RX9 204 RX9 yX9_lay wsX9_lay) := goodIn_app (goodIn_of _ (by decide +kernel)) ggX9_pickIn_X9_lay
theorem dX9_pickIn_0 : decode cX9_pickIn 0 = .ok (.iconst 0, 1) := by decide +kernel
theorem dX9_pickIn_1 : decode cX9_pickIn 1 = .ok (.istore_n 3, 1) := by decide +kernel
theorem dX9_pickIn_2 : decode cX9_pickIn 2 = .ok (.iload_n 3, 1) := by decide +kernel
theorem dX9_pickIn_3 : decode cX9_pickIn 3 = .ok (.aload_n 0, 1) := by decide +kernel
theorem dX9_pickIn_4 : decode cX9_pickIn 4 = .ok (.getfield 122, 3) := by decide +kernel
theorem dX9_pickIn_7 : decode cX9_pickIn 7 = .ok (.if_icmp .ge 47, 3) := by decide +kernel
theorem dX9_pickIn_10 : decode cX9_pickIn 10 = .ok (.aload_n 0, 1) := by decide +kernel
theorem dX9_pickIn_11 : decode cX9_pickIn 11 = .ok (.iload_n 3, 1) := by decide +kernel
theorem dX9_pickIn_12 : decode cX9_pickIn 12 = .ok (.invokevirtual 187, 3) := by decide +kernel
theorem dX9_pickIn_15 : decode cX9_pickIn 15 = .ok (.istore 4, 2) := by decide +kernel
theorem dX9_pickIn_17 : decode cX9_pickIn 17 = .ok (.iload 4, 2) := by decide +kernel
theorem dX9_pickIn_19 : decode cX9_pickIn 19 = .ok (.iconst (-1), 1) := by decide +kernel
theorem dX9_pickIn_20 : decode cX9_pickIn 20 = .ok (.if_icmp .ne 7, 3) := by decide +kernel
theorem dX9_pickIn_23 : decode cX9_pickIn 23 = .ok (.iconst 0, 1) := by decide +kernel
theorem dX9_pickIn_24 : decode cX9_pickIn 24 = .ok (.goto 9, 3) := by decide +kernel
theorem dX9_pickIn_27 : decode cX9_pickIn 27 = .ok (.iload_n 2, 1) := by decide +kernel
theorem dX9_pickIn_28 : decode cX9_pickIn 28 = .ok (.iload 4, 2) := by decide +kernel
theorem dX9_pickIn_30 : decode cX9_pickIn 30 = .ok (.invokestatic 197, 3) := by decide +kernel
theorem dX9_pickIn_33 : decode cX9_pickIn 33 = .ok (.istore 5, 2) := by decide +kernel
theorem dX9_pickIn_35 : decode cX9_pickIn 35 = .ok (.iload 5, 2) := by decide +kernel
theorem dX9_pickIn_37 : decode cX9_pickIn 37 = .ok (.ifCond .le 11, 3) := by decide +kernel
theorem dX9_pickIn_40 : decode cX9_pickIn 40 = .ok (.aload_n 0, 1) := by decide +kernel
theorem dX9_pickIn_41 : decode cX9_pickIn 41 = .ok (.iload_n 1, 1) := by decide +kernel
theorem dX9_pickIn_42 : decode cX9_pickIn 42 = .ok (.iload_n 3, 1) := by decide +kernel
theorem dX9_pickIn_43 : decode cX9_pickIn 43 = .ok (.iload 5, 2) := by decide +kernel
theorem dX9_pickIn_45 : decode cX9_pickIn 45 = .ok (.invokevirtual 200, 3) := by decide +kernel
theorem dX9_pickIn_48 : decode cX9_pickIn 48 = .ok (.iinc 3 1, 3) := by decide +kernel
theorem dX9_pickIn_51 : decode cX9_pickIn 51 = .ok (.goto (-49), 3) := by decide +kernel
theorem dX9_pickIn_54 : decode cX9_pickIn 54 = .ok (.aload_n 0, 1) := by decide +kernel
theorem dX9_pickIn_55 : decode cX9_pickIn 55 = .ok (.iload_n 1, 1) := by decide +kernel
theorem dX9_pickIn_56 : decode cX9_pickIn 56 = .ok (.invokevirtual 204, 3) := by decide +kernel
theorem dX9_pickIn_59 : decode cX9_pickIn 59 = .ok (.return_, 1) := by decide +kernel
theorem dX9_lacks_0 : decode cX9_lacks 0 = .ok (.iconst (-1), 1) := by decide +kernel
theorem dX9_lacks_1 : decode cX9_lacks 1 = .ok (.istore_n 2, 1) := by decide +kernel
theorem dX9_lacks_2 : decode cX9_lacks 2 = .ok (.aload_n 0, 1) := by decide +kernel
theorem dX9_lacks_3 : decode cX9_lacks 3 = .ok (.getfield 125, 3) := by decide +kernel
theorem dX9_lacks_6 : decode cX9_lacks 6 = .ok (.iconst 1, 1) := by decide +kernel
theorem dX9_lacks_7 : decode cX9_lacks 7 = .ok (.isub, 1) := by decide +kernel
theorem dX9_lacks_8 : decode cX9_lacks 8 = .ok (.istore_n 3, 1) := by decide +kernel
theorem dX9_lacks_9 : decode cX9_lacks 9 = .ok (.iload_n 3, 1) := by decide +kernel
theorem dX9_lacks_10 : decode cX9_lacks 10 = .ok (.ifCond .lt 29, 3) := by decide +kernel
theorem dX9_lacks_13 : decode cX9_lacks 13 = .ok (.aload_n 0, 1) := by decide +kernel
theorem dX9_lacks_14 : decode cX9_lacks 14 = .ok (.getfield 7, 3) := by decide +kernel
theorem dX9_lacks_17 : decode cX9_lacks 17 = .ok (.iload_n 1, 1) := by decide +kernel
theorem dX9_lacks_18 : decode cX9_lacks 18 = .ok (.bipush 40, 2) := by decide +kernel
theorem dX9_lacks_20 : decode cX9_lacks 20 = .ok (.iadd, 1) := by decide +kernel
theorem dX9_lacks_21 : decode cX9_lacks 21 = .ok (.iload_n 3, 1) := by decide +kernel
theorem dX9_lacks_22 : decode cX9_lacks 22 = .ok (.iadd, 1) := by decide +kernel
theorem dX9_lacks_23 : decode cX9_lacks 23 = .ok (.iaload, 1) := by decide +kernel
theorem dX9_lacks_24 : decode cX9_lacks 24 = .ok (.ifCond .ge 7, 3) := by decide +kernel
theorem dX9_lacks_27 : decode cX9_lacks 27 = .ok (.iload_n 3, 1) := by decide +kernel
theorem dX9_lacks_28 : decode cX9_lacks 28 = .ok (.goto 4, 3) := by decide +kernel
theorem dX9_lacks_31 : decode cX9_lacks 31 = .ok (.iload_n 2, 1) := by decide +kernel
theorem dX9_lacks_32 : decode cX9_lacks 32 = .ok (.istore_n 2, 1) := by decide +kernel
theorem dX9_lacks_33 : decode cX9_lacks 33 = .ok (.iinc 3 (-1), 3) := by decide +kernel
theorem dX9_lacks_36 : decode cX9_lacks 36 = .ok (.goto (-27), 3) := by decide +kernel
theorem dX9_lacks_39 : decode cX9_lacks 39 = .ok (.iload_n 2, 1) := by decide +kernel
theorem dX9_lacks_40 : decode cX9_lacks 40 = .ok (.ireturn, 1) := by decide +kernel
set_option maxRecDepth 20000 in
theorem ggX9_isTight_X9_size : GoodIn wsX9_isTight wsX9_size := goodIn_r _ [6] (by decide +kernel) (by decide +kernel)
set_option maxRecDepth 20000 in
theorem gX9_isTight_X9_size : GoodIn wsX9_isTight (va_wsS RX9 207 yX9_size wsX9_size) := goodIn_app (goodIn_of _ (by decide +kernel)) ggX9_isTight_X9_size
theorem dX9_isTight_0 : decode cX9_isTight 0 = .ok (.iconst 0, 1) := by decide +kernel
theorem dX9_isTight_1 : decode cX9_isTight 1 = .ok (.istore_n 2, 1) := by decide +kernel
theorem dX9_isTight_2 : decode cX9_isTight 2 = .ok (.iconst 0, 1) := by decide +kernel
theorem dX9_isTight_3 : decode cX9_isTight 3 = .ok (.istore_n 3, 1) := by decide +kernel
theorem dX9_isTight_4 : decode cX9_isTight 4 = .ok (.iload_n 3, 1) := by decide +kernel
theorem dX9_isTight_5 : decode cX9_isTight 5 = .ok (.aload_n 0, 1) := by decide +kernel
theorem dX9_isTight_6 : decode cX9_isTight 6 = .ok (.getfield 122, 3) := by decide +kernel
theorem dX9_isTight_9 : decode cX9_isTight 9 = .ok (.if_icmp .ge 38, 3) := by decide +kernel
theorem dX9_isTight_12 : decode cX9_isTight 12 = .ok (.iload_n 2, 1) := by decide +kernel
theorem dX9_isTight_13 : decode cX9_isTight 13 = .ok (.ifCond .ne 22, 3) := by decide +kernel
theorem dX9_isTight_16 : decode cX9_isTight 16 = .ok (.aload_n 0, 1) := by decide +kernel
theorem dX9_isTight_17 : decode cX9_isTight 17 = .ok (.getfield 7, 3) := by decide +kernel
theorem dX9_isTight_20 : decode cX9_isTight 20 = .ok (.iload_n 1, 1) := by decide +kernel
theorem dX9_isTight_21 : decode cX9_isTight 21 = .ok (.bipush 8, 2) := by decide +kernel
theorem dX9_isTight_23 : decode cX9_isTight 23 = .ok (.iadd, 1) := by decide +kernel
theorem dX9_isTight_24 : decode cX9_isTight 24 = .ok (.iload_n 3, 1) := by decide +kernel
theorem dX9_isTight_25 : decode cX9_isTight 25 = .ok (.iadd, 1) := by decide +kernel
theorem dX9_isTight_26 : decode cX9_isTight 26 = .ok (.iaload, 1) := by decide +kernel
theorem dX9_isTight_27 : decode cX9_isTight 27 = .ok (.invokestatic 207, 3) := by decide +kernel
theorem dX9_isTight_30 : decode cX9_isTight 30 = .ok (.bipush 99, 2) := by decide +kernel
theorem dX9_isTight_32 : decode cX9_isTight 32 = .ok (.if_icmp .le 7, 3) := by decide +kernel
theorem dX9_isTight_35 : decode cX9_isTight 35 = .ok (.iconst 1, 1) := by decide +kernel
theorem dX9_isTight_36 : decode cX9_isTight 36 = .ok (.goto 4, 3) := by decide +kernel
theorem dX9_isTight_39 : decode cX9_isTight 39 = .ok (.iconst 0, 1) := by decide +kernel
theorem dX9_isTight_40 : decode cX9_isTight 40 = .ok (.istore_n 2, 1) := by decide +kernel
theorem dX9_isTight_41 : decode cX9_isTight 41 = .ok (.iinc 3 1, 3) := by decide +kernel
theorem dX9_isTight_44 : decode cX9_isTight 44 = .ok (.goto (-40), 3) := by decide +kernel
theorem dX9_isTight_47 : decode cX9_isTight 47 = .ok (.iload_n 2, 1) := by decide +kernel
theorem dX9_isTight_48 : decode cX9_isTight 48 = .ok (.ireturn, 1) := by decide +kernel
set_option maxRecDepth 20000 in
theorem ggX9_canPick_X9_copy : GoodIn wsX9_canPick wsX9_copy := goodIn_r _ [5, 6, 49, 50, 51, 52, 53, 54, 55, 56, 57, 58, 59, 60, 61, 62, 63, 64, 65, 66, 67, 68, 69, 70, 71, 72, 73, 74, 75] (by decide +kernel) (by decide +kernel)
set_option maxRecDepth 20000 in
theorem gX9_canPick_X9_copy : GoodIn wsX9_canPick (wsV RX9 193 RX9 yX9_copy wsX9_copy) := goodIn_app (goodIn_of _ (by decide +kernel)) ggX9_canPick_X9_copy
set_option maxRecDepth 20000 in
theorem ggX9_canPick_X9_pickIn : GoodIn wsX9_canPick wsX9_pickIn := goodIn_r _ [10, 11, 12, 13, 14, 4, 15, 16, 17, 18, 19, 20, 21, 22, 23, 24, 25, 26, 27, 6, 28, 29, 30, 31, 32, 33, 34, 35, 36, 49, 50, 51, 52, 53, 54, 55, 56, 57, 58, 59, 60, 61, 62, 63, 64, 65, 66, 67, 68, 69, 70, 71, 72, 73, 74, 75] (by decide +kernel) (by decide +kernel)
set_option maxRecDepth 20000 in
theorem gX9_canPick_X9_pickIn : GoodIn wsX9_canPick (wsV RX9 210 RX9 yX9_pickIn wsX9_pickIn) := goodIn_app (goodIn_of _ (by decide +kernel)) ggX9_canPick_X9_pickIn
set_option maxRecDepth 20000 in
theorem ggX9_canPick_X9_lacks : GoodIn wsX9_canPick wsX9_lacks := goodIn_r _ [40, 41, 6, 49, 50, 51, 52, 53, 54, 55, 56, 57, 58, 59, 60, 61, 62, 63, 64, 65, 66, 67, 68, 69, 70, 71, 72, 73, 74, 75] (by decide +kernel) (by decide +kernel)
set_option maxRecDepth 20000 in
theorem gX9_canPick_X9_lacks : GoodIn wsX9_canPick (wsV RX9 213 RX9 yX9_lacks wsX9_lacks) := goodIn_app (goodIn_of _ (by decide +kernel)) ggX9_canPick_X9_lacks
set_option maxRecDepth 20000 in
theorem ggX9_canPick_X9_isTight : GoodIn wsX9_canPick wsX9_isTight := goodIn_r _ [45, 11, 6, 46, 47, 4, 48, 49, 50, 51, 52, 53, 54, 55, 56, 57, 58, 59, 60, 61, 62, 63, 64, 65, 66, 67, 68, 69, 70, 71, 72, 73, 74, 75] (by decide +kernel) (by decide +kernel)
set_option maxRecDepth 20000 in
theorem gX9_canPick_X9_isTight : GoodIn wsX9_canPick (wsV RX9 216 RX9 yX9_isTight wsX9_isTight) := goodIn_app (goodIn_of _ (by decide +kernel)) ggX9_canPick_X9_isTight
theorem dX9_canPick_0 : decode cX9_canPick 0 = .ok (.aload_n 0, 1) := by decide +kernel
theorem dX9_canPick_1 : decode cX9_canPick 1 = .ok (.iconst 0, 1) := by decide +kernel
theorem dX9_canPick_2 : decode cX9_canPick 2 = .ok (.sipush 243, 3) := by decide +kernel
theorem dX9_canPick_5 : decode cX9_canPick 5 = .ok (.invokevirtual 193, 3) := by decide +kernel
theorem dX9_canPick_8 : decode cX9_canPick 8 = .ok (.iconst 1, 1) := by decide +kernel
theorem dX9_canPick_9 : decode cX9_canPick 9 = .ok (.istore_n 3, 1) := by decide +kernel
theorem dX9_canPick_10 : decode cX9_canPick 10 = .ok (.iconst 0, 1) := by decide +kernel
theorem dX9_canPick_11 : decode cX9_canPick 11 = .ok (.istore 4, 2) := by decide +kernel
theorem dX9_canPick_13 : decode cX9_canPick 13 = .ok (.iload 4, 2) := by decide +kernel
theorem dX9_canPick_15 : decode cX9_canPick 15 = .ok (.iload_n 2, 1) := by decide +kernel
theorem dX9_canPick_16 : decode cX9_canPick 16 = .ok (.if_icmp .ge 48, 3) := by decide +kernel
theorem dX9_canPick_19 : decode cX9_canPick 19 = .ok (.iload_n 3, 1) := by decide +kernel
theorem dX9_canPick_20 : decode cX9_canPick 20 = .ok (.ifCond .eq 44, 3) := by decide +kernel
theorem dX9_canPick_23 : decode cX9_canPick 23 = .ok (.aload_n 0, 1) := by decide +kernel
theorem dX9_canPick_24 : decode cX9_canPick 24 = .ok (.sipush 243, 3) := by decide +kernel
theorem dX9_canPick_27 : decode cX9_canPick 27 = .ok (.iload_n 1, 1) := by decide +kernel
theorem dX9_canPick_28 : decode cX9_canPick 28 = .ok (.invokevirtual 210, 3) := by decide +kernel
theorem dX9_canPick_31 : decode cX9_canPick 31 = .ok (.aload_n 0, 1) := by decide +kernel
theorem dX9_canPick_32 : decode cX9_canPick 32 = .ok (.sipush 243, 3) := by decide +kernel
theorem dX9_canPick_35 : decode cX9_canPick 35 = .ok (.invokevirtual 213, 3) := by decide +kernel
theorem dX9_canPick_38 : decode cX9_canPick 38 = .ok (.iconst (-1), 1) := by decide +kernel
theorem dX9_canPick_39 : decode cX9_canPick 39 = .ok (.if_icmp .ne 17, 3) := by decide +kernel
theorem dX9_canPick_42 : decode cX9_canPick 42 = .ok (.aload_n 0, 1) := by decide +kernel
theorem dX9_canPick_43 : decode cX9_canPick 43 = .ok (.sipush 243, 3) := by decide +kernel
theorem dX9_canPick_46 : decode cX9_canPick 46 = .ok (.invokevirtual 216, 3) := by decide +kernel
theorem dX9_canPick_49 : decode cX9_canPick 49 = .ok (.ifCond .ne 7, 3) := by decide +kernel
theorem dX9_canPick_52 : decode cX9_canPick 52 = .ok (.iconst 1, 1) := by decide +kernel
theorem dX9_canPick_53 : decode cX9_canPick 53 = .ok (.goto 4, 3) := by decide +kernel
theorem dX9_canPick_56 : decode cX9_canPick 56 = .ok (.iconst 0, 1) := by decide +kernel
theorem dX9_canPick_57 : decode cX9_canPick 57 = .ok (.istore_n 3, 1) := by decide +kernel
theorem dX9_canPick_58 : decode cX9_canPick 58 = .ok (.iinc 4 1, 3) := by decide +kernel
theorem dX9_canPick_61 : decode cX9_canPick 61 = .ok (.goto (-48), 3) := by decide +kernel
theorem dX9_canPick_64 : decode cX9_canPick 64 = .ok (.iload_n 3, 1) := by decide +kernel
theorem dX9_canPick_65 : decode cX9_canPick 65 = .ok (.ireturn, 1) := by decide +kernel
set_option maxRecDepth 20000 in
theorem ggX9_pick_X9_isMoves : GoodIn wsX9_pick wsX9_isMoves := goodIn_r _ [10, 11, 12, 13, 9, 14, 73, 74, 75, 76, 77, 78, 79, 80, 81, 82, 83, 84, 85, 86, 87, 88, 89, 90, 91, 92, 93, 94, 95, 96, 97, 98, 99] (by decide +kernel) (by decide +kernel)
set_option maxRecDepth 20000 in
theorem gX9_pick_X9_isMoves : GoodIn wsX9_pick (wsV RX9 219 RX9 yX9_isMoves wsX9_isMoves) := goodIn_app (goodIn_of _ (by decide +kernel)) ggX9_pick_X9_isMoves
set_option maxRecDepth 20000 in
theorem ggX9_pick_X9_in : GoodIn wsX9_pick wsX9_in := goodIn_r _ [14] (by decide +kernel) (by decide +kernel)
set_option maxRecDepth 20000 in
theorem gX9_pick_X9_in : GoodIn wsX9_pick (va_wsS RX9 56 yX9_in wsX9_in) := goodIn_app (goodIn_of _ (by decide +kernel)) ggX9_pick_X9_in
set_option maxRecDepth 20000 in
theorem ggX9_pick_X9_isLoom : GoodIn wsX9_pick wsX9_isLoom := goodIn_r _ [18, 19, 73, 74, 75, 76, 77, 78, 79, 80, 81, 82, 83, 84, 85, 86, 87, 88, 89, 90, 91, 92, 93, 94, 95, 96, 97, 98, 99] (by decide +kernel) (by decide +kernel)
set_option maxRecDepth 20000 in
theorem gX9_pick_X9_isLoom : GoodIn wsX9_pick (wsV RX9 224 RX9 yX9_isLoom wsX9_isLoom) := goodIn_app (goodIn_of _ (by decide +kernel)) ggX9_pick_X9_isLoom
set_option maxRecDepth 20000 in
theorem ggX9_pick_X9_canPick : GoodIn wsX9_pick wsX9_canPick := goodIn_r _ [23, 24, 25, 26, 9, 27, 4, 28, 29, 30, 31, 32, 33, 34, 35, 36, 11, 37, 38, 39, 40, 41, 42, 43, 44, 45, 46, 47, 48, 49, 50, 51, 52, 53, 54, 55, 56, 57, 58, 59, 60, 19, 61, 62, 63, 64, 65, 66, 67, 73, 74, 75, 76, 77, 78, 79, 80, 81, 82, 83, 84, 85, 86, 87, 88, 89, 90, 91, 92, 93, 94, 95, 96, 97, 98, 99] (by decide +kernel) (by decide +kernel)
set_option maxRecDepth 20000 in
theorem gX9_pick_X9_canPick : GoodIn wsX9_pick (wsV RX9 228 RX9 yX9_canPick wsX9_canPick) := goodIn_app (goodIn_of _ (by decide +kernel)) ggX9_pick_X9_canPick
set_option maxRecDepth 20000 in
theorem ggX9_pick_X9_remember : GoodIn wsX9_pick wsX9_remember := goodIn_r _ [71, 72, 24, 25, 26, 9, 27, 4, 73, 74, 75, 76, 77, 78, 79, 80, 81, 82, 83, 84, 85, 86, 87, 88, 89, 90, 91, 92, 93, 94, 95, 96, 97, 98, 99] (by decide +kernel) (by decide +kernel)
set_option maxRecDepth 20000 in
theorem gX9_pick_X9_remember : GoodIn wsX9_pick (wsV RX9 232 RX9 yX9_remember wsX9_remember) := goodIn_app (goodIn_of _ (by decide +kernel)) ggX9_pick_X9_remember
set_option maxRecDepth 20000 in
theorem ggX9_pick_X9_pickIn : GoodIn wsX9_pick wsX9_pickIn := goodIn_r _ [31, 32, 33, 34, 35, 9, 36, 11, 37, 38, 39, 40, 41, 42, 43, 44, 45, 46, 47, 4, 48, 49, 50, 51, 52, 53, 54, 55, 56, 73, 74, 75, 76, 77, 78, 79, 80, 81, 82, 83, 84, 85, 86, 87, 88, 89, 90, 91, 92, 93, 94, 95, 96, 97, 98, 99] (by decide +kernel) (by decide +kernel)
set_option maxRecDepth 20000 in
theorem gX9_pick_X9_pickIn : GoodIn wsX9_pick (wsV RX9 210 RX9 yX9_pickIn wsX9_pickIn) := goodIn_app (goodIn_of _ (by decide +kernel)) ggX9_pick_X9_pickIn
theorem dX9_pick_0 : decode cX9_pick 0 = .ok (.aload_n 0, 1) := by decide +kernel
theorem dX9_pick_1 : decode cX9_pick 1 = .ok (.iload_n 1, 1) := by decide +kernel
theorem dX9_pick_2 : decode cX9_pick 2 = .ok (.invokevirtual 219, 3) := by decide +kernel
theorem dX9_pick_5 : decode cX9_pick 5 = .ok (.ifCond .eq 15, 3) := by decide +kernel
theorem dX9_pick_8 : decode cX9_pick 8 = .ok (.iload_n 2, 1) := by decide +kernel
theorem dX9_pick_9 : decode cX9_pick 9 = .ok (.i2l, 1) := by decide +kernel
theorem dX9_pick_10 : decode cX9_pick 10 = .ok (.lconst 1, 1) := by decide +kernel
theorem dX9_pick_11 : decode cX9_pick 11 = .ok (.ldc2_w 222, 3) := by decide +kernel
theorem dX9_pick_14 : decode cX9_pick 14 = .ok (.invokestatic 56, 3) := by decide +kernel
theorem dX9_pick_17 : decode cX9_pick 17 = .ok (.ifCond .ne 6, 3) := by decide +kernel
theorem dX9_pick_20 : decode cX9_pick 20 = .ok (.ldc 60, 2) := by decide +kernel
theorem dX9_pick_22 : decode cX9_pick 22 = .ok (.ireturn, 1) := by decide +kernel
theorem dX9_pick_23 : decode cX9_pick 23 = .ok (.aload_n 0, 1) := by decide +kernel
theorem dX9_pick_24 : decode cX9_pick 24 = .ok (.invokevirtual 224, 3) := by decide +kernel
theorem dX9_pick_27 : decode cX9_pick 27 = .ok (.ifCond .eq 12, 3) := by decide +kernel
theorem dX9_pick_30 : decode cX9_pick 30 = .ok (.aload_n 0, 1) := by decide +kernel
theorem dX9_pick_31 : decode cX9_pick 31 = .ok (.iload_n 1, 1) := by decide +kernel
theorem dX9_pick_32 : decode cX9_pick 32 = .ok (.iload_n 2, 1) := by decide +kernel
theorem dX9_pick_33 : decode cX9_pick 33 = .ok (.invokevirtual 228, 3) := by decide +kernel
theorem dX9_pick_36 : decode cX9_pick 36 = .ok (.ifCond .ne 6, 3) := by decide +kernel
theorem dX9_pick_39 : decode cX9_pick 39 = .ok (.ldc 231, 2) := by decide +kernel
theorem dX9_pick_41 : decode cX9_pick 41 = .ok (.ireturn, 1) := by decide +kernel
theorem dX9_pick_42 : decode cX9_pick 42 = .ok (.aload_n 0, 1) := by decide +kernel
theorem dX9_pick_43 : decode cX9_pick 43 = .ok (.getfield 7, 3) := by decide +kernel
theorem dX9_pick_46 : decode cX9_pick 46 = .ok (.bipush 48, 2) := by decide +kernel
theorem dX9_pick_48 : decode cX9_pick 48 = .ok (.iaload, 1) := by decide +kernel
theorem dX9_pick_49 : decode cX9_pick 49 = .ok (.sipush 9000, 3) := by decide +kernel
theorem dX9_pick_52 : decode cX9_pick 52 = .ok (.if_icmp .le 6, 3) := by decide +kernel
theorem dX9_pick_55 : decode cX9_pick 55 = .ok (.ldc 64, 2) := by decide +kernel
theorem dX9_pick_57 : decode cX9_pick 57 = .ok (.ireturn, 1) := by decide +kernel
theorem dX9_pick_58 : decode cX9_pick 58 = .ok (.iconst 0, 1) := by decide +kernel
theorem dX9_pick_59 : decode cX9_pick 59 = .ok (.istore_n 3, 1) := by decide +kernel
theorem dX9_pick_60 : decode cX9_pick 60 = .ok (.iload_n 3, 1) := by decide +kernel
theorem dX9_pick_61 : decode cX9_pick 61 = .ok (.iload_n 2, 1) := by decide +kernel
theorem dX9_pick_62 : decode cX9_pick 62 = .ok (.if_icmp .ge 19, 3) := by decide +kernel
theorem dX9_pick_65 : decode cX9_pick 65 = .ok (.aload_n 0, 1) := by decide +kernel
theorem dX9_pick_66 : decode cX9_pick 66 = .ok (.invokevirtual 232, 3) := by decide +kernel
theorem dX9_pick_69 : decode cX9_pick 69 = .ok (.aload_n 0, 1) := by decide +kernel
theorem dX9_pick_70 : decode cX9_pick 70 = .ok (.iconst 0, 1) := by decide +kernel
theorem dX9_pick_71 : decode cX9_pick 71 = .ok (.iload_n 1, 1) := by decide +kernel
theorem dX9_pick_72 : decode cX9_pick 72 = .ok (.invokevirtual 210, 3) := by decide +kernel
theorem dX9_pick_75 : decode cX9_pick 75 = .ok (.iinc 3 1, 3) := by decide +kernel
theorem dX9_pick_78 : decode cX9_pick 78 = .ok (.goto (-18), 3) := by decide +kernel
theorem dX9_pick_81 : decode cX9_pick 81 = .ok (.aload_n 0, 1) := by decide +kernel
theorem dX9_pick_82 : decode cX9_pick 82 = .ok (.getfield 7, 3) := by decide +kernel
theorem dX9_pick_85 : decode cX9_pick 85 = .ok (.bipush 48, 2) := by decide +kernel
theorem dX9_pick_87 : decode cX9_pick 87 = .ok (.iaload, 1) := by decide +kernel
theorem dX9_pick_88 : decode cX9_pick 88 = .ok (.ireturn, 1) := by decide +kernel
set_option maxRecDepth 20000 in
theorem ggX9_flip_X9_isCard : GoodIn wsX9_flip wsX9_isCard := goodIn_r _ [7, 8, 9, 10, 6, 11, 21, 22, 23, 24, 25, 26, 27, 28, 29, 30, 31, 32, 33, 34, 35, 36, 37, 38, 39, 40, 41, 42, 43, 44, 45, 46, 47] (by decide +kernel) (by decide +kernel)
set_option maxRecDepth 20000 in
theorem gX9_flip_X9_isCard : GoodIn wsX9_flip (wsV RX9 180 RX9 yX9_isCard wsX9_isCard) := goodIn_app (goodIn_of _ (by decide +kernel)) ggX9_flip_X9_isCard
set_option maxRecDepth 20000 in
theorem ggX9_flip_X9_remember : GoodIn wsX9_flip wsX9_remember := goodIn_r _ [15, 16, 17, 18, 19, 6, 20, 2, 21, 22, 23, 24, 25, 26, 27, 28, 29, 30, 31, 32, 33, 34, 35, 36, 37, 38, 39, 40, 41, 42, 43, 44, 45, 46, 47] (by decide +kernel) (by decide +kernel)
set_option maxRecDepth 20000 in
theorem gX9_flip_X9_remember : GoodIn wsX9_flip (wsV RX9 232 RX9 yX9_remember wsX9_remember) := goodIn_app (goodIn_of _ (by decide +kernel)) ggX9_flip_X9_remember
theorem dX9_flip_0 : decode cX9_flip 0 = .ok (.aload_n 0, 1) := by decide +kernel
theorem dX9_flip_1 : decode cX9_flip 1 = .ok (.iload_n 1, 1) := by decide +kernel
theorem dX9_flip_2 : decode cX9_flip 2 = .ok (.invokevirtual 180, 3) := by decide +kernel
theorem dX9_flip_5 : decode cX9_flip 5 = .ok (.ifCond .ne 6, 3) := by decide +kernel
theorem dX9_flip_8 : decode cX9_flip 8 = .ok (.ldc 183, 2) := by decide +kernel
theorem dX9_flip_10 : decode cX9_flip 10 = .ok (.ireturn, 1) := by decide +kernel
theorem dX9_flip_11 : decode cX9_flip 11 = .ok (.aload_n 0, 1) := by decide +kernel
theorem dX9_flip_12 : decode cX9_flip 12 = .ok (.invokevirtual 232, 3) := by decide +kernel
theorem dX9_flip_15 : decode cX9_flip 15 = .ok (.aload_n 0, 1) := by decide +kernel
theorem dX9_flip_16 : decode cX9_flip 16 = .ok (.getfield 7, 3) := by decide +kernel
theorem dX9_flip_19 : decode cX9_flip 19 = .ok (.bipush 32, 2) := by decide +kernel
theorem dX9_flip_21 : decode cX9_flip 21 = .ok (.iload_n 1, 1) := by decide +kernel
theorem dX9_flip_22 : decode cX9_flip 22 = .ok (.iadd, 1) := by decide +kernel
theorem dX9_flip_23 : decode cX9_flip 23 = .ok (.iconst 1, 1) := by decide +kernel
theorem dX9_flip_24 : decode cX9_flip 24 = .ok (.aload_n 0, 1) := by decide +kernel
theorem dX9_flip_25 : decode cX9_flip 25 = .ok (.getfield 7, 3) := by decide +kernel
theorem dX9_flip_28 : decode cX9_flip 28 = .ok (.bipush 32, 2) := by decide +kernel
theorem dX9_flip_30 : decode cX9_flip 30 = .ok (.iload_n 1, 1) := by decide +kernel
theorem dX9_flip_31 : decode cX9_flip 31 = .ok (.iadd, 1) := by decide +kernel
theorem dX9_flip_32 : decode cX9_flip 32 = .ok (.iaload, 1) := by decide +kernel
theorem dX9_flip_33 : decode cX9_flip 33 = .ok (.isub, 1) := by decide +kernel
theorem dX9_flip_34 : decode cX9_flip 34 = .ok (.iastore, 1) := by decide +kernel
theorem dX9_flip_35 : decode cX9_flip 35 = .ok (.aload_n 0, 1) := by decide +kernel
theorem dX9_flip_36 : decode cX9_flip 36 = .ok (.getfield 7, 3) := by decide +kernel
theorem dX9_flip_39 : decode cX9_flip 39 = .ok (.bipush 32, 2) := by decide +kernel
theorem dX9_flip_41 : decode cX9_flip 41 = .ok (.iload_n 1, 1) := by decide +kernel
theorem dX9_flip_42 : decode cX9_flip 42 = .ok (.iadd, 1) := by decide +kernel
theorem dX9_flip_43 : decode cX9_flip 43 = .ok (.iaload, 1) := by decide +kernel
theorem dX9_flip_44 : decode cX9_flip 44 = .ok (.ireturn, 1) := by decide +kernel
set_option maxRecDepth 20000 in
theorem ggX9_shift_X9_isCard : GoodIn wsX9_shift wsX9_isCard := goodIn_r _ [9, 10, 11, 12, 8, 13, 23, 24, 25, 26, 27, 28, 29, 30, 31, 32, 33, 34, 35, 36, 37, 38, 39, 40, 41, 42, 43, 44, 45, 46, 47, 48, 49] (by decide +kernel) (by decide +kernel)
set_option maxRecDepth 20000 in
theorem gX9_shift_X9_isCard : GoodIn wsX9_shift (wsV RX9 180 RX9 yX9_isCard wsX9_isCard) := goodIn_app (goodIn_of _ (by decide +kernel)) ggX9_shift_X9_isCard
set_option maxRecDepth 20000 in
theorem ggX9_shift_X9_in : GoodIn wsX9_shift wsX9_in := goodIn_r _ [13] (by decide +kernel) (by decide +kernel)
set_option maxRecDepth 20000 in
theorem gX9_shift_X9_in : GoodIn wsX9_shift (va_wsS RX9 56 yX9_in wsX9_in) := goodIn_app (goodIn_of _ (by decide +kernel)) ggX9_shift_X9_in
set_option maxRecDepth 20000 in
theorem ggX9_shift_X9_remember : GoodIn wsX9_shift wsX9_remember := goodIn_r _ [17, 18, 19, 20, 21, 8, 22, 4, 23, 24, 25, 26, 27, 28, 29, 30, 31, 32, 33, 34, 35, 36, 37, 38, 39, 40, 41, 42, 43, 44, 45, 46, 47, 48, 49] (by decide +kernel) (by decide +kernel)
set_option maxRecDepth 20000 in
theorem gX9_shift_X9_remember : GoodIn wsX9_shift (wsV RX9 232 RX9 yX9_remember wsX9_remember) := goodIn_app (goodIn_of _ (by decide +kernel)) ggX9_shift_X9_remember
theorem dX9_shift_0 : decode cX9_shift 0 = .ok (.aload_n 0, 1) := by decide +kernel
theorem dX9_shift_1 : decode cX9_shift 1 = .ok (.iload_n 1, 1) := by decide +kernel
theorem dX9_shift_2 : decode cX9_shift 2 = .ok (.invokevirtual 180, 3) := by decide +kernel
theorem dX9_shift_5 : decode cX9_shift 5 = .ok (.ifCond .ne 6, 3) := by decide +kernel
theorem dX9_shift_8 : decode cX9_shift 8 = .ok (.ldc 183, 2) := by decide +kernel
theorem dX9_shift_10 : decode cX9_shift 10 = .ok (.ireturn, 1) := by decide +kernel
theorem dX9_shift_11 : decode cX9_shift 11 = .ok (.iload_n 2, 1) := by decide +kernel
theorem dX9_shift_12 : decode cX9_shift 12 = .ok (.i2l, 1) := by decide +kernel
theorem dX9_shift_13 : decode cX9_shift 13 = .ok (.lconst 0, 1) := by decide +kernel
theorem dX9_shift_14 : decode cX9_shift 14 = .ok (.ldc2_w 235, 3) := by decide +kernel
theorem dX9_shift_17 : decode cX9_shift 17 = .ok (.invokestatic 56, 3) := by decide +kernel
theorem dX9_shift_20 : decode cX9_shift 20 = .ok (.ifCond .ne 6, 3) := by decide +kernel
theorem dX9_shift_23 : decode cX9_shift 23 = .ok (.ldc 60, 2) := by decide +kernel
theorem dX9_shift_25 : decode cX9_shift 25 = .ok (.ireturn, 1) := by decide +kernel
theorem dX9_shift_26 : decode cX9_shift 26 = .ok (.aload_n 0, 1) := by decide +kernel
theorem dX9_shift_27 : decode cX9_shift 27 = .ok (.invokevirtual 232, 3) := by decide +kernel
theorem dX9_shift_30 : decode cX9_shift 30 = .ok (.aload_n 0, 1) := by decide +kernel
theorem dX9_shift_31 : decode cX9_shift 31 = .ok (.getfield 7, 3) := by decide +kernel
theorem dX9_shift_34 : decode cX9_shift 34 = .ok (.iload_n 1, 1) := by decide +kernel
theorem dX9_shift_35 : decode cX9_shift 35 = .ok (.aload_n 0, 1) := by decide +kernel
theorem dX9_shift_36 : decode cX9_shift 36 = .ok (.getfield 7, 3) := by decide +kernel
theorem dX9_shift_39 : decode cX9_shift 39 = .ok (.iload_n 1, 1) := by decide +kernel
theorem dX9_shift_40 : decode cX9_shift 40 = .ok (.iaload, 1) := by decide +kernel
theorem dX9_shift_41 : decode cX9_shift 41 = .ok (.iload_n 2, 1) := by decide +kernel
theorem dX9_shift_42 : decode cX9_shift 42 = .ok (.iadd, 1) := by decide +kernel
theorem dX9_shift_43 : decode cX9_shift 43 = .ok (.iconst 4, 1) := by decide +kernel
theorem dX9_shift_44 : decode cX9_shift 44 = .ok (.irem, 1) := by decide +kernel
theorem dX9_shift_45 : decode cX9_shift 45 = .ok (.iastore, 1) := by decide +kernel
theorem dX9_shift_46 : decode cX9_shift 46 = .ok (.aload_n 0, 1) := by decide +kernel
theorem dX9_shift_47 : decode cX9_shift 47 = .ok (.getfield 7, 3) := by decide +kernel
theorem dX9_shift_50 : decode cX9_shift 50 = .ok (.iload_n 1, 1) := by decide +kernel
theorem dX9_shift_51 : decode cX9_shift 51 = .ok (.iaload, 1) := by decide +kernel
theorem dX9_shift_52 : decode cX9_shift 52 = .ok (.ireturn, 1) := by decide +kernel
set_option maxRecDepth 20000 in
theorem ggX9_buy_X9_isColour : GoodIn wsX9_buy wsX9_isColour := goodIn_r _ [9, 10, 11, 12, 8, 13, 26, 27, 28, 29, 30, 31, 32, 33, 34, 35, 36, 37, 38, 39, 40, 41, 42, 43, 44, 45, 46, 47, 48, 49, 50, 51, 52] (by decide +kernel) (by decide +kernel)
set_option maxRecDepth 20000 in
theorem gX9_buy_X9_isColour : GoodIn wsX9_buy (wsV RX9 190 RX9 yX9_isColour wsX9_isColour) := goodIn_app (goodIn_of _ (by decide +kernel)) ggX9_buy_X9_isColour
set_option maxRecDepth 20000 in
theorem ggX9_buy_X9_in : GoodIn wsX9_buy wsX9_in := goodIn_r _ [13] (by decide +kernel) (by decide +kernel)
set_option maxRecDepth 20000 in
theorem gX9_buy_X9_in : GoodIn wsX9_buy (va_wsS RX9 56 yX9_in wsX9_in) := goodIn_app (goodIn_of _ (by decide +kernel)) ggX9_buy_X9_in
set_option maxRecDepth 20000 in
theorem ggX9_buy_X9_remember : GoodIn wsX9_buy wsX9_remember := goodIn_r _ [17, 18, 19, 20, 21, 8, 22, 4, 26, 27, 28, 29, 30, 31, 32, 33, 34, 35, 36, 37, 38, 39, 40, 41, 42, 43, 44, 45, 46, 47, 48, 49, 50, 51, 52] (by decide +kernel) (by decide +kernel)
set_option maxRecDepth 20000 in
theorem gX9_buy_X9_remember : GoodIn wsX9_buy (wsV RX9 232 RX9 yX9_remember wsX9_remember) := goodIn_app (goodIn_of _ (by decide +kernel)) ggX9_buy_X9_remember
set_option maxRecDepth 20000 in
theorem ggX9_buy_X9_least : GoodIn wsX9_buy wsX9_least := goodIn_r _ [25] (by decide +kernel) (by decide +kernel)
set_option maxRecDepth 20000 in
theorem gX9_buy_X9_least : GoodIn wsX9_buy (va_wsS RX9 239 yX9_least wsX9_least) := goodIn_app (goodIn_of _ (by decide +kernel)) ggX9_buy_X9_least
theorem dX9_buy_0 : decode cX9_buy 0 = .ok (.aload_n 0, 1) := by decide +kernel
theorem dX9_buy_1 : decode cX9_buy 1 = .ok (.iload_n 1, 1) := by decide +kernel
theorem dX9_buy_2 : decode cX9_buy 2 = .ok (.invokevirtual 190, 3) := by decide +kernel
theorem dX9_buy_5 : decode cX9_buy 5 = .ok (.ifCond .ne 6, 3) := by decide +kernel
theorem dX9_buy_8 : decode cX9_buy 8 = .ok (.ldc 183, 2) := by decide +kernel
theorem dX9_buy_10 : decode cX9_buy 10 = .ok (.ireturn, 1) := by decide +kernel
theorem dX9_buy_11 : decode cX9_buy 11 = .ok (.iload_n 2, 1) := by decide +kernel
theorem dX9_buy_12 : decode cX9_buy 12 = .ok (.i2l, 1) := by decide +kernel
theorem dX9_buy_13 : decode cX9_buy 13 = .ok (.lconst 1, 1) := by decide +kernel
theorem dX9_buy_14 : decode cX9_buy 14 = .ok (.ldc2_w 237, 3) := by decide +kernel
theorem dX9_buy_17 : decode cX9_buy 17 = .ok (.invokestatic 56, 3) := by decide +kernel
theorem dX9_buy_20 : decode cX9_buy 20 = .ok (.ifCond .ne 6, 3) := by decide +kernel
theorem dX9_buy_23 : decode cX9_buy 23 = .ok (.ldc 60, 2) := by decide +kernel
theorem dX9_buy_25 : decode cX9_buy 25 = .ok (.ireturn, 1) := by decide +kernel
theorem dX9_buy_26 : decode cX9_buy 26 = .ok (.aload_n 0, 1) := by decide +kernel
theorem dX9_buy_27 : decode cX9_buy 27 = .ok (.invokevirtual 232, 3) := by decide +kernel
theorem dX9_buy_30 : decode cX9_buy 30 = .ok (.aload_n 0, 1) := by decide +kernel
theorem dX9_buy_31 : decode cX9_buy 31 = .ok (.getfield 7, 3) := by decide +kernel
theorem dX9_buy_34 : decode cX9_buy 34 = .ok (.bipush 40, 2) := by decide +kernel
theorem dX9_buy_36 : decode cX9_buy 36 = .ok (.iload_n 1, 1) := by decide +kernel
theorem dX9_buy_37 : decode cX9_buy 37 = .ok (.iadd, 1) := by decide +kernel
theorem dX9_buy_38 : decode cX9_buy 38 = .ok (.sipush 999, 3) := by decide +kernel
theorem dX9_buy_41 : decode cX9_buy 41 = .ok (.aload_n 0, 1) := by decide +kernel
theorem dX9_buy_42 : decode cX9_buy 42 = .ok (.getfield 7, 3) := by decide +kernel
theorem dX9_buy_45 : decode cX9_buy 45 = .ok (.bipush 40, 2) := by decide +kernel
theorem dX9_buy_47 : decode cX9_buy 47 = .ok (.iload_n 1, 1) := by decide +kernel
theorem dX9_buy_48 : decode cX9_buy 48 = .ok (.iadd, 1) := by decide +kernel
theorem dX9_buy_49 : decode cX9_buy 49 = .ok (.iaload, 1) := by decide +kernel
theorem dX9_buy_50 : decode cX9_buy 50 = .ok (.iload_n 2, 1) := by decide +kernel
theorem dX9_buy_51 : decode cX9_buy 51 = .ok (.iadd, 1) := by decide +kernel
theorem dX9_buy_52 : decode cX9_buy 52 = .ok (.invokestatic 239, 3) := by decide +kernel
theorem dX9_buy_55 : decode cX9_buy 55 = .ok (.iastore, 1) := by decide +kernel
theorem dX9_buy_56 : decode cX9_buy 56 = .ok (.aload_n 0, 1) := by decide +kernel
theorem dX9_buy_57 : decode cX9_buy 57 = .ok (.getfield 7, 3) := by decide +kernel
theorem dX9_buy_60 : decode cX9_buy 60 = .ok (.bipush 40, 2) := by decide +kernel
theorem dX9_buy_62 : decode cX9_buy 62 = .ok (.iload_n 1, 1) := by decide +kernel
theorem dX9_buy_63 : decode cX9_buy 63 = .ok (.iadd, 1) := by decide +kernel
theorem dX9_buy_64 : decode cX9_buy 64 = .ok (.iaload, 1) := by decide +kernel
theorem dX9_buy_65 : decode cX9_buy 65 = .ok (.ireturn, 1) := by decide +kernel
theorem dX9_draw_0 : decode cX9_draw 0 = .ok (.aload_n 0, 1) := by decide +kernel
theorem dX9_draw_1 : decode cX9_draw 1 = .ok (.getfield 7, 3) := by decide +kernel
theorem dX9_draw_4 : decode cX9_draw 4 = .ok (.sipush 242, 3) := by decide +kernel
theorem dX9_draw_7 : decode cX9_draw 7 = .ok (.aload_n 0, 1) := by decide +kernel
theorem dX9_draw_8 : decode cX9_draw 8 = .ok (.getfield 7, 3) := by decide +kernel
theorem dX9_draw_11 : decode cX9_draw 11 = .ok (.sipush 242, 3) := by decide +kernel
theorem dX9_draw_14 : decode cX9_draw 14 = .ok (.iaload, 1) := by decide +kernel
theorem dX9_draw_15 : decode cX9_draw 15 = .ok (.i2l, 1) := by decide +kernel
theorem dX9_draw_16 : decode cX9_draw 16 = .ok (.ldc2_w 242, 3) := by decide +kernel
theorem dX9_draw_19 : decode cX9_draw 19 = .ok (.lmul, 1) := by decide +kernel
theorem dX9_draw_20 : decode cX9_draw 20 = .ok (.ldc2_w 244, 3) := by decide +kernel
theorem dX9_draw_23 : decode cX9_draw 23 = .ok (.ladd, 1) := by decide +kernel
theorem dX9_draw_24 : decode cX9_draw 24 = .ok (.ldc2_w 246, 3) := by decide +kernel
theorem dX9_draw_27 : decode cX9_draw 27 = .ok (.lrem, 1) := by decide +kernel
theorem dX9_draw_28 : decode cX9_draw 28 = .ok (.l2i, 1) := by decide +kernel
theorem dX9_draw_29 : decode cX9_draw 29 = .ok (.iastore, 1) := by decide +kernel
theorem dX9_draw_30 : decode cX9_draw 30 = .ok (.aload_n 0, 1) := by decide +kernel
theorem dX9_draw_31 : decode cX9_draw 31 = .ok (.getfield 7, 3) := by decide +kernel
theorem dX9_draw_34 : decode cX9_draw 34 = .ok (.sipush 242, 3) := by decide +kernel
theorem dX9_draw_37 : decode cX9_draw 37 = .ok (.iaload, 1) := by decide +kernel
theorem dX9_draw_38 : decode cX9_draw 38 = .ok (.ldc 248, 2) := by decide +kernel
theorem dX9_draw_40 : decode cX9_draw 40 = .ok (.idiv, 1) := by decide +kernel
theorem dX9_draw_41 : decode cX9_draw 41 = .ok (.iload_n 1, 1) := by decide +kernel
theorem dX9_draw_42 : decode cX9_draw 42 = .ok (.irem, 1) := by decide +kernel
theorem dX9_draw_43 : decode cX9_draw 43 = .ok (.ireturn, 1) := by decide +kernel
set_option maxRecDepth 20000 in
theorem ggX9_drawMoves_X9_draw : GoodIn wsX9_drawMoves wsX9_draw := goodIn_r _ [6, 7, 8, 9, 10, 11, 12, 13, 14, 15, 16, 17, 18, 19, 20, 21, 22, 23, 24, 25, 26, 27, 28, 29, 30, 31, 32, 33, 34, 35, 36, 37, 38] (by decide +kernel) (by decide +kernel)
set_option maxRecDepth 20000 in
theorem gX9_drawMoves_X9_draw : GoodIn wsX9_drawMoves (wsV RX9 249 RX9 yX9_draw wsX9_draw) := goodIn_app (goodIn_of _ (by decide +kernel)) ggX9_drawMoves_X9_draw
theorem dX9_drawMoves_0 : decode cX9_drawMoves 0 = .ok (.iconst 0, 1) := by decide +kernel
theorem dX9_drawMoves_1 : decode cX9_drawMoves 1 = .ok (.istore_n 1, 1) := by decide +kernel
theorem dX9_drawMoves_2 : decode cX9_drawMoves 2 = .ok (.iconst 1, 1) := by decide +kernel
theorem dX9_drawMoves_3 : decode cX9_drawMoves 3 = .ok (.istore_n 2, 1) := by decide +kernel
theorem dX9_drawMoves_4 : decode cX9_drawMoves 4 = .ok (.iconst 0, 1) := by decide +kernel
theorem dX9_drawMoves_5 : decode cX9_drawMoves 5 = .ok (.istore_n 3, 1) := by decide +kernel
theorem dX9_drawMoves_6 : decode cX9_drawMoves 6 = .ok (.iload_n 3, 1) := by decide +kernel
theorem dX9_drawMoves_7 : decode cX9_drawMoves 7 = .ok (.aload_n 0, 1) := by decide +kernel
theorem dX9_drawMoves_8 : decode cX9_drawMoves 8 = .ok (.getfield 128, 3) := by decide +kernel
theorem dX9_drawMoves_11 : decode cX9_drawMoves 11 = .ok (.if_icmp .ge 23, 3) := by decide +kernel
theorem dX9_drawMoves_14 : decode cX9_drawMoves 14 = .ok (.iload_n 1, 1) := by decide +kernel
theorem dX9_drawMoves_15 : decode cX9_drawMoves 15 = .ok (.iload_n 2, 1) := by decide +kernel
theorem dX9_drawMoves_16 : decode cX9_drawMoves 16 = .ok (.aload_n 0, 1) := by decide +kernel
theorem dX9_drawMoves_17 : decode cX9_drawMoves 17 = .ok (.iconst 3, 1) := by decide +kernel
theorem dX9_drawMoves_18 : decode cX9_drawMoves 18 = .ok (.invokevirtual 249, 3) := by decide +kernel
theorem dX9_drawMoves_21 : decode cX9_drawMoves 21 = .ok (.imul, 1) := by decide +kernel
theorem dX9_drawMoves_22 : decode cX9_drawMoves 22 = .ok (.iadd, 1) := by decide +kernel
theorem dX9_drawMoves_23 : decode cX9_drawMoves 23 = .ok (.istore_n 1, 1) := by decide +kernel
theorem dX9_drawMoves_24 : decode cX9_drawMoves 24 = .ok (.iload_n 2, 1) := by decide +kernel
theorem dX9_drawMoves_25 : decode cX9_drawMoves 25 = .ok (.iconst 3, 1) := by decide +kernel
theorem dX9_drawMoves_26 : decode cX9_drawMoves 26 = .ok (.imul, 1) := by decide +kernel
theorem dX9_drawMoves_27 : decode cX9_drawMoves 27 = .ok (.istore_n 2, 1) := by decide +kernel
theorem dX9_drawMoves_28 : decode cX9_drawMoves 28 = .ok (.iinc 3 1, 3) := by decide +kernel
theorem dX9_drawMoves_31 : decode cX9_drawMoves 31 = .ok (.goto (-25), 3) := by decide +kernel
theorem dX9_drawMoves_34 : decode cX9_drawMoves 34 = .ok (.iload_n 1, 1) := by decide +kernel
theorem dX9_drawMoves_35 : decode cX9_drawMoves 35 = .ok (.ireturn, 1) := by decide +kernel
set_option maxRecDepth 20000 in
theorem ggX9_drift_X9_in : GoodIn wsX9_drift wsX9_in := goodIn_r _ [9] (by decide +kernel) (by decide +kernel)
set_option maxRecDepth 20000 in
theorem gX9_drift_X9_in : GoodIn wsX9_drift (va_wsS RX9 56 yX9_in wsX9_in) := goodIn_app (goodIn_of _ (by decide +kernel)) ggX9_drift_X9_in
set_option maxRecDepth 20000 in
theorem ggX9_drift_X9_isLoom : GoodIn wsX9_drift wsX9_isLoom := goodIn_r _ [13, 14, 81, 82, 83, 84, 85, 86, 87, 88, 89, 90, 91, 92, 93, 94, 95, 96, 97, 98, 99, 100, 101, 102, 103, 104, 105, 106, 107] (by decide +kernel) (by decide +kernel)
set_option maxRecDepth 20000 in
theorem gX9_drift_X9_isLoom : GoodIn wsX9_drift (wsV RX9 224 RX9 yX9_isLoom wsX9_isLoom) := goodIn_app (goodIn_of _ (by decide +kernel)) ggX9_drift_X9_isLoom
set_option maxRecDepth 20000 in
theorem ggX9_drift_X9_remember : GoodIn wsX9_drift wsX9_remember := goodIn_r _ [18, 19, 20, 21, 22, 8, 23, 4, 81, 82, 83, 84, 85, 86, 87, 88, 89, 90, 91, 92, 93, 94, 95, 96, 97, 98, 99, 100, 101, 102, 103, 104, 105, 106, 107] (by decide +kernel) (by decide +kernel)
set_option maxRecDepth 20000 in
theorem gX9_drift_X9_remember : GoodIn wsX9_drift (wsV RX9 232 RX9 yX9_remember wsX9_remember) := goodIn_app (goodIn_of _ (by decide +kernel)) ggX9_drift_X9_remember
set_option maxRecDepth 20000 in
theorem ggX9_drift_X9_drawMoves : GoodIn wsX9_drift wsX9_drawMoves := goodIn_r _ [27, 28, 29, 30, 31, 8, 32, 4, 33, 34, 35, 36, 81, 82, 83, 84, 85, 86, 87, 88, 89, 90, 91, 92, 93, 94, 95, 96, 97, 98, 99, 100, 101, 102, 103, 104, 105, 106, 107] (by decide +kernel) (by decide +kernel)
set_option maxRecDepth 20000 in
theorem gX9_drift_X9_drawMoves : GoodIn wsX9_drift (wsV RX9 252 RX9 yX9_drawMoves wsX9_drawMoves) := goodIn_app (goodIn_of _ (by decide +kernel)) ggX9_drift_X9_drawMoves
set_option maxRecDepth 20000 in
theorem ggX9_drift_X9_canPick : GoodIn wsX9_drift wsX9_canPick := goodIn_r _ [40, 20, 21, 22, 8, 23, 4, 41, 42, 43, 44, 45, 46, 47, 48, 49, 28, 50, 51, 52, 53, 54, 55, 56, 57, 58, 59, 60, 61, 62, 63, 64, 65, 66, 67, 68, 69, 70, 71, 72, 73, 14, 74, 75, 76, 77, 78, 79, 80, 81, 82, 83, 84, 85, 86, 87, 88, 89, 90, 91, 92, 93, 94, 95, 96, 97, 98, 99, 100, 101, 102, 103, 104, 105, 106, 107] (by decide +kernel) (by decide +kernel)
set_option maxRecDepth 20000 in
theorem gX9_drift_X9_canPick : GoodIn wsX9_drift (wsV RX9 228 RX9 yX9_canPick wsX9_canPick) := goodIn_app (goodIn_of _ (by decide +kernel)) ggX9_drift_X9_canPick
set_option maxRecDepth 20000 in
theorem ggX9_drift_X9_pickIn : GoodIn wsX9_drift wsX9_pickIn := goodIn_r _ [44, 45, 46, 47, 48, 8, 49, 28, 50, 51, 52, 53, 54, 55, 56, 57, 58, 59, 60, 4, 61, 62, 63, 64, 65, 66, 67, 68, 69, 81, 82, 83, 84, 85, 86, 87, 88, 89, 90, 91, 92, 93, 94, 95, 96, 97, 98, 99, 100, 101, 102, 103, 104, 105, 106, 107] (by decide +kernel) (by decide +kernel)
set_option maxRecDepth 20000 in
theorem gX9_drift_X9_pickIn : GoodIn wsX9_drift (wsV RX9 210 RX9 yX9_pickIn wsX9_pickIn) := goodIn_app (goodIn_of _ (by decide +kernel)) ggX9_drift_X9_pickIn
theorem dX9_drift_0 : decode cX9_drift 0 = .ok (.iload_n 1, 1) := by decide +kernel
theorem dX9_drift_1 : decode cX9_drift 1 = .ok (.i2l, 1) := by decide +kernel
theorem dX9_drift_2 : decode cX9_drift 2 = .ok (.lconst 1, 1) := by decide +kernel
theorem dX9_drift_3 : decode cX9_drift 3 = .ok (.ldc2_w 222, 3) := by decide +kernel
theorem dX9_drift_6 : decode cX9_drift 6 = .ok (.invokestatic 56, 3) := by decide +kernel
theorem dX9_drift_9 : decode cX9_drift 9 = .ok (.ifCond .ne 6, 3) := by decide +kernel
theorem dX9_drift_12 : decode cX9_drift 12 = .ok (.ldc 60, 2) := by decide +kernel
theorem dX9_drift_14 : decode cX9_drift 14 = .ok (.ireturn, 1) := by decide +kernel
theorem dX9_drift_15 : decode cX9_drift 15 = .ok (.aload_n 0, 1) := by decide +kernel
theorem dX9_drift_16 : decode cX9_drift 16 = .ok (.invokevirtual 224, 3) := by decide +kernel
theorem dX9_drift_19 : decode cX9_drift 19 = .ok (.ifCond .ne 6, 3) := by decide +kernel
theorem dX9_drift_22 : decode cX9_drift 22 = .ok (.ldc 231, 2) := by decide +kernel
theorem dX9_drift_24 : decode cX9_drift 24 = .ok (.ireturn, 1) := by decide +kernel
theorem dX9_drift_25 : decode cX9_drift 25 = .ok (.aload_n 0, 1) := by decide +kernel
theorem dX9_drift_26 : decode cX9_drift 26 = .ok (.getfield 7, 3) := by decide +kernel
theorem dX9_drift_29 : decode cX9_drift 29 = .ok (.bipush 48, 2) := by decide +kernel
theorem dX9_drift_31 : decode cX9_drift 31 = .ok (.iaload, 1) := by decide +kernel
theorem dX9_drift_32 : decode cX9_drift 32 = .ok (.sipush 9000, 3) := by decide +kernel
theorem dX9_drift_35 : decode cX9_drift 35 = .ok (.if_icmp .le 6, 3) := by decide +kernel
theorem dX9_drift_38 : decode cX9_drift 38 = .ok (.ldc 64, 2) := by decide +kernel
theorem dX9_drift_40 : decode cX9_drift 40 = .ok (.ireturn, 1) := by decide +kernel
theorem dX9_drift_41 : decode cX9_drift 41 = .ok (.iconst 0, 1) := by decide +kernel
theorem dX9_drift_42 : decode cX9_drift 42 = .ok (.istore_n 2, 1) := by decide +kernel
theorem dX9_drift_43 : decode cX9_drift 43 = .ok (.iload_n 2, 1) := by decide +kernel
theorem dX9_drift_44 : decode cX9_drift 44 = .ok (.iload_n 1, 1) := by decide +kernel
theorem dX9_drift_45 : decode cX9_drift 45 = .ok (.if_icmp .ge 33, 3) := by decide +kernel
theorem dX9_drift_48 : decode cX9_drift 48 = .ok (.aload_n 0, 1) := by decide +kernel
theorem dX9_drift_49 : decode cX9_drift 49 = .ok (.invokevirtual 232, 3) := by decide +kernel
theorem dX9_drift_52 : decode cX9_drift 52 = .ok (.aload_n 0, 1) := by decide +kernel
theorem dX9_drift_53 : decode cX9_drift 53 = .ok (.invokevirtual 252, 3) := by decide +kernel
theorem dX9_drift_56 : decode cX9_drift 56 = .ok (.istore_n 3, 1) := by decide +kernel
theorem dX9_drift_57 : decode cX9_drift 57 = .ok (.aload_n 0, 1) := by decide +kernel
theorem dX9_drift_58 : decode cX9_drift 58 = .ok (.iload_n 3, 1) := by decide +kernel
theorem dX9_drift_59 : decode cX9_drift 59 = .ok (.iconst 1, 1) := by decide +kernel
theorem dX9_drift_60 : decode cX9_drift 60 = .ok (.invokevirtual 228, 3) := by decide +kernel
theorem dX9_drift_63 : decode cX9_drift 63 = .ok (.ifCond .eq 9, 3) := by decide +kernel
theorem dX9_drift_66 : decode cX9_drift 66 = .ok (.aload_n 0, 1) := by decide +kernel
theorem dX9_drift_67 : decode cX9_drift 67 = .ok (.iconst 0, 1) := by decide +kernel
theorem dX9_drift_68 : decode cX9_drift 68 = .ok (.iload_n 3, 1) := by decide +kernel
theorem dX9_drift_69 : decode cX9_drift 69 = .ok (.invokevirtual 210, 3) := by decide +kernel
theorem dX9_drift_72 : decode cX9_drift 72 = .ok (.iinc 2 1, 3) := by decide +kernel
theorem dX9_drift_75 : decode cX9_drift 75 = .ok (.goto (-32), 3) := by decide +kernel
theorem dX9_drift_78 : decode cX9_drift 78 = .ok (.aload_n 0, 1) := by decide +kernel
theorem dX9_drift_79 : decode cX9_drift 79 = .ok (.getfield 7, 3) := by decide +kernel
theorem dX9_drift_82 : decode cX9_drift 82 = .ok (.bipush 48, 2) := by decide +kernel
theorem dX9_drift_84 : decode cX9_drift 84 = .ok (.iaload, 1) := by decide +kernel
theorem dX9_drift_85 : decode cX9_drift 85 = .ok (.ireturn, 1) := by decide +kernel
set_option maxRecDepth 20000 in
theorem ggX9_undo_X9_in : GoodIn wsX9_undo wsX9_in := goodIn_r _ [9] (by decide +kernel) (by decide +kernel)
set_option maxRecDepth 20000 in
theorem gX9_undo_X9_in : GoodIn wsX9_undo (va_wsS RX9 56 yX9_in wsX9_in) := goodIn_app (goodIn_of _ (by decide +kernel)) ggX9_undo_X9_in
set_option maxRecDepth 20000 in
theorem ggX9_undo_X9_copy : GoodIn wsX9_undo wsX9_copy := goodIn_r _ [13, 5, 14, 15, 16, 17, 18, 19, 20, 21, 22, 23, 24, 25, 26, 27, 28, 29, 30, 31, 32, 33, 34, 35, 36, 37, 38, 39, 40] (by decide +kernel) (by decide +kernel)
set_option maxRecDepth 20000 in
theorem gX9_undo_X9_copy : GoodIn wsX9_undo (wsV RX9 193 RX9 yX9_copy wsX9_copy) := goodIn_app (goodIn_of _ (by decide +kernel)) ggX9_undo_X9_copy
theorem dX9_undo_0 : decode cX9_undo 0 = .ok (.iload_n 1, 1) := by decide +kernel
theorem dX9_undo_1 : decode cX9_undo 1 = .ok (.i2l, 1) := by decide +kernel
theorem dX9_undo_2 : decode cX9_undo 2 = .ok (.lconst 1, 1) := by decide +kernel
theorem dX9_undo_3 : decode cX9_undo 3 = .ok (.ldc2_w 222, 3) := by decide +kernel
theorem dX9_undo_6 : decode cX9_undo 6 = .ok (.invokestatic 56, 3) := by decide +kernel
theorem dX9_undo_9 : decode cX9_undo 9 = .ok (.ifCond .ne 6, 3) := by decide +kernel
theorem dX9_undo_12 : decode cX9_undo 12 = .ok (.ldc 60, 2) := by decide +kernel
theorem dX9_undo_14 : decode cX9_undo 14 = .ok (.ireturn, 1) := by decide +kernel
theorem dX9_undo_15 : decode cX9_undo 15 = .ok (.iload_n 1, 1) := by decide +kernel
theorem dX9_undo_16 : decode cX9_undo 16 = .ok (.aload_n 0, 1) := by decide +kernel
theorem dX9_undo_17 : decode cX9_undo 17 = .ok (.getfield 137, 3) := by decide +kernel
theorem dX9_undo_20 : decode cX9_undo 20 = .ok (.if_icmp .le 6, 3) := by decide +kernel
theorem dX9_undo_23 : decode cX9_undo 23 = .ok (.ldc 231, 2) := by decide +kernel
theorem dX9_undo_25 : decode cX9_undo 25 = .ok (.ireturn, 1) := by decide +kernel
theorem dX9_undo_26 : decode cX9_undo 26 = .ok (.aload_n 0, 1) := by decide +kernel
theorem dX9_undo_27 : decode cX9_undo 27 = .ok (.dup, 1) := by decide +kernel
theorem dX9_undo_28 : decode cX9_undo 28 = .ok (.getfield 137, 3) := by decide +kernel
theorem dX9_undo_31 : decode cX9_undo 31 = .ok (.iload_n 1, 1) := by decide +kernel
theorem dX9_undo_32 : decode cX9_undo 32 = .ok (.isub, 1) := by decide +kernel
theorem dX9_undo_33 : decode cX9_undo 33 = .ok (.putfield 137, 3) := by decide +kernel
theorem dX9_undo_36 : decode cX9_undo 36 = .ok (.aload_n 0, 1) := by decide +kernel
theorem dX9_undo_37 : decode cX9_undo 37 = .ok (.getfield 7, 3) := by decide +kernel
theorem dX9_undo_40 : decode cX9_undo 40 = .ok (.sipush 242, 3) := by decide +kernel
theorem dX9_undo_43 : decode cX9_undo 43 = .ok (.iaload, 1) := by decide +kernel
theorem dX9_undo_44 : decode cX9_undo 44 = .ok (.istore_n 2, 1) := by decide +kernel
theorem dX9_undo_45 : decode cX9_undo 45 = .ok (.aload_n 0, 1) := by decide +kernel
theorem dX9_undo_46 : decode cX9_undo 46 = .ok (.sipush 972, 3) := by decide +kernel
theorem dX9_undo_49 : decode cX9_undo 49 = .ok (.sipush 243, 3) := by decide +kernel
theorem dX9_undo_52 : decode cX9_undo 52 = .ok (.aload_n 0, 1) := by decide +kernel
theorem dX9_undo_53 : decode cX9_undo 53 = .ok (.getfield 137, 3) := by decide +kernel
theorem dX9_undo_56 : decode cX9_undo 56 = .ok (.imul, 1) := by decide +kernel
theorem dX9_undo_57 : decode cX9_undo 57 = .ok (.iadd, 1) := by decide +kernel
theorem dX9_undo_58 : decode cX9_undo 58 = .ok (.iconst 0, 1) := by decide +kernel
theorem dX9_undo_59 : decode cX9_undo 59 = .ok (.invokevirtual 193, 3) := by decide +kernel
theorem dX9_undo_62 : decode cX9_undo 62 = .ok (.aload_n 0, 1) := by decide +kernel
theorem dX9_undo_63 : decode cX9_undo 63 = .ok (.getfield 7, 3) := by decide +kernel
theorem dX9_undo_66 : decode cX9_undo 66 = .ok (.sipush 242, 3) := by decide +kernel
theorem dX9_undo_69 : decode cX9_undo 69 = .ok (.iload_n 2, 1) := by decide +kernel
theorem dX9_undo_70 : decode cX9_undo 70 = .ok (.iastore, 1) := by decide +kernel
theorem dX9_undo_71 : decode cX9_undo 71 = .ok (.aload_n 0, 1) := by decide +kernel
theorem dX9_undo_72 : decode cX9_undo 72 = .ok (.getfield 7, 3) := by decide +kernel
theorem dX9_undo_75 : decode cX9_undo 75 = .ok (.bipush 48, 2) := by decide +kernel
theorem dX9_undo_77 : decode cX9_undo 77 = .ok (.iaload, 1) := by decide +kernel
theorem dX9_undo_78 : decode cX9_undo 78 = .ok (.ireturn, 1) := by decide +kernel
set_option maxRecDepth 20000 in
theorem ggX9_ahead_X9_isCard : GoodIn wsX9_ahead wsX9_isCard := goodIn_r _ [9, 10, 11, 12, 8, 13, 19, 20, 21, 22, 23, 24, 25, 26, 27, 28, 29, 30, 31, 32, 33, 34, 35, 36, 37, 38, 39, 40, 41, 42, 43, 44, 45] (by decide +kernel) (by decide +kernel)
set_option maxRecDepth 20000 in
theorem gX9_ahead_X9_isCard : GoodIn wsX9_ahead (wsV RX9 180 RX9 yX9_isCard wsX9_isCard) := goodIn_app (goodIn_of _ (by decide +kernel)) ggX9_ahead_X9_isCard
set_option maxRecDepth 20000 in
theorem ggX9_ahead_X9_in : GoodIn wsX9_ahead wsX9_in := goodIn_r _ [13] (by decide +kernel) (by decide +kernel)
set_option maxRecDepth 20000 in
theorem gX9_ahead_X9_in : GoodIn wsX9_ahead (va_wsS RX9 56 yX9_in wsX9_in) := goodIn_app (goodIn_of _ (by decide +kernel)) ggX9_ahead_X9_in
set_option maxRecDepth 20000 in
theorem ggX9_ahead_X9_colourOf : GoodIn wsX9_ahead wsX9_colourOf := goodIn_r _ [17, 18, 19, 20, 21, 22, 23, 24, 25, 26, 27, 28, 29, 30, 31, 32, 33, 34, 35, 36, 37, 38, 39, 40, 41, 42, 43, 44, 45] (by decide +kernel) (by decide +kernel)
set_option maxRecDepth 20000 in
theorem gX9_ahead_X9_colourOf : GoodIn wsX9_ahead (wsV RX9 184 RX9 yX9_colourOf wsX9_colourOf) := goodIn_app (goodIn_of _ (by decide +kernel)) ggX9_ahead_X9_colourOf
theorem dX9_ahead_0 : decode cX9_ahead 0 = .ok (.aload_n 0, 1) := by decide +kernel
theorem dX9_ahead_1 : decode cX9_ahead 1 = .ok (.iload_n 1, 1) := by decide +kernel
theorem dX9_ahead_2 : decode cX9_ahead 2 = .ok (.invokevirtual 180, 3) := by decide +kernel
theorem dX9_ahead_5 : decode cX9_ahead 5 = .ok (.ifCond .ne 6, 3) := by decide +kernel
theorem dX9_ahead_8 : decode cX9_ahead 8 = .ok (.ldc 183, 2) := by decide +kernel
theorem dX9_ahead_10 : decode cX9_ahead 10 = .ok (.ireturn, 1) := by decide +kernel
theorem dX9_ahead_11 : decode cX9_ahead 11 = .ok (.iload_n 2, 1) := by decide +kernel
theorem dX9_ahead_12 : decode cX9_ahead 12 = .ok (.i2l, 1) := by decide +kernel
theorem dX9_ahead_13 : decode cX9_ahead 13 = .ok (.lconst 1, 1) := by decide +kernel
theorem dX9_ahead_14 : decode cX9_ahead 14 = .ok (.ldc2_w 255, 3) := by decide +kernel
theorem dX9_ahead_17 : decode cX9_ahead 17 = .ok (.invokestatic 56, 3) := by decide +kernel
theorem dX9_ahead_20 : decode cX9_ahead 20 = .ok (.ifCond .eq 13, 3) := by decide +kernel
theorem dX9_ahead_23 : decode cX9_ahead 23 = .ok (.iload_n 3, 1) := by decide +kernel
theorem dX9_ahead_24 : decode cX9_ahead 24 = .ok (.i2l, 1) := by decide +kernel
theorem dX9_ahead_25 : decode cX9_ahead 25 = .ok (.lconst 0, 1) := by decide +kernel
theorem dX9_ahead_26 : decode cX9_ahead 26 = .ok (.lconst 1, 1) := by decide +kernel
theorem dX9_ahead_27 : decode cX9_ahead 27 = .ok (.invokestatic 56, 3) := by decide +kernel
theorem dX9_ahead_30 : decode cX9_ahead 30 = .ok (.ifCond .ne 6, 3) := by decide +kernel
theorem dX9_ahead_33 : decode cX9_ahead 33 = .ok (.ldc 60, 2) := by decide +kernel
theorem dX9_ahead_35 : decode cX9_ahead 35 = .ok (.ireturn, 1) := by decide +kernel
theorem dX9_ahead_36 : decode cX9_ahead 36 = .ok (.aload_n 0, 1) := by decide +kernel
theorem dX9_ahead_37 : decode cX9_ahead 37 = .ok (.iload_n 1, 1) := by decide +kernel
theorem dX9_ahead_38 : decode cX9_ahead 38 = .ok (.iload_n 3, 1) := by decide +kernel
theorem dX9_ahead_39 : decode cX9_ahead 39 = .ok (.ifCond .ne 16, 3) := by decide +kernel
theorem dX9_ahead_42 : decode cX9_ahead 42 = .ok (.aload_n 0, 1) := by decide +kernel
theorem dX9_ahead_43 : decode cX9_ahead 43 = .ok (.getfield 7, 3) := by decide +kernel
theorem dX9_ahead_46 : decode cX9_ahead 46 = .ok (.iload_n 1, 1) := by decide +kernel
theorem dX9_ahead_47 : decode cX9_ahead 47 = .ok (.iaload, 1) := by decide +kernel
theorem dX9_ahead_48 : decode cX9_ahead 48 = .ok (.iload_n 2, 1) := by decide +kernel
theorem dX9_ahead_49 : decode cX9_ahead 49 = .ok (.iadd, 1) := by decide +kernel
theorem dX9_ahead_50 : decode cX9_ahead 50 = .ok (.iconst 1, 1) := by decide +kernel
theorem dX9_ahead_51 : decode cX9_ahead 51 = .ok (.isub, 1) := by decide +kernel
theorem dX9_ahead_52 : decode cX9_ahead 52 = .ok (.goto 15, 3) := by decide +kernel
theorem dX9_ahead_55 : decode cX9_ahead 55 = .ok (.aload_n 0, 1) := by decide +kernel
theorem dX9_ahead_56 : decode cX9_ahead 56 = .ok (.getfield 7, 3) := by decide +kernel
theorem dX9_ahead_59 : decode cX9_ahead 59 = .ok (.iload_n 1, 1) := by decide +kernel
theorem dX9_ahead_60 : decode cX9_ahead 60 = .ok (.iaload, 1) := by decide +kernel
theorem dX9_ahead_61 : decode cX9_ahead 61 = .ok (.iload_n 2, 1) := by decide +kernel
theorem dX9_ahead_62 : decode cX9_ahead 62 = .ok (.isub, 1) := by decide +kernel
theorem dX9_ahead_63 : decode cX9_ahead 63 = .ok (.sipush 400, 3) := by decide +kernel
theorem dX9_ahead_66 : decode cX9_ahead 66 = .ok (.iadd, 1) := by decide +kernel
theorem dX9_ahead_67 : decode cX9_ahead 67 = .ok (.invokevirtual 184, 3) := by decide +kernel
theorem dX9_ahead_70 : decode cX9_ahead 70 = .ok (.ireturn, 1) := by decide +kernel
set_option maxRecDepth 20000 in
theorem ggX9_lasts_X9_isMoves : GoodIn wsX9_lasts wsX9_isMoves := goodIn_r _ [7, 8, 9, 10, 6, 11, 62, 63, 64, 65, 66, 67, 68, 69, 70, 71, 72, 73, 74, 75, 76, 77, 78, 79, 80, 81, 82, 83, 84, 85, 86, 87, 88] (by decide +kernel) (by decide +kernel)
set_option maxRecDepth 20000 in
theorem gX9_lasts_X9_isMoves : GoodIn wsX9_lasts (wsV RX9 219 RX9 yX9_isMoves wsX9_isMoves) := goodIn_app (goodIn_of _ (by decide +kernel)) ggX9_lasts_X9_isMoves
set_option maxRecDepth 20000 in
theorem ggX9_lasts_X9_in : GoodIn wsX9_lasts wsX9_in := goodIn_r _ [11] (by decide +kernel) (by decide +kernel)
set_option maxRecDepth 20000 in
theorem gX9_lasts_X9_in : GoodIn wsX9_lasts (va_wsS RX9 56 yX9_in wsX9_in) := goodIn_app (goodIn_of _ (by decide +kernel)) ggX9_lasts_X9_in
set_option maxRecDepth 20000 in
theorem ggX9_lasts_X9_isLoom : GoodIn wsX9_lasts wsX9_isLoom := goodIn_r _ [15, 16, 62, 63, 64, 65, 66, 67, 68, 69, 70, 71, 72, 73, 74, 75, 76, 77, 78, 79, 80, 81, 82, 83, 84, 85, 86, 87, 88] (by decide +kernel) (by decide +kernel)
set_option maxRecDepth 20000 in
theorem gX9_lasts_X9_isLoom : GoodIn wsX9_lasts (wsV RX9 224 RX9 yX9_isLoom wsX9_isLoom) := goodIn_app (goodIn_of _ (by decide +kernel)) ggX9_lasts_X9_isLoom
set_option maxRecDepth 20000 in
theorem ggX9_lasts_X9_copy : GoodIn wsX9_lasts wsX9_copy := goodIn_r _ [20, 21, 62, 63, 64, 65, 66, 67, 68, 69, 70, 71, 72, 73, 74, 75, 76, 77, 78, 79, 80, 81, 82, 83, 84, 85, 86, 87, 88] (by decide +kernel) (by decide +kernel)
set_option maxRecDepth 20000 in
theorem gX9_lasts_X9_copy : GoodIn wsX9_lasts (wsV RX9 193 RX9 yX9_copy wsX9_copy) := goodIn_app (goodIn_of _ (by decide +kernel)) ggX9_lasts_X9_copy
set_option maxRecDepth 20000 in
theorem ggX9_lasts_X9_pickIn : GoodIn wsX9_lasts wsX9_pickIn := goodIn_r _ [25, 26, 27, 28, 29, 6, 30, 8, 31, 32, 33, 34, 35, 36, 37, 38, 39, 40, 41, 21, 42, 43, 44, 45, 46, 47, 48, 49, 50, 62, 63, 64, 65, 66, 67, 68, 69, 70, 71, 72, 73, 74, 75, 76, 77, 78, 79, 80, 81, 82, 83, 84, 85, 86, 87, 88] (by decide +kernel) (by decide +kernel)
set_option maxRecDepth 20000 in
theorem gX9_lasts_X9_pickIn : GoodIn wsX9_lasts (wsV RX9 210 RX9 yX9_pickIn wsX9_pickIn) := goodIn_app (goodIn_of _ (by decide +kernel)) ggX9_lasts_X9_pickIn
set_option maxRecDepth 20000 in
theorem ggX9_lasts_X9_lacks : GoodIn wsX9_lasts wsX9_lacks := goodIn_r _ [54, 16, 21, 62, 63, 64, 65, 66, 67, 68, 69, 70, 71, 72, 73, 74, 75, 76, 77, 78, 79, 80, 81, 82, 83, 84, 85, 86, 87, 88] (by decide +kernel) (by decide +kernel)
set_option maxRecDepth 20000 in
theorem gX9_lasts_X9_lacks : GoodIn wsX9_lasts (wsV RX9 213 RX9 yX9_lacks wsX9_lacks) := goodIn_app (goodIn_of _ (by decide +kernel)) ggX9_lasts_X9_lacks
set_option maxRecDepth 20000 in
theorem ggX9_lasts_X9_isTight : GoodIn wsX9_lasts wsX9_isTight := goodIn_r _ [58, 26, 21, 59, 60, 6, 61, 62, 63, 64, 65, 66, 67, 68, 69, 70, 71, 72, 73, 74, 75, 76, 77, 78, 79, 80, 81, 82, 83, 84, 85, 86, 87, 88] (by decide +kernel) (by decide +kernel)
set_option maxRecDepth 20000 in
theorem gX9_lasts_X9_isTight : GoodIn wsX9_lasts (wsV RX9 216 RX9 yX9_isTight wsX9_isTight) := goodIn_app (goodIn_of _ (by decide +kernel)) ggX9_lasts_X9_isTight
theorem dX9_lasts_0 : decode cX9_lasts 0 = .ok (.aload_n 0, 1) := by decide +kernel
theorem dX9_lasts_1 : decode cX9_lasts 1 = .ok (.iload_n 1, 1) := by decide +kernel
theorem dX9_lasts_2 : decode cX9_lasts 2 = .ok (.invokevirtual 219, 3) := by decide +kernel
theorem dX9_lasts_5 : decode cX9_lasts 5 = .ok (.ifCond .eq 13, 3) := by decide +kernel
theorem dX9_lasts_8 : decode cX9_lasts 8 = .ok (.iload_n 2, 1) := by decide +kernel
theorem dX9_lasts_9 : decode cX9_lasts 9 = .ok (.i2l, 1) := by decide +kernel
theorem dX9_lasts_10 : decode cX9_lasts 10 = .ok (.lconst 0, 1) := by decide +kernel
theorem dX9_lasts_11 : decode cX9_lasts 11 = .ok (.lconst 1, 1) := by decide +kernel
theorem dX9_lasts_12 : decode cX9_lasts 12 = .ok (.invokestatic 56, 3) := by decide +kernel
theorem dX9_lasts_15 : decode cX9_lasts 15 = .ok (.ifCond .ne 6, 3) := by decide +kernel
theorem dX9_lasts_18 : decode cX9_lasts 18 = .ok (.ldc 60, 2) := by decide +kernel
theorem dX9_lasts_20 : decode cX9_lasts 20 = .ok (.ireturn, 1) := by decide +kernel
theorem dX9_lasts_21 : decode cX9_lasts 21 = .ok (.aload_n 0, 1) := by decide +kernel
theorem dX9_lasts_22 : decode cX9_lasts 22 = .ok (.invokevirtual 224, 3) := by decide +kernel
theorem dX9_lasts_25 : decode cX9_lasts 25 = .ok (.ifCond .ne 6, 3) := by decide +kernel
theorem dX9_lasts_28 : decode cX9_lasts 28 = .ok (.ldc 231, 2) := by decide +kernel
theorem dX9_lasts_30 : decode cX9_lasts 30 = .ok (.ireturn, 1) := by decide +kernel
theorem dX9_lasts_31 : decode cX9_lasts 31 = .ok (.aload_n 0, 1) := by decide +kernel
theorem dX9_lasts_32 : decode cX9_lasts 32 = .ok (.iconst 0, 1) := by decide +kernel
theorem dX9_lasts_33 : decode cX9_lasts 33 = .ok (.sipush 243, 3) := by decide +kernel
theorem dX9_lasts_36 : decode cX9_lasts 36 = .ok (.invokevirtual 193, 3) := by decide +kernel
theorem dX9_lasts_39 : decode cX9_lasts 39 = .ok (.iconst 0, 1) := by decide +kernel
theorem dX9_lasts_40 : decode cX9_lasts 40 = .ok (.istore_n 3, 1) := by decide +kernel
theorem dX9_lasts_41 : decode cX9_lasts 41 = .ok (.iload_n 3, 1) := by decide +kernel
theorem dX9_lasts_42 : decode cX9_lasts 42 = .ok (.bipush 99, 2) := by decide +kernel
theorem dX9_lasts_44 : decode cX9_lasts 44 = .ok (.if_icmp .ge 54, 3) := by decide +kernel
theorem dX9_lasts_47 : decode cX9_lasts 47 = .ok (.aload_n 0, 1) := by decide +kernel
theorem dX9_lasts_48 : decode cX9_lasts 48 = .ok (.sipush 243, 3) := by decide +kernel
theorem dX9_lasts_51 : decode cX9_lasts 51 = .ok (.iload_n 1, 1) := by decide +kernel
theorem dX9_lasts_52 : decode cX9_lasts 52 = .ok (.invokevirtual 210, 3) := by decide +kernel
theorem dX9_lasts_55 : decode cX9_lasts 55 = .ok (.aload_n 0, 1) := by decide +kernel
theorem dX9_lasts_56 : decode cX9_lasts 56 = .ok (.sipush 243, 3) := by decide +kernel
theorem dX9_lasts_59 : decode cX9_lasts 59 = .ok (.invokevirtual 213, 3) := by decide +kernel
theorem dX9_lasts_62 : decode cX9_lasts 62 = .ok (.iconst (-1), 1) := by decide +kernel
theorem dX9_lasts_63 : decode cX9_lasts 63 = .ok (.if_icmp .ne 13, 3) := by decide +kernel
theorem dX9_lasts_66 : decode cX9_lasts 66 = .ok (.aload_n 0, 1) := by decide +kernel
theorem dX9_lasts_67 : decode cX9_lasts 67 = .ok (.sipush 243, 3) := by decide +kernel
theorem dX9_lasts_70 : decode cX9_lasts 70 = .ok (.invokevirtual 216, 3) := by decide +kernel
theorem dX9_lasts_73 : decode cX9_lasts 73 = .ok (.ifCond .eq 19, 3) := by decide +kernel
theorem dX9_lasts_76 : decode cX9_lasts 76 = .ok (.iload_n 2, 1) := by decide +kernel
theorem dX9_lasts_77 : decode cX9_lasts 77 = .ok (.ifCond .ne 7, 3) := by decide +kernel
theorem dX9_lasts_80 : decode cX9_lasts 80 = .ok (.iload_n 3, 1) := by decide +kernel
theorem dX9_lasts_81 : decode cX9_lasts 81 = .ok (.goto 10, 3) := by decide +kernel
theorem dX9_lasts_84 : decode cX9_lasts 84 = .ok (.aload_n 0, 1) := by decide +kernel
theorem dX9_lasts_85 : decode cX9_lasts 85 = .ok (.sipush 243, 3) := by decide +kernel
theorem dX9_lasts_88 : decode cX9_lasts 88 = .ok (.invokevirtual 213, 3) := by decide +kernel
theorem dX9_lasts_91 : decode cX9_lasts 91 = .ok (.ireturn, 1) := by decide +kernel
theorem dX9_lasts_92 : decode cX9_lasts 92 = .ok (.iinc 3 1, 3) := by decide +kernel
theorem dX9_lasts_95 : decode cX9_lasts 95 = .ok (.goto (-54), 3) := by decide +kernel
theorem dX9_lasts_98 : decode cX9_lasts 98 = .ok (.iload_n 2, 1) := by decide +kernel
theorem dX9_lasts_99 : decode cX9_lasts 99 = .ok (.ifCond .ne 8, 3) := by decide +kernel
theorem dX9_lasts_102 : decode cX9_lasts 102 = .ok (.bipush 99, 2) := by decide +kernel
theorem dX9_lasts_104 : decode cX9_lasts 104 = .ok (.goto 4, 3) := by decide +kernel
theorem dX9_lasts_107 : decode cX9_lasts 107 = .ok (.iconst (-1), 1) := by decide +kernel
theorem dX9_lasts_108 : decode cX9_lasts 108 = .ok (.ireturn, 1) := by decide +kernel
set_option maxRecDepth 20000 in
theorem ggX9_firstOf_X9_has : GoodIn wsX9_firstOf wsX9_has := goodIn_r _ [5] (by decide +kernel) (by decide +kernel)
set_option maxRecDepth 20000 in
theorem gX9_firstOf_X9_has : GoodIn wsX9_firstOf (va_wsS RX9 140 yX9_has wsX9_has) := goodIn_app (goodIn_of _ (by decide +kernel)) ggX9_firstOf_X9_has
theorem dX9_firstOf_0 : decode cX9_firstOf 0 = .ok (.iconst 0, 1) := by decide +kernel
theorem dX9_firstOf_1 : decode cX9_firstOf 1 = .ok (.istore_n 2, 1) := by decide +kernel
theorem dX9_firstOf_2 : decode cX9_firstOf 2 = .ok (.aload_n 0, 1) := by decide +kernel
theorem dX9_firstOf_3 : decode cX9_firstOf 3 = .ok (.getfield 23, 3) := by decide +kernel
theorem dX9_firstOf_6 : decode cX9_firstOf 6 = .ok (.iload_n 1, 1) := by decide +kernel
theorem dX9_firstOf_7 : decode cX9_firstOf 7 = .ok (.iaload, 1) := by decide +kernel
theorem dX9_firstOf_8 : decode cX9_firstOf 8 = .ok (.iload_n 2, 1) := by decide +kernel
theorem dX9_firstOf_9 : decode cX9_firstOf 9 = .ok (.invokestatic 140, 3) := by decide +kernel
theorem dX9_firstOf_12 : decode cX9_firstOf 12 = .ok (.ifCond .ne 9, 3) := by decide +kernel
theorem dX9_firstOf_15 : decode cX9_firstOf 15 = .ok (.iinc 2 1, 3) := by decide +kernel
theorem dX9_firstOf_18 : decode cX9_firstOf 18 = .ok (.goto (-16), 3) := by decide +kernel
theorem dX9_firstOf_21 : decode cX9_firstOf 21 = .ok (.iload_n 2, 1) := by decide +kernel
theorem dX9_firstOf_22 : decode cX9_firstOf 22 = .ok (.ireturn, 1) := by decide +kernel
set_option maxRecDepth 20000 in
theorem ggX9_untwist_X9_in : GoodIn wsX9_untwist wsX9_in := goodIn_r _ [8] (by decide +kernel) (by decide +kernel)
set_option maxRecDepth 20000 in
theorem gX9_untwist_X9_in : GoodIn wsX9_untwist (va_wsS RX9 56 yX9_in wsX9_in) := goodIn_app (goodIn_of _ (by decide +kernel)) ggX9_untwist_X9_in
set_option maxRecDepth 20000 in
theorem ggX9_untwist_X9_isLoom : GoodIn wsX9_untwist wsX9_isLoom := goodIn_r _ [12, 13, 28, 29, 30, 31, 32, 33, 34, 35, 36, 37, 38, 39, 40, 41, 42, 43, 44, 45, 46, 47, 48, 49, 50, 51, 52, 53, 54] (by decide +kernel) (by decide +kernel)
set_option maxRecDepth 20000 in
theorem gX9_untwist_X9_isLoom : GoodIn wsX9_untwist (wsV RX9 224 RX9 yX9_isLoom wsX9_isLoom) := goodIn_app (goodIn_of _ (by decide +kernel)) ggX9_untwist_X9_isLoom
set_option maxRecDepth 20000 in
theorem ggX9_untwist_X9_firstOf : GoodIn wsX9_untwist wsX9_firstOf := goodIn_r _ [17, 18, 19, 20, 7, 21, 28, 29, 30, 31, 32, 33, 34, 35, 36, 37, 38, 39, 40, 41, 42, 43, 44, 45, 46, 47, 48, 49, 50, 51, 52, 53, 54] (by decide +kernel) (by decide +kernel)
set_option maxRecDepth 20000 in
theorem gX9_untwist_X9_firstOf : GoodIn wsX9_untwist (wsV RX9 257 RX9 yX9_firstOf wsX9_firstOf) := goodIn_app (goodIn_of _ (by decide +kernel)) ggX9_untwist_X9_firstOf
set_option maxRecDepth 20000 in
theorem ggX9_untwist_X9_size : GoodIn wsX9_untwist wsX9_size := goodIn_r _ [24] (by decide +kernel) (by decide +kernel)
set_option maxRecDepth 20000 in
theorem gX9_untwist_X9_size : GoodIn wsX9_untwist (va_wsS RX9 207 yX9_size wsX9_size) := goodIn_app (goodIn_of _ (by decide +kernel)) ggX9_untwist_X9_size
set_option maxRecDepth 20000 in
theorem ggX9_untwist_X9_most : GoodIn wsX9_untwist wsX9_most := goodIn_r _ [27] (by decide +kernel) (by decide +kernel)
set_option maxRecDepth 20000 in
theorem gX9_untwist_X9_most : GoodIn wsX9_untwist (va_wsS RX9 155 yX9_most wsX9_most) := goodIn_app (goodIn_of _ (by decide +kernel)) ggX9_untwist_X9_most
theorem dX9_untwist_0 : decode cX9_untwist 0 = .ok (.iload_n 1, 1) := by decide +kernel
theorem dX9_untwist_1 : decode cX9_untwist 1 = .ok (.i2l, 1) := by decide +kernel
theorem dX9_untwist_2 : decode cX9_untwist 2 = .ok (.lconst 0, 1) := by decide +kernel
theorem dX9_untwist_3 : decode cX9_untwist 3 = .ok (.lconst 1, 1) := by decide +kernel
theorem dX9_untwist_4 : decode cX9_untwist 4 = .ok (.invokestatic 56, 3) := by decide +kernel
theorem dX9_untwist_7 : decode cX9_untwist 7 = .ok (.ifCond .ne 6, 3) := by decide +kernel
theorem dX9_untwist_10 : decode cX9_untwist 10 = .ok (.ldc 60, 2) := by decide +kernel
theorem dX9_untwist_12 : decode cX9_untwist 12 = .ok (.ireturn, 1) := by decide +kernel
theorem dX9_untwist_13 : decode cX9_untwist 13 = .ok (.aload_n 0, 1) := by decide +kernel
theorem dX9_untwist_14 : decode cX9_untwist 14 = .ok (.invokevirtual 224, 3) := by decide +kernel
theorem dX9_untwist_17 : decode cX9_untwist 17 = .ok (.ifCond .ne 6, 3) := by decide +kernel
theorem dX9_untwist_20 : decode cX9_untwist 20 = .ok (.ldc 231, 2) := by decide +kernel
theorem dX9_untwist_22 : decode cX9_untwist 22 = .ok (.ireturn, 1) := by decide +kernel
theorem dX9_untwist_23 : decode cX9_untwist 23 = .ok (.iconst 0, 1) := by decide +kernel
theorem dX9_untwist_24 : decode cX9_untwist 24 = .ok (.istore_n 2, 1) := by decide +kernel
theorem dX9_untwist_25 : decode cX9_untwist 25 = .ok (.iconst 0, 1) := by decide +kernel
theorem dX9_untwist_26 : decode cX9_untwist 26 = .ok (.istore_n 3, 1) := by decide +kernel
theorem dX9_untwist_27 : decode cX9_untwist 27 = .ok (.iconst 1, 1) := by decide +kernel
theorem dX9_untwist_28 : decode cX9_untwist 28 = .ok (.istore 4, 2) := by decide +kernel
theorem dX9_untwist_30 : decode cX9_untwist 30 = .ok (.iconst 0, 1) := by decide +kernel
theorem dX9_untwist_31 : decode cX9_untwist 31 = .ok (.istore 5, 2) := by decide +kernel
theorem dX9_untwist_33 : decode cX9_untwist 33 = .ok (.iload 5, 2) := by decide +kernel
theorem dX9_untwist_35 : decode cX9_untwist 35 = .ok (.aload_n 0, 1) := by decide +kernel
theorem dX9_untwist_36 : decode cX9_untwist 36 = .ok (.getfield 128, 3) := by decide +kernel
theorem dX9_untwist_39 : decode cX9_untwist 39 = .ok (.if_icmp .ge 66, 3) := by decide +kernel
theorem dX9_untwist_42 : decode cX9_untwist 42 = .ok (.aload_n 0, 1) := by decide +kernel
theorem dX9_untwist_43 : decode cX9_untwist 43 = .ok (.getfield 7, 3) := by decide +kernel
theorem dX9_untwist_46 : decode cX9_untwist 46 = .ok (.bipush 8, 2) := by decide +kernel
theorem dX9_untwist_48 : decode cX9_untwist 48 = .ok (.aload_n 0, 1) := by decide +kernel
theorem dX9_untwist_49 : decode cX9_untwist 49 = .ok (.iload 5, 2) := by decide +kernel
theorem dX9_untwist_51 : decode cX9_untwist 51 = .ok (.invokevirtual 257, 3) := by decide +kernel
theorem dX9_untwist_54 : decode cX9_untwist 54 = .ok (.iadd, 1) := by decide +kernel
theorem dX9_untwist_55 : decode cX9_untwist 55 = .ok (.iaload, 1) := by decide +kernel
theorem dX9_untwist_56 : decode cX9_untwist 56 = .ok (.istore 6, 2) := by decide +kernel
theorem dX9_untwist_58 : decode cX9_untwist 58 = .ok (.iload_n 2, 1) := by decide +kernel
theorem dX9_untwist_59 : decode cX9_untwist 59 = .ok (.iload 6, 2) := by decide +kernel
theorem dX9_untwist_61 : decode cX9_untwist 61 = .ok (.invokestatic 207, 3) := by decide +kernel
theorem dX9_untwist_64 : decode cX9_untwist 64 = .ok (.invokestatic 155, 3) := by decide +kernel
theorem dX9_untwist_67 : decode cX9_untwist 67 = .ok (.istore_n 2, 1) := by decide +kernel
theorem dX9_untwist_68 : decode cX9_untwist 68 = .ok (.iload_n 3, 1) := by decide +kernel
theorem dX9_untwist_69 : decode cX9_untwist 69 = .ok (.iload 4, 2) := by decide +kernel
theorem dX9_untwist_71 : decode cX9_untwist 71 = .ok (.iload 6, 2) := by decide +kernel
theorem dX9_untwist_73 : decode cX9_untwist 73 = .ok (.ifCond .le 7, 3) := by decide +kernel
theorem dX9_untwist_76 : decode cX9_untwist 76 = .ok (.iconst 2, 1) := by decide +kernel
theorem dX9_untwist_77 : decode cX9_untwist 77 = .ok (.goto 13, 3) := by decide +kernel
theorem dX9_untwist_80 : decode cX9_untwist 80 = .ok (.iload 6, 2) := by decide +kernel
theorem dX9_untwist_82 : decode cX9_untwist 82 = .ok (.ifCond .ge 7, 3) := by decide +kernel
theorem dX9_untwist_85 : decode cX9_untwist 85 = .ok (.iconst 1, 1) := by decide +kernel
theorem dX9_untwist_86 : decode cX9_untwist 86 = .ok (.goto 4, 3) := by decide +kernel
theorem dX9_untwist_89 : decode cX9_untwist 89 = .ok (.iconst 0, 1) := by decide +kernel
theorem dX9_untwist_90 : decode cX9_untwist 90 = .ok (.imul, 1) := by decide +kernel
theorem dX9_untwist_91 : decode cX9_untwist 91 = .ok (.iadd, 1) := by decide +kernel
theorem dX9_untwist_92 : decode cX9_untwist 92 = .ok (.istore_n 3, 1) := by decide +kernel
theorem dX9_untwist_93 : decode cX9_untwist 93 = .ok (.iload 4, 2) := by decide +kernel
theorem dX9_untwist_95 : decode cX9_untwist 95 = .ok (.iconst 3, 1) := by decide +kernel
theorem dX9_untwist_96 : decode cX9_untwist 96 = .ok (.imul, 1) := by decide +kernel
theorem dX9_untwist_97 : decode cX9_untwist 97 = .ok (.istore 4, 2) := by decide +kernel
theorem dX9_untwist_99 : decode cX9_untwist 99 = .ok (.iinc 5 1, 3) := by decide +kernel
theorem dX9_untwist_102 : decode cX9_untwist 102 = .ok (.goto (-69), 3) := by decide +kernel
theorem dX9_untwist_105 : decode cX9_untwist 105 = .ok (.iload_n 1, 1) := by decide +kernel
theorem dX9_untwist_106 : decode cX9_untwist 106 = .ok (.ifCond .ne 7, 3) := by decide +kernel
theorem dX9_untwist_109 : decode cX9_untwist 109 = .ok (.iload_n 2, 1) := by decide +kernel
theorem dX9_untwist_110 : decode cX9_untwist 110 = .ok (.goto 4, 3) := by decide +kernel
theorem dX9_untwist_113 : decode cX9_untwist 113 = .ok (.iload_n 3, 1) := by decide +kernel
theorem dX9_untwist_114 : decode cX9_untwist 114 = .ok (.ireturn, 1) := by decide +kernel
set_option maxRecDepth 20000 in
theorem ggX9_standsAlike_X9_has : GoodIn wsX9_standsAlike wsX9_has := goodIn_r _ [7] (by decide +kernel) (by decide +kernel)
set_option maxRecDepth 20000 in
theorem gX9_standsAlike_X9_has : GoodIn wsX9_standsAlike (va_wsS RX9 140 yX9_has wsX9_has) := goodIn_app (goodIn_of _ (by decide +kernel)) ggX9_standsAlike_X9_has
set_option maxRecDepth 20000 in
theorem ggX9_standsAlike_X9_firstOf : GoodIn wsX9_standsAlike wsX9_firstOf := goodIn_r _ [11, 2, 4, 5, 6, 7, 12, 13, 14, 15, 16, 17, 18, 19, 20, 21, 22, 23, 24, 25, 26, 27, 28, 29, 30, 31, 32, 33, 34, 35, 36, 37, 38] (by decide +kernel) (by decide +kernel)
set_option maxRecDepth 20000 in
theorem gX9_standsAlike_X9_firstOf : GoodIn wsX9_standsAlike (wsV RX9 257 RX9 yX9_firstOf wsX9_firstOf) := goodIn_app (goodIn_of _ (by decide +kernel)) ggX9_standsAlike_X9_firstOf
theorem dX9_standsAlike_0 : decode cX9_standsAlike 0 = .ok (.iconst 1, 1) := by decide +kernel
theorem dX9_standsAlike_1 : decode cX9_standsAlike 1 = .ok (.istore_n 2, 1) := by decide +kernel
theorem dX9_standsAlike_2 : decode cX9_standsAlike 2 = .ok (.iconst 0, 1) := by decide +kernel
theorem dX9_standsAlike_3 : decode cX9_standsAlike 3 = .ok (.istore_n 3, 1) := by decide +kernel
theorem dX9_standsAlike_4 : decode cX9_standsAlike 4 = .ok (.iload_n 3, 1) := by decide +kernel
theorem dX9_standsAlike_5 : decode cX9_standsAlike 5 = .ok (.aload_n 0, 1) := by decide +kernel
theorem dX9_standsAlike_6 : decode cX9_standsAlike 6 = .ok (.getfield 122, 3) := by decide +kernel
theorem dX9_standsAlike_9 : decode cX9_standsAlike 9 = .ok (.if_icmp .ge 51, 3) := by decide +kernel
theorem dX9_standsAlike_12 : decode cX9_standsAlike 12 = .ok (.iload_n 2, 1) := by decide +kernel
theorem dX9_standsAlike_13 : decode cX9_standsAlike 13 = .ok (.ifCond .eq 39, 3) := by decide +kernel
theorem dX9_standsAlike_16 : decode cX9_standsAlike 16 = .ok (.aload_n 0, 1) := by decide +kernel
theorem dX9_standsAlike_17 : decode cX9_standsAlike 17 = .ok (.getfield 23, 3) := by decide +kernel
theorem dX9_standsAlike_20 : decode cX9_standsAlike 20 = .ok (.iload_n 1, 1) := by decide +kernel
theorem dX9_standsAlike_21 : decode cX9_standsAlike 21 = .ok (.iaload, 1) := by decide +kernel
theorem dX9_standsAlike_22 : decode cX9_standsAlike 22 = .ok (.iload_n 3, 1) := by decide +kernel
theorem dX9_standsAlike_23 : decode cX9_standsAlike 23 = .ok (.invokestatic 140, 3) := by decide +kernel
theorem dX9_standsAlike_26 : decode cX9_standsAlike 26 = .ok (.ifCond .eq 22, 3) := by decide +kernel
theorem dX9_standsAlike_29 : decode cX9_standsAlike 29 = .ok (.aload_n 0, 1) := by decide +kernel
theorem dX9_standsAlike_30 : decode cX9_standsAlike 30 = .ok (.getfield 7, 3) := by decide +kernel
theorem dX9_standsAlike_33 : decode cX9_standsAlike 33 = .ok (.iload_n 3, 1) := by decide +kernel
theorem dX9_standsAlike_34 : decode cX9_standsAlike 34 = .ok (.iaload, 1) := by decide +kernel
theorem dX9_standsAlike_35 : decode cX9_standsAlike 35 = .ok (.aload_n 0, 1) := by decide +kernel
theorem dX9_standsAlike_36 : decode cX9_standsAlike 36 = .ok (.getfield 7, 3) := by decide +kernel
theorem dX9_standsAlike_39 : decode cX9_standsAlike 39 = .ok (.aload_n 0, 1) := by decide +kernel
theorem dX9_standsAlike_40 : decode cX9_standsAlike 40 = .ok (.iload_n 1, 1) := by decide +kernel
theorem dX9_standsAlike_41 : decode cX9_standsAlike 41 = .ok (.invokevirtual 257, 3) := by decide +kernel
theorem dX9_standsAlike_44 : decode cX9_standsAlike 44 = .ok (.iaload, 1) := by decide +kernel
theorem dX9_standsAlike_45 : decode cX9_standsAlike 45 = .ok (.if_icmp .ne 7, 3) := by decide +kernel
theorem dX9_standsAlike_48 : decode cX9_standsAlike 48 = .ok (.iconst 1, 1) := by decide +kernel
theorem dX9_standsAlike_49 : decode cX9_standsAlike 49 = .ok (.goto 4, 3) := by decide +kernel
theorem dX9_standsAlike_52 : decode cX9_standsAlike 52 = .ok (.iconst 0, 1) := by decide +kernel
theorem dX9_standsAlike_53 : decode cX9_standsAlike 53 = .ok (.istore_n 2, 1) := by decide +kernel
theorem dX9_standsAlike_54 : decode cX9_standsAlike 54 = .ok (.iinc 3 1, 3) := by decide +kernel
theorem dX9_standsAlike_57 : decode cX9_standsAlike 57 = .ok (.goto (-53), 3) := by decide +kernel
theorem dX9_standsAlike_60 : decode cX9_standsAlike 60 = .ok (.iload_n 2, 1) := by decide +kernel
theorem dX9_standsAlike_61 : decode cX9_standsAlike 61 = .ok (.ireturn, 1) := by decide +kernel
set_option maxRecDepth 20000 in
theorem ggX9_home_X9_in : GoodIn wsX9_home wsX9_in := goodIn_r _ [8] (by decide +kernel) (by decide +kernel)
set_option maxRecDepth 20000 in
theorem gX9_home_X9_in : GoodIn wsX9_home (va_wsS RX9 56 yX9_in wsX9_in) := goodIn_app (goodIn_of _ (by decide +kernel)) ggX9_home_X9_in
set_option maxRecDepth 20000 in
theorem ggX9_home_X9_isLoom : GoodIn wsX9_home wsX9_isLoom := goodIn_r _ [12, 13, 30, 31, 32, 33, 34, 35, 36, 37, 38, 39, 40, 41, 42, 43, 44, 45, 46, 47, 48, 49, 50, 51, 52, 53, 54, 55, 56] (by decide +kernel) (by decide +kernel)
set_option maxRecDepth 20000 in
theorem gX9_home_X9_isLoom : GoodIn wsX9_home (wsV RX9 224 RX9 yX9_isLoom wsX9_isLoom) := goodIn_app (goodIn_of _ (by decide +kernel)) ggX9_home_X9_isLoom
set_option maxRecDepth 20000 in
theorem ggX9_home_X9_standsAlike : GoodIn wsX9_home wsX9_standsAlike := goodIn_r _ [17, 18, 19, 4, 20, 21, 7, 22, 23, 24, 25, 26, 30, 31, 32, 33, 34, 35, 36, 37, 38, 39, 40, 41, 42, 43, 44, 45, 46, 47, 48, 49, 50, 51, 52, 53, 54, 55, 56] (by decide +kernel) (by decide +kernel)
set_option maxRecDepth 20000 in
theorem gX9_home_X9_standsAlike : GoodIn wsX9_home (wsV RX9 260 RX9 yX9_standsAlike wsX9_standsAlike) := goodIn_app (goodIn_of _ (by decide +kernel)) ggX9_home_X9_standsAlike
set_option maxRecDepth 20000 in
theorem ggX9_home_X9_firstOf : GoodIn wsX9_home wsX9_firstOf := goodIn_r _ [26, 19, 20, 21, 7, 22, 30, 31, 32, 33, 34, 35, 36, 37, 38, 39, 40, 41, 42, 43, 44, 45, 46, 47, 48, 49, 50, 51, 52, 53, 54, 55, 56] (by decide +kernel) (by decide +kernel)
set_option maxRecDepth 20000 in
theorem gX9_home_X9_firstOf : GoodIn wsX9_home (wsV RX9 257 RX9 yX9_firstOf wsX9_firstOf) := goodIn_app (goodIn_of _ (by decide +kernel)) ggX9_home_X9_firstOf
set_option maxRecDepth 20000 in
theorem ggX9_home_X9_most : GoodIn wsX9_home wsX9_most := goodIn_r _ [29] (by decide +kernel) (by decide +kernel)
set_option maxRecDepth 20000 in
theorem gX9_home_X9_most : GoodIn wsX9_home (va_wsS RX9 155 yX9_most wsX9_most) := goodIn_app (goodIn_of _ (by decide +kernel)) ggX9_home_X9_most
theorem dX9_home_0 : decode cX9_home 0 = .ok (.iload_n 1, 1) := by decide +kernel
theorem dX9_home_1 : decode cX9_home 1 = .ok (.i2l, 1) := by decide +kernel
theorem dX9_home_2 : decode cX9_home 2 = .ok (.lconst 0, 1) := by decide +kernel
theorem dX9_home_3 : decode cX9_home 3 = .ok (.lconst 1, 1) := by decide +kernel
theorem dX9_home_4 : decode cX9_home 4 = .ok (.invokestatic 56, 3) := by decide +kernel
theorem dX9_home_7 : decode cX9_home 7 = .ok (.ifCond .ne 6, 3) := by decide +kernel
theorem dX9_home_10 : decode cX9_home 10 = .ok (.ldc 60, 2) := by decide +kernel
theorem dX9_home_12 : decode cX9_home 12 = .ok (.ireturn, 1) := by decide +kernel
theorem dX9_home_13 : decode cX9_home 13 = .ok (.aload_n 0, 1) := by decide +kernel
theorem dX9_home_14 : decode cX9_home 14 = .ok (.invokevirtual 224, 3) := by decide +kernel
theorem dX9_home_17 : decode cX9_home 17 = .ok (.ifCond .ne 6, 3) := by decide +kernel
theorem dX9_home_20 : decode cX9_home 20 = .ok (.ldc 231, 2) := by decide +kernel
theorem dX9_home_22 : decode cX9_home 22 = .ok (.ireturn, 1) := by decide +kernel
theorem dX9_home_23 : decode cX9_home 23 = .ok (.iconst 0, 1) := by decide +kernel
theorem dX9_home_24 : decode cX9_home 24 = .ok (.istore_n 2, 1) := by decide +kernel
theorem dX9_home_25 : decode cX9_home 25 = .ok (.iconst 0, 1) := by decide +kernel
theorem dX9_home_26 : decode cX9_home 26 = .ok (.istore_n 3, 1) := by decide +kernel
theorem dX9_home_27 : decode cX9_home 27 = .ok (.iconst 1, 1) := by decide +kernel
theorem dX9_home_28 : decode cX9_home 28 = .ok (.istore 4, 2) := by decide +kernel
theorem dX9_home_30 : decode cX9_home 30 = .ok (.iconst 0, 1) := by decide +kernel
theorem dX9_home_31 : decode cX9_home 31 = .ok (.istore 5, 2) := by decide +kernel
theorem dX9_home_33 : decode cX9_home 33 = .ok (.iload 5, 2) := by decide +kernel
theorem dX9_home_35 : decode cX9_home 35 = .ok (.aload_n 0, 1) := by decide +kernel
theorem dX9_home_36 : decode cX9_home 36 = .ok (.getfield 128, 3) := by decide +kernel
theorem dX9_home_39 : decode cX9_home 39 = .ok (.if_icmp .ge 82, 3) := by decide +kernel
theorem dX9_home_42 : decode cX9_home 42 = .ok (.aload_n 0, 1) := by decide +kernel
theorem dX9_home_43 : decode cX9_home 43 = .ok (.iload 5, 2) := by decide +kernel
theorem dX9_home_45 : decode cX9_home 45 = .ok (.invokevirtual 260, 3) := by decide +kernel
theorem dX9_home_48 : decode cX9_home 48 = .ok (.ifCond .ne 5, 3) := by decide +kernel
theorem dX9_home_51 : decode cX9_home 51 = .ok (.iconst (-1), 1) := by decide +kernel
theorem dX9_home_52 : decode cX9_home 52 = .ok (.ireturn, 1) := by decide +kernel
theorem dX9_home_53 : decode cX9_home 53 = .ok (.aload_n 0, 1) := by decide +kernel
theorem dX9_home_54 : decode cX9_home 54 = .ok (.getfield 7, 3) := by decide +kernel
theorem dX9_home_57 : decode cX9_home 57 = .ok (.aload_n 0, 1) := by decide +kernel
theorem dX9_home_58 : decode cX9_home 58 = .ok (.iload 5, 2) := by decide +kernel
theorem dX9_home_60 : decode cX9_home 60 = .ok (.invokevirtual 257, 3) := by decide +kernel
theorem dX9_home_63 : decode cX9_home 63 = .ok (.iaload, 1) := by decide +kernel
theorem dX9_home_64 : decode cX9_home 64 = .ok (.istore 6, 2) := by decide +kernel
theorem dX9_home_66 : decode cX9_home 66 = .ok (.iload_n 2, 1) := by decide +kernel
theorem dX9_home_67 : decode cX9_home 67 = .ok (.iload 6, 2) := by decide +kernel
theorem dX9_home_69 : decode cX9_home 69 = .ok (.iconst 3, 1) := by decide +kernel
theorem dX9_home_70 : decode cX9_home 70 = .ok (.if_icmp .ne 7, 3) := by decide +kernel
theorem dX9_home_73 : decode cX9_home 73 = .ok (.iconst 1, 1) := by decide +kernel
theorem dX9_home_74 : decode cX9_home 74 = .ok (.goto 5, 3) := by decide +kernel
theorem dX9_home_77 : decode cX9_home 77 = .ok (.iload 6, 2) := by decide +kernel
theorem dX9_home_79 : decode cX9_home 79 = .ok (.invokestatic 155, 3) := by decide +kernel
theorem dX9_home_82 : decode cX9_home 82 = .ok (.istore_n 2, 1) := by decide +kernel
theorem dX9_home_83 : decode cX9_home 83 = .ok (.iload_n 3, 1) := by decide +kernel
theorem dX9_home_84 : decode cX9_home 84 = .ok (.iload 4, 2) := by decide +kernel
theorem dX9_home_86 : decode cX9_home 86 = .ok (.iload 6, 2) := by decide +kernel
theorem dX9_home_88 : decode cX9_home 88 = .ok (.ifCond .ne 7, 3) := by decide +kernel
theorem dX9_home_91 : decode cX9_home 91 = .ok (.iconst 0, 1) := by decide +kernel
theorem dX9_home_92 : decode cX9_home 92 = .ok (.goto 14, 3) := by decide +kernel
theorem dX9_home_95 : decode cX9_home 95 = .ok (.iload 6, 2) := by decide +kernel
theorem dX9_home_97 : decode cX9_home 97 = .ok (.iconst 1, 1) := by decide +kernel
theorem dX9_home_98 : decode cX9_home 98 = .ok (.if_icmp .ne 7, 3) := by decide +kernel
theorem dX9_home_101 : decode cX9_home 101 = .ok (.iconst 2, 1) := by decide +kernel
theorem dX9_home_102 : decode cX9_home 102 = .ok (.goto 4, 3) := by decide +kernel
theorem dX9_home_105 : decode cX9_home 105 = .ok (.iconst 1, 1) := by decide +kernel
theorem dX9_home_106 : decode cX9_home 106 = .ok (.imul, 1) := by decide +kernel
theorem dX9_home_107 : decode cX9_home 107 = .ok (.iadd, 1) := by decide +kernel
theorem dX9_home_108 : decode cX9_home 108 = .ok (.istore_n 3, 1) := by decide +kernel
theorem dX9_home_109 : decode cX9_home 109 = .ok (.iload 4, 2) := by decide +kernel
theorem dX9_home_111 : decode cX9_home 111 = .ok (.iconst 3, 1) := by decide +kernel
theorem dX9_home_112 : decode cX9_home 112 = .ok (.imul, 1) := by decide +kernel
theorem dX9_home_113 : decode cX9_home 113 = .ok (.istore 4, 2) := by decide +kernel
theorem dX9_home_115 : decode cX9_home 115 = .ok (.iinc 5 1, 3) := by decide +kernel
theorem dX9_home_118 : decode cX9_home 118 = .ok (.goto (-85), 3) := by decide +kernel
theorem dX9_home_121 : decode cX9_home 121 = .ok (.iload_n 1, 1) := by decide +kernel
theorem dX9_home_122 : decode cX9_home 122 = .ok (.ifCond .ne 7, 3) := by decide +kernel
theorem dX9_home_125 : decode cX9_home 125 = .ok (.iload_n 2, 1) := by decide +kernel
theorem dX9_home_126 : decode cX9_home 126 = .ok (.goto 4, 3) := by decide +kernel
theorem dX9_home_129 : decode cX9_home 129 = .ok (.iload_n 3, 1) := by decide +kernel
theorem dX9_home_130 : decode cX9_home 130 = .ok (.ireturn, 1) := by decide +kernel
set_option maxRecDepth 20000 in
theorem ggX9_allShow_X9_colourOf : GoodIn wsX9_allShow wsX9_colourOf := goodIn_r _ [7, 8, 12, 13, 14, 15, 16, 17, 18, 19, 20, 21, 22, 23, 24, 25, 26, 27, 28, 29, 30, 31, 32, 33, 34, 35, 36, 37, 38] (by decide +kernel) (by decide +kernel)
set_option maxRecDepth 20000 in
theorem gX9_allShow_X9_colourOf : GoodIn wsX9_allShow (wsV RX9 184 RX9 yX9_colourOf wsX9_colourOf) := goodIn_app (goodIn_of _ (by decide +kernel)) ggX9_allShow_X9_colourOf
set_option maxRecDepth 20000 in
theorem ggX9_allShow_X9_has : GoodIn wsX9_allShow wsX9_has := goodIn_r _ [11] (by decide +kernel) (by decide +kernel)
set_option maxRecDepth 20000 in
theorem gX9_allShow_X9_has : GoodIn wsX9_allShow (va_wsS RX9 140 yX9_has wsX9_has) := goodIn_app (goodIn_of _ (by decide +kernel)) ggX9_allShow_X9_has
theorem dX9_allShow_0 : decode cX9_allShow 0 = .ok (.iconst 1, 1) := by decide +kernel
theorem dX9_allShow_1 : decode cX9_allShow 1 = .ok (.istore 4, 2) := by decide +kernel
theorem dX9_allShow_3 : decode cX9_allShow 3 = .ok (.iconst 0, 1) := by decide +kernel
theorem dX9_allShow_4 : decode cX9_allShow 4 = .ok (.istore 5, 2) := by decide +kernel
theorem dX9_allShow_6 : decode cX9_allShow 6 = .ok (.iload 5, 2) := by decide +kernel
theorem dX9_allShow_8 : decode cX9_allShow 8 = .ok (.aload_n 0, 1) := by decide +kernel
theorem dX9_allShow_9 : decode cX9_allShow 9 = .ok (.getfield 122, 3) := by decide +kernel
theorem dX9_allShow_12 : decode cX9_allShow 12 = .ok (.if_icmp .ge 71, 3) := by decide +kernel
theorem dX9_allShow_15 : decode cX9_allShow 15 = .ok (.iload_n 3, 1) := by decide +kernel
theorem dX9_allShow_16 : decode cX9_allShow 16 = .ok (.iconst 4, 1) := by decide +kernel
theorem dX9_allShow_17 : decode cX9_allShow 17 = .ok (.if_icmp .ne 16, 3) := by decide +kernel
theorem dX9_allShow_20 : decode cX9_allShow 20 = .ok (.aload_n 0, 1) := by decide +kernel
theorem dX9_allShow_21 : decode cX9_allShow 21 = .ok (.getfield 7, 3) := by decide +kernel
theorem dX9_allShow_24 : decode cX9_allShow 24 = .ok (.bipush 16, 2) := by decide +kernel
theorem dX9_allShow_26 : decode cX9_allShow 26 = .ok (.iload 5, 2) := by decide +kernel
theorem dX9_allShow_28 : decode cX9_allShow 28 = .ok (.iadd, 1) := by decide +kernel
theorem dX9_allShow_29 : decode cX9_allShow 29 = .ok (.iaload, 1) := by decide +kernel
theorem dX9_allShow_30 : decode cX9_allShow 30 = .ok (.goto 18, 3) := by decide +kernel
theorem dX9_allShow_33 : decode cX9_allShow 33 = .ok (.aload_n 0, 1) := by decide +kernel
theorem dX9_allShow_34 : decode cX9_allShow 34 = .ok (.iload 5, 2) := by decide +kernel
theorem dX9_allShow_36 : decode cX9_allShow 36 = .ok (.aload_n 0, 1) := by decide +kernel
theorem dX9_allShow_37 : decode cX9_allShow 37 = .ok (.getfield 7, 3) := by decide +kernel
theorem dX9_allShow_40 : decode cX9_allShow 40 = .ok (.iload 5, 2) := by decide +kernel
theorem dX9_allShow_42 : decode cX9_allShow 42 = .ok (.iaload, 1) := by decide +kernel
theorem dX9_allShow_43 : decode cX9_allShow 43 = .ok (.iload_n 3, 1) := by decide +kernel
theorem dX9_allShow_44 : decode cX9_allShow 44 = .ok (.iadd, 1) := by decide +kernel
theorem dX9_allShow_45 : decode cX9_allShow 45 = .ok (.invokevirtual 184, 3) := by decide +kernel
theorem dX9_allShow_48 : decode cX9_allShow 48 = .ok (.istore 6, 2) := by decide +kernel
theorem dX9_allShow_50 : decode cX9_allShow 50 = .ok (.iload 4, 2) := by decide +kernel
theorem dX9_allShow_52 : decode cX9_allShow 52 = .ok (.ifCond .eq 22, 3) := by decide +kernel
theorem dX9_allShow_55 : decode cX9_allShow 55 = .ok (.iload_n 1, 1) := by decide +kernel
theorem dX9_allShow_56 : decode cX9_allShow 56 = .ok (.iload 5, 2) := by decide +kernel
theorem dX9_allShow_58 : decode cX9_allShow 58 = .ok (.invokestatic 140, 3) := by decide +kernel
theorem dX9_allShow_61 : decode cX9_allShow 61 = .ok (.ifCond .eq 9, 3) := by decide +kernel
theorem dX9_allShow_64 : decode cX9_allShow 64 = .ok (.iload 6, 2) := by decide +kernel
theorem dX9_allShow_66 : decode cX9_allShow 66 = .ok (.iload_n 2, 1) := by decide +kernel
theorem dX9_allShow_67 : decode cX9_allShow 67 = .ok (.if_icmp .ne 7, 3) := by decide +kernel
theorem dX9_allShow_70 : decode cX9_allShow 70 = .ok (.iconst 1, 1) := by decide +kernel
theorem dX9_allShow_71 : decode cX9_allShow 71 = .ok (.goto 4, 3) := by decide +kernel
theorem dX9_allShow_74 : decode cX9_allShow 74 = .ok (.iconst 0, 1) := by decide +kernel
theorem dX9_allShow_75 : decode cX9_allShow 75 = .ok (.istore 4, 2) := by decide +kernel
theorem dX9_allShow_77 : decode cX9_allShow 77 = .ok (.iinc 5 1, 3) := by decide +kernel
theorem dX9_allShow_80 : decode cX9_allShow 80 = .ok (.goto (-74), 3) := by decide +kernel
theorem dX9_allShow_83 : decode cX9_allShow 83 = .ok (.iload 4, 2) := by decide +kernel
theorem dX9_allShow_85 : decode cX9_allShow 85 = .ok (.ireturn, 1) := by decide +kernel
set_option maxRecDepth 20000 in
theorem ggX9_layFar_X9_allShow : GoodIn wsX9_layFar wsX9_allShow := goodIn_r _ [6, 7, 8, 9, 10, 11, 5, 12, 13, 14, 15, 16, 20, 21, 22, 23, 24, 25, 26, 27, 28, 29, 30, 31, 32, 33, 34, 35, 36, 37, 38, 39, 40, 41, 42, 43, 44, 45, 46] (by decide +kernel) (by decide +kernel)
set_option maxRecDepth 20000 in
theorem gX9_layFar_X9_allShow : GoodIn wsX9_layFar (wsV RX9 263 RX9 yX9_allShow wsX9_allShow) := goodIn_app (goodIn_of _ (by decide +kernel)) ggX9_layFar_X9_allShow
set_option maxRecDepth 20000 in
theorem ggX9_layFar_X9_least : GoodIn wsX9_layFar wsX9_least := goodIn_r _ [19] (by decide +kernel) (by decide +kernel)
set_option maxRecDepth 20000 in
theorem gX9_layFar_X9_least : GoodIn wsX9_layFar (va_wsS RX9 239 yX9_least wsX9_least) := goodIn_app (goodIn_of _ (by decide +kernel)) ggX9_layFar_X9_least
theorem dX9_layFar_0 : decode cX9_layFar 0 = .ok (.iconst 0, 1) := by decide +kernel
theorem dX9_layFar_1 : decode cX9_layFar 1 = .ok (.istore_n 3, 1) := by decide +kernel
theorem dX9_layFar_2 : decode cX9_layFar 2 = .ok (.iload_n 3, 1) := by decide +kernel
theorem dX9_layFar_3 : decode cX9_layFar 3 = .ok (.bipush 20, 2) := by decide +kernel
theorem dX9_layFar_5 : decode cX9_layFar 5 = .ok (.if_icmp .ge 33, 3) := by decide +kernel
theorem dX9_layFar_8 : decode cX9_layFar 8 = .ok (.aload_n 0, 1) := by decide +kernel
theorem dX9_layFar_9 : decode cX9_layFar 9 = .ok (.getfield 36, 3) := by decide +kernel
theorem dX9_layFar_12 : decode cX9_layFar 12 = .ok (.iload_n 3, 1) := by decide +kernel
theorem dX9_layFar_13 : decode cX9_layFar 13 = .ok (.aload_n 0, 1) := by decide +kernel
theorem dX9_layFar_14 : decode cX9_layFar 14 = .ok (.iload_n 1, 1) := by decide +kernel
theorem dX9_layFar_15 : decode cX9_layFar 15 = .ok (.iload_n 2, 1) := by decide +kernel
theorem dX9_layFar_16 : decode cX9_layFar 16 = .ok (.iload_n 3, 1) := by decide +kernel
theorem dX9_layFar_17 : decode cX9_layFar 17 = .ok (.iconst 5, 1) := by decide +kernel
theorem dX9_layFar_18 : decode cX9_layFar 18 = .ok (.irem, 1) := by decide +kernel
theorem dX9_layFar_19 : decode cX9_layFar 19 = .ok (.invokevirtual 263, 3) := by decide +kernel
theorem dX9_layFar_22 : decode cX9_layFar 22 = .ok (.ifCond .eq 7, 3) := by decide +kernel
theorem dX9_layFar_25 : decode cX9_layFar 25 = .ok (.iconst 0, 1) := by decide +kernel
theorem dX9_layFar_26 : decode cX9_layFar 26 = .ok (.goto 5, 3) := by decide +kernel
theorem dX9_layFar_29 : decode cX9_layFar 29 = .ok (.bipush 99, 2) := by decide +kernel
theorem dX9_layFar_31 : decode cX9_layFar 31 = .ok (.iastore, 1) := by decide +kernel
theorem dX9_layFar_32 : decode cX9_layFar 32 = .ok (.iinc 3 1, 3) := by decide +kernel
theorem dX9_layFar_35 : decode cX9_layFar 35 = .ok (.goto (-33), 3) := by decide +kernel
theorem dX9_layFar_38 : decode cX9_layFar 38 = .ok (.iconst 0, 1) := by decide +kernel
theorem dX9_layFar_39 : decode cX9_layFar 39 = .ok (.istore_n 3, 1) := by decide +kernel
theorem dX9_layFar_40 : decode cX9_layFar 40 = .ok (.iload_n 3, 1) := by decide +kernel
theorem dX9_layFar_41 : decode cX9_layFar 41 = .ok (.bipush 8, 2) := by decide +kernel
theorem dX9_layFar_43 : decode cX9_layFar 43 = .ok (.if_icmp .ge 97, 3) := by decide +kernel
theorem dX9_layFar_46 : decode cX9_layFar 46 = .ok (.iconst 0, 1) := by decide +kernel
theorem dX9_layFar_47 : decode cX9_layFar 47 = .ok (.istore 4, 2) := by decide +kernel
theorem dX9_layFar_49 : decode cX9_layFar 49 = .ok (.iload 4, 2) := by decide +kernel
theorem dX9_layFar_51 : decode cX9_layFar 51 = .ok (.bipush 20, 2) := by decide +kernel
theorem dX9_layFar_53 : decode cX9_layFar 53 = .ok (.if_icmp .ge 81, 3) := by decide +kernel
theorem dX9_layFar_56 : decode cX9_layFar 56 = .ok (.iload 4, 2) := by decide +kernel
theorem dX9_layFar_58 : decode cX9_layFar 58 = .ok (.iconst 5, 1) := by decide +kernel
theorem dX9_layFar_59 : decode cX9_layFar 59 = .ok (.idiv, 1) := by decide +kernel
theorem dX9_layFar_60 : decode cX9_layFar 60 = .ok (.istore 5, 2) := by decide +kernel
theorem dX9_layFar_62 : decode cX9_layFar 62 = .ok (.iconst 5, 1) := by decide +kernel
theorem dX9_layFar_63 : decode cX9_layFar 63 = .ok (.iload 5, 2) := by decide +kernel
theorem dX9_layFar_65 : decode cX9_layFar 65 = .ok (.iconst 1, 1) := by decide +kernel
theorem dX9_layFar_66 : decode cX9_layFar 66 = .ok (.iadd, 1) := by decide +kernel
theorem dX9_layFar_67 : decode cX9_layFar 67 = .ok (.iconst 4, 1) := by decide +kernel
theorem dX9_layFar_68 : decode cX9_layFar 68 = .ok (.irem, 1) := by decide +kernel
theorem dX9_layFar_69 : decode cX9_layFar 69 = .ok (.imul, 1) := by decide +kernel
theorem dX9_layFar_70 : decode cX9_layFar 70 = .ok (.iload 5, 2) := by decide +kernel
theorem dX9_layFar_72 : decode cX9_layFar 72 = .ok (.iadd, 1) := by decide +kernel
theorem dX9_layFar_73 : decode cX9_layFar 73 = .ok (.istore 6, 2) := by decide +kernel
theorem dX9_layFar_75 : decode cX9_layFar 75 = .ok (.iconst 5, 1) := by decide +kernel
theorem dX9_layFar_76 : decode cX9_layFar 76 = .ok (.iload 5, 2) := by decide +kernel
theorem dX9_layFar_78 : decode cX9_layFar 78 = .ok (.iconst 3, 1) := by decide +kernel
theorem dX9_layFar_79 : decode cX9_layFar 79 = .ok (.iadd, 1) := by decide +kernel
theorem dX9_layFar_80 : decode cX9_layFar 80 = .ok (.iconst 4, 1) := by decide +kernel
theorem dX9_layFar_81 : decode cX9_layFar 81 = .ok (.irem, 1) := by decide +kernel
theorem dX9_layFar_82 : decode cX9_layFar 82 = .ok (.imul, 1) := by decide +kernel
theorem dX9_layFar_83 : decode cX9_layFar 83 = .ok (.iload 5, 2) := by decide +kernel
theorem dX9_layFar_85 : decode cX9_layFar 85 = .ok (.iconst 3, 1) := by decide +kernel
theorem dX9_layFar_86 : decode cX9_layFar 86 = .ok (.iadd, 1) := by decide +kernel
theorem dX9_layFar_87 : decode cX9_layFar 87 = .ok (.iconst 4, 1) := by decide +kernel
theorem dX9_layFar_88 : decode cX9_layFar 88 = .ok (.irem, 1) := by decide +kernel
theorem dX9_layFar_89 : decode cX9_layFar 89 = .ok (.iadd, 1) := by decide +kernel
theorem dX9_layFar_90 : decode cX9_layFar 90 = .ok (.istore 7, 2) := by decide +kernel
theorem dX9_layFar_92 : decode cX9_layFar 92 = .ok (.aload_n 0, 1) := by decide +kernel
theorem dX9_layFar_93 : decode cX9_layFar 93 = .ok (.getfield 36, 3) := by decide +kernel
theorem dX9_layFar_96 : decode cX9_layFar 96 = .ok (.iload 4, 2) := by decide +kernel
theorem dX9_layFar_98 : decode cX9_layFar 98 = .ok (.aload_n 0, 1) := by decide +kernel
theorem dX9_layFar_99 : decode cX9_layFar 99 = .ok (.getfield 36, 3) := by decide +kernel
theorem dX9_layFar_102 : decode cX9_layFar 102 = .ok (.iload 4, 2) := by decide +kernel
theorem dX9_layFar_104 : decode cX9_layFar 104 = .ok (.iaload, 1) := by decide +kernel
theorem dX9_layFar_105 : decode cX9_layFar 105 = .ok (.iconst 1, 1) := by decide +kernel
theorem dX9_layFar_106 : decode cX9_layFar 106 = .ok (.aload_n 0, 1) := by decide +kernel
theorem dX9_layFar_107 : decode cX9_layFar 107 = .ok (.getfield 36, 3) := by decide +kernel
theorem dX9_layFar_110 : decode cX9_layFar 110 = .ok (.iload 6, 2) := by decide +kernel
theorem dX9_layFar_112 : decode cX9_layFar 112 = .ok (.iaload, 1) := by decide +kernel
theorem dX9_layFar_113 : decode cX9_layFar 113 = .ok (.aload_n 0, 1) := by decide +kernel
theorem dX9_layFar_114 : decode cX9_layFar 114 = .ok (.getfield 36, 3) := by decide +kernel
theorem dX9_layFar_117 : decode cX9_layFar 117 = .ok (.iload 7, 2) := by decide +kernel
theorem dX9_layFar_119 : decode cX9_layFar 119 = .ok (.iaload, 1) := by decide +kernel
theorem dX9_layFar_120 : decode cX9_layFar 120 = .ok (.invokestatic 239, 3) := by decide +kernel
theorem dX9_layFar_123 : decode cX9_layFar 123 = .ok (.iadd, 1) := by decide +kernel
theorem dX9_layFar_124 : decode cX9_layFar 124 = .ok (.invokestatic 239, 3) := by decide +kernel
theorem dX9_layFar_127 : decode cX9_layFar 127 = .ok (.iastore, 1) := by decide +kernel
theorem dX9_layFar_128 : decode cX9_layFar 128 = .ok (.iinc 4 1, 3) := by decide +kernel
theorem dX9_layFar_131 : decode cX9_layFar 131 = .ok (.goto (-82), 3) := by decide +kernel
theorem dX9_layFar_134 : decode cX9_layFar 134 = .ok (.iinc 3 1, 3) := by decide +kernel
theorem dX9_layFar_137 : decode cX9_layFar 137 = .ok (.goto (-97), 3) := by decide +kernel
theorem dX9_layFar_140 : decode cX9_layFar 140 = .ok (.return_, 1) := by decide +kernel
theorem dX9_farBehind_0 : decode cX9_farBehind 0 = .ok (.iload_n 1, 1) := by decide +kernel
theorem dX9_farBehind_1 : decode cX9_farBehind 1 = .ok (.ifCond .ne 12, 3) := by decide +kernel
theorem dX9_farBehind_4 : decode cX9_farBehind 4 = .ok (.aload_n 0, 1) := by decide +kernel
theorem dX9_farBehind_5 : decode cX9_farBehind 5 = .ok (.getfield 36, 3) := by decide +kernel
theorem dX9_farBehind_8 : decode cX9_farBehind 8 = .ok (.iconst 4, 1) := by decide +kernel
theorem dX9_farBehind_9 : decode cX9_farBehind 9 = .ok (.iaload, 1) := by decide +kernel
theorem dX9_farBehind_10 : decode cX9_farBehind 10 = .ok (.goto 24, 3) := by decide +kernel
theorem dX9_farBehind_13 : decode cX9_farBehind 13 = .ok (.iload_n 1, 1) := by decide +kernel
theorem dX9_farBehind_14 : decode cX9_farBehind 14 = .ok (.iconst 1, 1) := by decide +kernel
theorem dX9_farBehind_15 : decode cX9_farBehind 15 = .ok (.if_icmp .ne 12, 3) := by decide +kernel
theorem dX9_farBehind_18 : decode cX9_farBehind 18 = .ok (.aload_n 0, 1) := by decide +kernel
theorem dX9_farBehind_19 : decode cX9_farBehind 19 = .ok (.getfield 36, 3) := by decide +kernel
theorem dX9_farBehind_22 : decode cX9_farBehind 22 = .ok (.iconst 5, 1) := by decide +kernel
theorem dX9_farBehind_23 : decode cX9_farBehind 23 = .ok (.iaload, 1) := by decide +kernel
theorem dX9_farBehind_24 : decode cX9_farBehind 24 = .ok (.goto 10, 3) := by decide +kernel
theorem dX9_farBehind_27 : decode cX9_farBehind 27 = .ok (.aload_n 0, 1) := by decide +kernel
theorem dX9_farBehind_28 : decode cX9_farBehind 28 = .ok (.getfield 36, 3) := by decide +kernel
theorem dX9_farBehind_31 : decode cX9_farBehind 31 = .ok (.bipush 18, 2) := by decide +kernel
theorem dX9_farBehind_33 : decode cX9_farBehind 33 = .ok (.iaload, 1) := by decide +kernel
theorem dX9_farBehind_34 : decode cX9_farBehind 34 = .ok (.ireturn, 1) := by decide +kernel
theorem dX9_packsOf_0 : decode cX9_packsOf 0 = .ok (.iconst 0, 1) := by decide +kernel
theorem dX9_packsOf_1 : decode cX9_packsOf 1 = .ok (.istore_n 2, 1) := by decide +kernel
theorem dX9_packsOf_2 : decode cX9_packsOf 2 = .ok (.iconst 0, 1) := by decide +kernel
theorem dX9_packsOf_3 : decode cX9_packsOf 3 = .ok (.istore_n 3, 1) := by decide +kernel
theorem dX9_packsOf_4 : decode cX9_packsOf 4 = .ok (.iload_n 3, 1) := by decide +kernel
theorem dX9_packsOf_5 : decode cX9_packsOf 5 = .ok (.aload_n 0, 1) := by decide +kernel
theorem dX9_packsOf_6 : decode cX9_packsOf 6 = .ok (.getfield 128, 3) := by decide +kernel
theorem dX9_packsOf_9 : decode cX9_packsOf 9 = .ok (.if_icmp .ge 20, 3) := by decide +kernel
theorem dX9_packsOf_12 : decode cX9_packsOf 12 = .ok (.iload_n 2, 1) := by decide +kernel
theorem dX9_packsOf_13 : decode cX9_packsOf 13 = .ok (.iload_n 1, 1) := by decide +kernel
theorem dX9_packsOf_14 : decode cX9_packsOf 14 = .ok (.aload_n 0, 1) := by decide +kernel
theorem dX9_packsOf_15 : decode cX9_packsOf 15 = .ok (.getfield 23, 3) := by decide +kernel
theorem dX9_packsOf_18 : decode cX9_packsOf 18 = .ok (.iload_n 3, 1) := by decide +kernel
theorem dX9_packsOf_19 : decode cX9_packsOf 19 = .ok (.iaload, 1) := by decide +kernel
theorem dX9_packsOf_20 : decode cX9_packsOf 20 = .ok (.iand, 1) := by decide +kernel
theorem dX9_packsOf_21 : decode cX9_packsOf 21 = .ok (.ior, 1) := by decide +kernel
theorem dX9_packsOf_22 : decode cX9_packsOf 22 = .ok (.istore_n 2, 1) := by decide +kernel
theorem dX9_packsOf_23 : decode cX9_packsOf 23 = .ok (.iinc 3 1, 3) := by decide +kernel
theorem dX9_packsOf_26 : decode cX9_packsOf 26 = .ok (.goto (-22), 3) := by decide +kernel
theorem dX9_packsOf_29 : decode cX9_packsOf 29 = .ok (.iload_n 2, 1) := by decide +kernel
theorem dX9_packsOf_30 : decode cX9_packsOf 30 = .ok (.ireturn, 1) := by decide +kernel
set_option maxRecDepth 20000 in
theorem ggX9_together_X9_in : GoodIn wsX9_together wsX9_in := goodIn_r _ [11] (by decide +kernel) (by decide +kernel)
set_option maxRecDepth 20000 in
theorem gX9_together_X9_in : GoodIn wsX9_together (va_wsS RX9 56 yX9_in wsX9_in) := goodIn_app (goodIn_of _ (by decide +kernel)) ggX9_together_X9_in
set_option maxRecDepth 20000 in
theorem ggX9_together_X9_isColour : GoodIn wsX9_together wsX9_isColour := goodIn_r _ [15, 16, 8, 9, 10, 11, 52, 53, 54, 55, 56, 57, 58, 59, 60, 61, 62, 63, 64, 65, 66, 67, 68, 69, 70, 71, 72, 73, 74, 75, 76, 77, 78] (by decide +kernel) (by decide +kernel)
set_option maxRecDepth 20000 in
theorem gX9_together_X9_isColour : GoodIn wsX9_together (wsV RX9 190 RX9 yX9_isColour wsX9_isColour) := goodIn_app (goodIn_of _ (by decide +kernel)) ggX9_together_X9_isColour
set_option maxRecDepth 20000 in
theorem ggX9_together_X9_isLoom : GoodIn wsX9_together wsX9_isLoom := goodIn_r _ [20, 16, 52, 53, 54, 55, 56, 57, 58, 59, 60, 61, 62, 63, 64, 65, 66, 67, 68, 69, 70, 71, 72, 73, 74, 75, 76, 77, 78] (by decide +kernel) (by decide +kernel)
set_option maxRecDepth 20000 in
theorem gX9_together_X9_isLoom : GoodIn wsX9_together (wsV RX9 224 RX9 yX9_isLoom wsX9_isLoom) := goodIn_app (goodIn_of _ (by decide +kernel)) ggX9_together_X9_isLoom
set_option maxRecDepth 20000 in
theorem ggX9_together_X9_packsOf : GoodIn wsX9_together wsX9_packsOf := goodIn_r _ [24, 5, 6, 52, 53, 54, 55, 56, 57, 58, 59, 60, 61, 62, 63, 64, 65, 66, 67, 68, 69, 70, 71, 72, 73, 74, 75, 76, 77, 78] (by decide +kernel) (by decide +kernel)
set_option maxRecDepth 20000 in
theorem gX9_together_X9_packsOf : GoodIn wsX9_together (wsV RX9 267 RX9 yX9_packsOf wsX9_packsOf) := goodIn_app (goodIn_of _ (by decide +kernel)) ggX9_together_X9_packsOf
set_option maxRecDepth 20000 in
theorem ggX9_together_X9_allShow : GoodIn wsX9_together wsX9_allShow := goodIn_r _ [28, 1, 29, 30, 31, 32, 10, 33, 34, 35, 36, 37, 52, 53, 54, 55, 56, 57, 58, 59, 60, 61, 62, 63, 64, 65, 66, 67, 68, 69, 70, 71, 72, 73, 74, 75, 76, 77, 78] (by decide +kernel) (by decide +kernel)
set_option maxRecDepth 20000 in
theorem gX9_together_X9_allShow : GoodIn wsX9_together (wsV RX9 263 RX9 yX9_allShow wsX9_allShow) := goodIn_app (goodIn_of _ (by decide +kernel)) ggX9_together_X9_allShow
set_option maxRecDepth 20000 in
theorem ggX9_together_X9_layFar : GoodIn wsX9_together wsX9_layFar := goodIn_r _ [41, 7, 25, 26, 27, 10, 28, 1, 29, 30, 31, 32, 33, 34, 35, 36, 37, 42, 43, 44, 52, 53, 54, 55, 56, 57, 58, 59, 60, 61, 62, 63, 64, 65, 66, 67, 68, 69, 70, 71, 72, 73, 74, 75, 76, 77, 78] (by decide +kernel) (by decide +kernel)
set_option maxRecDepth 20000 in
theorem gX9_together_X9_layFar : GoodIn wsX9_together (wsV RX9 270 RX9 yX9_layFar wsX9_layFar) := goodIn_app (goodIn_of _ (by decide +kernel)) ggX9_together_X9_layFar
set_option maxRecDepth 20000 in
theorem ggX9_together_X9_most : GoodIn wsX9_together wsX9_most := goodIn_r _ [47] (by decide +kernel) (by decide +kernel)
set_option maxRecDepth 20000 in
theorem gX9_together_X9_most : GoodIn wsX9_together (va_wsS RX9 155 yX9_most wsX9_most) := goodIn_app (goodIn_of _ (by decide +kernel)) ggX9_together_X9_most
set_option maxRecDepth 20000 in
theorem ggX9_together_X9_farBehind : GoodIn wsX9_together wsX9_farBehind := goodIn_r _ [51, 7, 52, 53, 54, 55, 56, 57, 58, 59, 60, 61, 62, 63, 64, 65, 66, 67, 68, 69, 70, 71, 72, 73, 74, 75, 76, 77, 78] (by decide +kernel) (by decide +kernel)
set_option maxRecDepth 20000 in
theorem gX9_together_X9_farBehind : GoodIn wsX9_together (wsV RX9 273 RX9 yX9_farBehind wsX9_farBehind) := goodIn_app (goodIn_of _ (by decide +kernel)) ggX9_together_X9_farBehind
theorem dX9_together_0 : decode cX9_together 0 = .ok (.iload_n 1, 1) := by decide +kernel
theorem dX9_together_1 : decode cX9_together 1 = .ok (.i2l, 1) := by decide +kernel
theorem dX9_together_2 : decode cX9_together 2 = .ok (.lconst 0, 1) := by decide +kernel
theorem dX9_together_3 : decode cX9_together 3 = .ok (.iconst 1, 1) := by decide +kernel
theorem dX9_together_4 : decode cX9_together 4 = .ok (.aload_n 0, 1) := by decide +kernel
theorem dX9_together_5 : decode cX9_together 5 = .ok (.getfield 122, 3) := by decide +kernel
theorem dX9_together_8 : decode cX9_together 8 = .ok (.ishl, 1) := by decide +kernel
theorem dX9_together_9 : decode cX9_together 9 = .ok (.iconst 1, 1) := by decide +kernel
theorem dX9_together_10 : decode cX9_together 10 = .ok (.isub, 1) := by decide +kernel
theorem dX9_together_11 : decode cX9_together 11 = .ok (.i2l, 1) := by decide +kernel
theorem dX9_together_12 : decode cX9_together 12 = .ok (.invokestatic 56, 3) := by decide +kernel
theorem dX9_together_15 : decode cX9_together 15 = .ok (.ifCond .eq 11, 3) := by decide +kernel
theorem dX9_together_18 : decode cX9_together 18 = .ok (.aload_n 0, 1) := by decide +kernel
theorem dX9_together_19 : decode cX9_together 19 = .ok (.iload_n 2, 1) := by decide +kernel
theorem dX9_together_20 : decode cX9_together 20 = .ok (.invokevirtual 190, 3) := by decide +kernel
theorem dX9_together_23 : decode cX9_together 23 = .ok (.ifCond .ne 6, 3) := by decide +kernel
theorem dX9_together_26 : decode cX9_together 26 = .ok (.ldc 183, 2) := by decide +kernel
theorem dX9_together_28 : decode cX9_together 28 = .ok (.ireturn, 1) := by decide +kernel
theorem dX9_together_29 : decode cX9_together 29 = .ok (.iload_n 3, 1) := by decide +kernel
theorem dX9_together_30 : decode cX9_together 30 = .ok (.i2l, 1) := by decide +kernel
theorem dX9_together_31 : decode cX9_together 31 = .ok (.lconst 0, 1) := by decide +kernel
theorem dX9_together_32 : decode cX9_together 32 = .ok (.lconst 1, 1) := by decide +kernel
theorem dX9_together_33 : decode cX9_together 33 = .ok (.invokestatic 56, 3) := by decide +kernel
theorem dX9_together_36 : decode cX9_together 36 = .ok (.ifCond .ne 6, 3) := by decide +kernel
theorem dX9_together_39 : decode cX9_together 39 = .ok (.ldc 60, 2) := by decide +kernel
theorem dX9_together_41 : decode cX9_together 41 = .ok (.ireturn, 1) := by decide +kernel
theorem dX9_together_42 : decode cX9_together 42 = .ok (.aload_n 0, 1) := by decide +kernel
theorem dX9_together_43 : decode cX9_together 43 = .ok (.invokevirtual 224, 3) := by decide +kernel
theorem dX9_together_46 : decode cX9_together 46 = .ok (.ifCond .ne 6, 3) := by decide +kernel
theorem dX9_together_49 : decode cX9_together 49 = .ok (.ldc 231, 2) := by decide +kernel
theorem dX9_together_51 : decode cX9_together 51 = .ok (.ireturn, 1) := by decide +kernel
theorem dX9_together_52 : decode cX9_together 52 = .ok (.aload_n 0, 1) := by decide +kernel
theorem dX9_together_53 : decode cX9_together 53 = .ok (.iload_n 1, 1) := by decide +kernel
theorem dX9_together_54 : decode cX9_together 54 = .ok (.aload_n 0, 1) := by decide +kernel
theorem dX9_together_55 : decode cX9_together 55 = .ok (.iload_n 1, 1) := by decide +kernel
theorem dX9_together_56 : decode cX9_together 56 = .ok (.invokevirtual 267, 3) := by decide +kernel
theorem dX9_together_59 : decode cX9_together 59 = .ok (.iconst (-1), 1) := by decide +kernel
theorem dX9_together_60 : decode cX9_together 60 = .ok (.ixor, 1) := by decide +kernel
theorem dX9_together_61 : decode cX9_together 61 = .ok (.iand, 1) := by decide +kernel
theorem dX9_together_62 : decode cX9_together 62 = .ok (.iload_n 2, 1) := by decide +kernel
theorem dX9_together_63 : decode cX9_together 63 = .ok (.iconst 4, 1) := by decide +kernel
theorem dX9_together_64 : decode cX9_together 64 = .ok (.invokevirtual 263, 3) := by decide +kernel
theorem dX9_together_67 : decode cX9_together 67 = .ok (.ifCond .ne 5, 3) := by decide +kernel
theorem dX9_together_70 : decode cX9_together 70 = .ok (.iconst (-1), 1) := by decide +kernel
theorem dX9_together_71 : decode cX9_together 71 = .ok (.ireturn, 1) := by decide +kernel
theorem dX9_together_72 : decode cX9_together 72 = .ok (.iconst 0, 1) := by decide +kernel
theorem dX9_together_73 : decode cX9_together 73 = .ok (.istore 4, 2) := by decide +kernel
theorem dX9_together_75 : decode cX9_together 75 = .ok (.iconst 0, 1) := by decide +kernel
theorem dX9_together_76 : decode cX9_together 76 = .ok (.istore 5, 2) := by decide +kernel
theorem dX9_together_78 : decode cX9_together 78 = .ok (.iload 5, 2) := by decide +kernel
theorem dX9_together_80 : decode cX9_together 80 = .ok (.aload_n 0, 1) := by decide +kernel
theorem dX9_together_81 : decode cX9_together 81 = .ok (.getfield 128, 3) := by decide +kernel
theorem dX9_together_84 : decode cX9_together 84 = .ok (.if_icmp .ge 36, 3) := by decide +kernel
theorem dX9_together_87 : decode cX9_together 87 = .ok (.aload_n 0, 1) := by decide +kernel
theorem dX9_together_88 : decode cX9_together 88 = .ok (.iload_n 1, 1) := by decide +kernel
theorem dX9_together_89 : decode cX9_together 89 = .ok (.aload_n 0, 1) := by decide +kernel
theorem dX9_together_90 : decode cX9_together 90 = .ok (.getfield 23, 3) := by decide +kernel
theorem dX9_together_93 : decode cX9_together 93 = .ok (.iload 5, 2) := by decide +kernel
theorem dX9_together_95 : decode cX9_together 95 = .ok (.iaload, 1) := by decide +kernel
theorem dX9_together_96 : decode cX9_together 96 = .ok (.iand, 1) := by decide +kernel
theorem dX9_together_97 : decode cX9_together 97 = .ok (.iload_n 2, 1) := by decide +kernel
theorem dX9_together_98 : decode cX9_together 98 = .ok (.invokevirtual 270, 3) := by decide +kernel
theorem dX9_together_101 : decode cX9_together 101 = .ok (.iload 4, 2) := by decide +kernel
theorem dX9_together_103 : decode cX9_together 103 = .ok (.aload_n 0, 1) := by decide +kernel
theorem dX9_together_104 : decode cX9_together 104 = .ok (.getfield 36, 3) := by decide +kernel
theorem dX9_together_107 : decode cX9_together 107 = .ok (.iconst 4, 1) := by decide +kernel
theorem dX9_together_108 : decode cX9_together 108 = .ok (.iaload, 1) := by decide +kernel
theorem dX9_together_109 : decode cX9_together 109 = .ok (.invokestatic 155, 3) := by decide +kernel
theorem dX9_together_112 : decode cX9_together 112 = .ok (.istore 4, 2) := by decide +kernel
theorem dX9_together_114 : decode cX9_together 114 = .ok (.iinc 5 1, 3) := by decide +kernel
theorem dX9_together_117 : decode cX9_together 117 = .ok (.goto (-39), 3) := by decide +kernel
theorem dX9_together_120 : decode cX9_together 120 = .ok (.iload 4, 2) := by decide +kernel
theorem dX9_together_122 : decode cX9_together 122 = .ok (.bipush 99, 2) := by decide +kernel
theorem dX9_together_124 : decode cX9_together 124 = .ok (.if_icmp .ge 12, 3) := by decide +kernel
theorem dX9_together_127 : decode cX9_together 127 = .ok (.iload 4, 2) := by decide +kernel
theorem dX9_together_129 : decode cX9_together 129 = .ok (.ifCond .eq 7, 3) := by decide +kernel
theorem dX9_together_132 : decode cX9_together 132 = .ok (.iload_n 3, 1) := by decide +kernel
theorem dX9_together_133 : decode cX9_together 133 = .ok (.ifCond .ne 17, 3) := by decide +kernel
theorem dX9_together_136 : decode cX9_together 136 = .ok (.iload 4, 2) := by decide +kernel
theorem dX9_together_138 : decode cX9_together 138 = .ok (.bipush 99, 2) := by decide +kernel
theorem dX9_together_140 : decode cX9_together 140 = .ok (.if_icmp .lt 7, 3) := by decide +kernel
theorem dX9_together_143 : decode cX9_together 143 = .ok (.iconst (-1), 1) := by decide +kernel
theorem dX9_together_144 : decode cX9_together 144 = .ok (.goto 5, 3) := by decide +kernel
theorem dX9_together_147 : decode cX9_together 147 = .ok (.iload 4, 2) := by decide +kernel
theorem dX9_together_149 : decode cX9_together 149 = .ok (.ireturn, 1) := by decide +kernel
theorem dX9_together_150 : decode cX9_together 150 = .ok (.iconst 0, 1) := by decide +kernel
theorem dX9_together_151 : decode cX9_together 151 = .ok (.istore 5, 2) := by decide +kernel
theorem dX9_together_153 : decode cX9_together 153 = .ok (.iconst 1, 1) := by decide +kernel
theorem dX9_together_154 : decode cX9_together 154 = .ok (.istore 6, 2) := by decide +kernel
theorem dX9_together_156 : decode cX9_together 156 = .ok (.iconst 0, 1) := by decide +kernel
theorem dX9_together_157 : decode cX9_together 157 = .ok (.istore 7, 2) := by decide +kernel
theorem dX9_together_159 : decode cX9_together 159 = .ok (.iload 7, 2) := by decide +kernel
theorem dX9_together_161 : decode cX9_together 161 = .ok (.aload_n 0, 1) := by decide +kernel
theorem dX9_together_162 : decode cX9_together 162 = .ok (.getfield 128, 3) := by decide +kernel
theorem dX9_together_165 : decode cX9_together 165 = .ok (.if_icmp .ge 61, 3) := by decide +kernel
theorem dX9_together_168 : decode cX9_together 168 = .ok (.aload_n 0, 1) := by decide +kernel
theorem dX9_together_169 : decode cX9_together 169 = .ok (.iload_n 1, 1) := by decide +kernel
theorem dX9_together_170 : decode cX9_together 170 = .ok (.aload_n 0, 1) := by decide +kernel
theorem dX9_together_171 : decode cX9_together 171 = .ok (.getfield 23, 3) := by decide +kernel
theorem dX9_together_174 : decode cX9_together 174 = .ok (.iload 7, 2) := by decide +kernel
theorem dX9_together_176 : decode cX9_together 176 = .ok (.iaload, 1) := by decide +kernel
theorem dX9_together_177 : decode cX9_together 177 = .ok (.iand, 1) := by decide +kernel
theorem dX9_together_178 : decode cX9_together 178 = .ok (.iload_n 2, 1) := by decide +kernel
theorem dX9_together_179 : decode cX9_together 179 = .ok (.invokevirtual 270, 3) := by decide +kernel
theorem dX9_together_182 : decode cX9_together 182 = .ok (.iconst 0, 1) := by decide +kernel
theorem dX9_together_183 : decode cX9_together 183 = .ok (.istore 8, 2) := by decide +kernel
theorem dX9_together_185 : decode cX9_together 185 = .ok (.aload_n 0, 1) := by decide +kernel
theorem dX9_together_186 : decode cX9_together 186 = .ok (.iload 8, 2) := by decide +kernel
theorem dX9_together_188 : decode cX9_together 188 = .ok (.invokevirtual 273, 3) := by decide +kernel
theorem dX9_together_191 : decode cX9_together 191 = .ok (.iload 4, 2) := by decide +kernel
theorem dX9_together_193 : decode cX9_together 193 = .ok (.iconst 1, 1) := by decide +kernel
theorem dX9_together_194 : decode cX9_together 194 = .ok (.isub, 1) := by decide +kernel
theorem dX9_together_195 : decode cX9_together 195 = .ok (.if_icmp .le 9, 3) := by decide +kernel
theorem dX9_together_198 : decode cX9_together 198 = .ok (.iinc 8 1, 3) := by decide +kernel
theorem dX9_together_201 : decode cX9_together 201 = .ok (.goto (-16), 3) := by decide +kernel
theorem dX9_together_204 : decode cX9_together 204 = .ok (.iload 5, 2) := by decide +kernel
theorem dX9_together_206 : decode cX9_together 206 = .ok (.iload 6, 2) := by decide +kernel
theorem dX9_together_208 : decode cX9_together 208 = .ok (.iload 8, 2) := by decide +kernel
theorem dX9_together_210 : decode cX9_together 210 = .ok (.imul, 1) := by decide +kernel
theorem dX9_together_211 : decode cX9_together 211 = .ok (.iadd, 1) := by decide +kernel
theorem dX9_together_212 : decode cX9_together 212 = .ok (.istore 5, 2) := by decide +kernel
theorem dX9_together_214 : decode cX9_together 214 = .ok (.iload 6, 2) := by decide +kernel
theorem dX9_together_216 : decode cX9_together 216 = .ok (.iconst 3, 1) := by decide +kernel
theorem dX9_together_217 : decode cX9_together 217 = .ok (.imul, 1) := by decide +kernel
theorem dX9_together_218 : decode cX9_together 218 = .ok (.istore 6, 2) := by decide +kernel
theorem dX9_together_220 : decode cX9_together 220 = .ok (.iinc 7 1, 3) := by decide +kernel
theorem dX9_together_223 : decode cX9_together 223 = .ok (.goto (-64), 3) := by decide +kernel
theorem dX9_together_226 : decode cX9_together 226 = .ok (.iload 5, 2) := by decide +kernel
theorem dX9_together_228 : decode cX9_together 228 = .ok (.ireturn, 1) := by decide +kernel
set_option maxRecDepth 20000 in
theorem ggX9_repeat_X9_isLoom : GoodIn wsX9_repeat wsX9_isLoom := goodIn_r _ [7, 8, 14, 15, 16, 17, 18, 19, 20, 21, 22, 23, 24, 25, 26, 27, 28, 29, 30, 31, 32, 33, 34, 35, 36, 37, 38, 39, 40] (by decide +kernel) (by decide +kernel)
set_option maxRecDepth 20000 in
theorem gX9_repeat_X9_isLoom : GoodIn wsX9_repeat (wsV RX9 224 RX9 yX9_isLoom wsX9_isLoom) := goodIn_app (goodIn_of _ (by decide +kernel)) ggX9_repeat_X9_isLoom
set_option maxRecDepth 20000 in
theorem ggX9_repeat_X9_colourOf : GoodIn wsX9_repeat wsX9_colourOf := goodIn_r _ [12, 13, 14, 15, 16, 17, 18, 19, 20, 21, 22, 23, 24, 25, 26, 27, 28, 29, 30, 31, 32, 33, 34, 35, 36, 37, 38, 39, 40] (by decide +kernel) (by decide +kernel)
set_option maxRecDepth 20000 in
theorem gX9_repeat_X9_colourOf : GoodIn wsX9_repeat (wsV RX9 184 RX9 yX9_colourOf wsX9_colourOf) := goodIn_app (goodIn_of _ (by decide +kernel)) ggX9_repeat_X9_colourOf
theorem dX9_repeat_0 : decode cX9_repeat 0 = .ok (.aload_n 0, 1) := by decide +kernel
theorem dX9_repeat_1 : decode cX9_repeat 1 = .ok (.invokevirtual 224, 3) := by decide +kernel
theorem dX9_repeat_4 : decode cX9_repeat 4 = .ok (.ifCond .ne 6, 3) := by decide +kernel
theorem dX9_repeat_7 : decode cX9_repeat 7 = .ok (.ldc 231, 2) := by decide +kernel
theorem dX9_repeat_9 : decode cX9_repeat 9 = .ok (.ireturn, 1) := by decide +kernel
theorem dX9_repeat_10 : decode cX9_repeat 10 = .ok (.iconst 1, 1) := by decide +kernel
theorem dX9_repeat_11 : decode cX9_repeat 11 = .ok (.istore_n 1, 1) := by decide +kernel
theorem dX9_repeat_12 : decode cX9_repeat 12 = .ok (.iconst 1, 1) := by decide +kernel
theorem dX9_repeat_13 : decode cX9_repeat 13 = .ok (.istore_n 2, 1) := by decide +kernel
theorem dX9_repeat_14 : decode cX9_repeat 14 = .ok (.iconst 0, 1) := by decide +kernel
theorem dX9_repeat_15 : decode cX9_repeat 15 = .ok (.istore_n 3, 1) := by decide +kernel
theorem dX9_repeat_16 : decode cX9_repeat 16 = .ok (.iload_n 3, 1) := by decide +kernel
theorem dX9_repeat_17 : decode cX9_repeat 17 = .ok (.aload_n 0, 1) := by decide +kernel
theorem dX9_repeat_18 : decode cX9_repeat 18 = .ok (.getfield 122, 3) := by decide +kernel
theorem dX9_repeat_21 : decode cX9_repeat 21 = .ok (.if_icmp .ge 78, 3) := by decide +kernel
theorem dX9_repeat_24 : decode cX9_repeat 24 = .ok (.iload_n 2, 1) := by decide +kernel
theorem dX9_repeat_25 : decode cX9_repeat 25 = .ok (.ifCond .eq 37, 3) := by decide +kernel
theorem dX9_repeat_28 : decode cX9_repeat 28 = .ok (.aload_n 0, 1) := by decide +kernel
theorem dX9_repeat_29 : decode cX9_repeat 29 = .ok (.iload_n 3, 1) := by decide +kernel
theorem dX9_repeat_30 : decode cX9_repeat 30 = .ok (.iconst 0, 1) := by decide +kernel
theorem dX9_repeat_31 : decode cX9_repeat 31 = .ok (.invokevirtual 184, 3) := by decide +kernel
theorem dX9_repeat_34 : decode cX9_repeat 34 = .ok (.aload_n 0, 1) := by decide +kernel
theorem dX9_repeat_35 : decode cX9_repeat 35 = .ok (.iload_n 3, 1) := by decide +kernel
theorem dX9_repeat_36 : decode cX9_repeat 36 = .ok (.iconst 2, 1) := by decide +kernel
theorem dX9_repeat_37 : decode cX9_repeat 37 = .ok (.invokevirtual 184, 3) := by decide +kernel
theorem dX9_repeat_40 : decode cX9_repeat 40 = .ok (.if_icmp .ne 22, 3) := by decide +kernel
theorem dX9_repeat_43 : decode cX9_repeat 43 = .ok (.aload_n 0, 1) := by decide +kernel
theorem dX9_repeat_44 : decode cX9_repeat 44 = .ok (.iload_n 3, 1) := by decide +kernel
theorem dX9_repeat_45 : decode cX9_repeat 45 = .ok (.iconst 1, 1) := by decide +kernel
theorem dX9_repeat_46 : decode cX9_repeat 46 = .ok (.invokevirtual 184, 3) := by decide +kernel
theorem dX9_repeat_49 : decode cX9_repeat 49 = .ok (.aload_n 0, 1) := by decide +kernel
theorem dX9_repeat_50 : decode cX9_repeat 50 = .ok (.iload_n 3, 1) := by decide +kernel
theorem dX9_repeat_51 : decode cX9_repeat 51 = .ok (.iconst 3, 1) := by decide +kernel
theorem dX9_repeat_52 : decode cX9_repeat 52 = .ok (.invokevirtual 184, 3) := by decide +kernel
theorem dX9_repeat_55 : decode cX9_repeat 55 = .ok (.if_icmp .ne 7, 3) := by decide +kernel
theorem dX9_repeat_58 : decode cX9_repeat 58 = .ok (.iconst 1, 1) := by decide +kernel
theorem dX9_repeat_59 : decode cX9_repeat 59 = .ok (.goto 4, 3) := by decide +kernel
theorem dX9_repeat_62 : decode cX9_repeat 62 = .ok (.iconst 0, 1) := by decide +kernel
theorem dX9_repeat_63 : decode cX9_repeat 63 = .ok (.istore_n 2, 1) := by decide +kernel
theorem dX9_repeat_64 : decode cX9_repeat 64 = .ok (.iload_n 1, 1) := by decide +kernel
theorem dX9_repeat_65 : decode cX9_repeat 65 = .ok (.ifCond .eq 26, 3) := by decide +kernel
theorem dX9_repeat_68 : decode cX9_repeat 68 = .ok (.iload_n 2, 1) := by decide +kernel
theorem dX9_repeat_69 : decode cX9_repeat 69 = .ok (.ifCond .eq 22, 3) := by decide +kernel
theorem dX9_repeat_72 : decode cX9_repeat 72 = .ok (.aload_n 0, 1) := by decide +kernel
theorem dX9_repeat_73 : decode cX9_repeat 73 = .ok (.iload_n 3, 1) := by decide +kernel
theorem dX9_repeat_74 : decode cX9_repeat 74 = .ok (.iconst 0, 1) := by decide +kernel
theorem dX9_repeat_75 : decode cX9_repeat 75 = .ok (.invokevirtual 184, 3) := by decide +kernel
theorem dX9_repeat_78 : decode cX9_repeat 78 = .ok (.aload_n 0, 1) := by decide +kernel
theorem dX9_repeat_79 : decode cX9_repeat 79 = .ok (.iload_n 3, 1) := by decide +kernel
theorem dX9_repeat_80 : decode cX9_repeat 80 = .ok (.iconst 1, 1) := by decide +kernel
theorem dX9_repeat_81 : decode cX9_repeat 81 = .ok (.invokevirtual 184, 3) := by decide +kernel
theorem dX9_repeat_84 : decode cX9_repeat 84 = .ok (.if_icmp .ne 7, 3) := by decide +kernel
theorem dX9_repeat_87 : decode cX9_repeat 87 = .ok (.iconst 1, 1) := by decide +kernel
theorem dX9_repeat_88 : decode cX9_repeat 88 = .ok (.goto 4, 3) := by decide +kernel
theorem dX9_repeat_91 : decode cX9_repeat 91 = .ok (.iconst 0, 1) := by decide +kernel
theorem dX9_repeat_92 : decode cX9_repeat 92 = .ok (.istore_n 1, 1) := by decide +kernel
theorem dX9_repeat_93 : decode cX9_repeat 93 = .ok (.iinc 3 1, 3) := by decide +kernel
theorem dX9_repeat_96 : decode cX9_repeat 96 = .ok (.goto (-80), 3) := by decide +kernel
theorem dX9_repeat_99 : decode cX9_repeat 99 = .ok (.iload_n 1, 1) := by decide +kernel
theorem dX9_repeat_100 : decode cX9_repeat 100 = .ok (.ifCond .eq 7, 3) := by decide +kernel
theorem dX9_repeat_103 : decode cX9_repeat 103 = .ok (.iconst 1, 1) := by decide +kernel
theorem dX9_repeat_104 : decode cX9_repeat 104 = .ok (.goto 12, 3) := by decide +kernel
theorem dX9_repeat_107 : decode cX9_repeat 107 = .ok (.iload_n 2, 1) := by decide +kernel
theorem dX9_repeat_108 : decode cX9_repeat 108 = .ok (.ifCond .eq 7, 3) := by decide +kernel
theorem dX9_repeat_111 : decode cX9_repeat 111 = .ok (.iconst 2, 1) := by decide +kernel
theorem dX9_repeat_112 : decode cX9_repeat 112 = .ok (.goto 4, 3) := by decide +kernel
theorem dX9_repeat_115 : decode cX9_repeat 115 = .ok (.iconst 4, 1) := by decide +kernel
theorem dX9_repeat_116 : decode cX9_repeat 116 = .ok (.ireturn, 1) := by decide +kernel
set_option maxRecDepth 20000 in
theorem ggX9_floats_X9_isCard : GoodIn wsX9_floats wsX9_isCard := goodIn_r _ [6, 7, 8, 9, 5, 10, 23, 24, 25, 26, 27, 28, 29, 30, 31, 32, 33, 34, 35, 36, 37, 38, 39, 40, 41, 42, 43, 44, 45, 46, 47, 48, 49] (by decide +kernel) (by decide +kernel)
set_option maxRecDepth 20000 in
theorem gX9_floats_X9_isCard : GoodIn wsX9_floats (wsV RX9 180 RX9 yX9_isCard wsX9_isCard) := goodIn_app (goodIn_of _ (by decide +kernel)) ggX9_floats_X9_isCard
set_option maxRecDepth 20000 in
theorem ggX9_floats_X9_floatOf : GoodIn wsX9_floats wsX9_floatOf := goodIn_r _ [14, 15, 16, 17, 18, 5, 19, 20, 21, 22, 23, 24, 25, 26, 27, 28, 29, 30, 31, 32, 33, 34, 35, 36, 37, 38, 39, 40, 41, 42, 43, 44, 45, 46, 47, 48, 49] (by decide +kernel) (by decide +kernel)
set_option maxRecDepth 20000 in
theorem gX9_floats_X9_floatOf : GoodIn wsX9_floats (wsV RX9 158 RX9 yX9_floatOf wsX9_floatOf) := goodIn_app (goodIn_of _ (by decide +kernel)) ggX9_floats_X9_floatOf
theorem dX9_floats_0 : decode cX9_floats 0 = .ok (.aload_n 0, 1) := by decide +kernel
theorem dX9_floats_1 : decode cX9_floats 1 = .ok (.iload_n 1, 1) := by decide +kernel
theorem dX9_floats_2 : decode cX9_floats 2 = .ok (.invokevirtual 180, 3) := by decide +kernel
theorem dX9_floats_5 : decode cX9_floats 5 = .ok (.ifCond .eq 11, 3) := by decide +kernel
theorem dX9_floats_8 : decode cX9_floats 8 = .ok (.aload_n 0, 1) := by decide +kernel
theorem dX9_floats_9 : decode cX9_floats 9 = .ok (.iload_n 1, 1) := by decide +kernel
theorem dX9_floats_10 : decode cX9_floats 10 = .ok (.invokevirtual 158, 3) := by decide +kernel
theorem dX9_floats_13 : decode cX9_floats 13 = .ok (.goto 5, 3) := by decide +kernel
theorem dX9_floats_16 : decode cX9_floats 16 = .ok (.ldc 183, 2) := by decide +kernel
theorem dX9_floats_18 : decode cX9_floats 18 = .ok (.ireturn, 1) := by decide +kernel
set_option maxRecDepth 20000 in
theorem ggX9_areAlike_X9_was : GoodIn wsX9_areAlike wsX9_was := goodIn_r _ [6, 1, 7, 8, 9, 10, 11, 12, 13, 14, 15, 16, 17, 18, 19, 20, 21, 22, 23, 24, 25, 26, 27, 28, 29, 30, 31, 32, 33] (by decide +kernel) (by decide +kernel)
set_option maxRecDepth 20000 in
theorem gX9_areAlike_X9_was : GoodIn wsX9_areAlike (wsV RX9 144 RX9 yX9_was wsX9_was) := goodIn_app (goodIn_of _ (by decide +kernel)) ggX9_areAlike_X9_was
theorem dX9_areAlike_0 : decode cX9_areAlike 0 = .ok (.iconst 1, 1) := by decide +kernel
theorem dX9_areAlike_1 : decode cX9_areAlike 1 = .ok (.istore_n 3, 1) := by decide +kernel
theorem dX9_areAlike_2 : decode cX9_areAlike 2 = .ok (.iconst 0, 1) := by decide +kernel
theorem dX9_areAlike_3 : decode cX9_areAlike 3 = .ok (.istore 4, 2) := by decide +kernel
theorem dX9_areAlike_5 : decode cX9_areAlike 5 = .ok (.iload 4, 2) := by decide +kernel
theorem dX9_areAlike_7 : decode cX9_areAlike 7 = .ok (.aload_n 0, 1) := by decide +kernel
theorem dX9_areAlike_8 : decode cX9_areAlike 8 = .ok (.getfield 7, 3) := by decide +kernel
theorem dX9_areAlike_11 : decode cX9_areAlike 11 = .ok (.bipush 49, 2) := by decide +kernel
theorem dX9_areAlike_13 : decode cX9_areAlike 13 = .ok (.iaload, 1) := by decide +kernel
theorem dX9_areAlike_14 : decode cX9_areAlike 14 = .ok (.if_icmp .ge 36, 3) := by decide +kernel
theorem dX9_areAlike_17 : decode cX9_areAlike 17 = .ok (.iload_n 3, 1) := by decide +kernel
theorem dX9_areAlike_18 : decode cX9_areAlike 18 = .ok (.ifCond .eq 24, 3) := by decide +kernel
theorem dX9_areAlike_21 : decode cX9_areAlike 21 = .ok (.aload_n 0, 1) := by decide +kernel
theorem dX9_areAlike_22 : decode cX9_areAlike 22 = .ok (.iload 4, 2) := by decide +kernel
theorem dX9_areAlike_24 : decode cX9_areAlike 24 = .ok (.iload_n 1, 1) := by decide +kernel
theorem dX9_areAlike_25 : decode cX9_areAlike 25 = .ok (.invokevirtual 144, 3) := by decide +kernel
theorem dX9_areAlike_28 : decode cX9_areAlike 28 = .ok (.aload_n 0, 1) := by decide +kernel
theorem dX9_areAlike_29 : decode cX9_areAlike 29 = .ok (.iload 4, 2) := by decide +kernel
theorem dX9_areAlike_31 : decode cX9_areAlike 31 = .ok (.iload_n 2, 1) := by decide +kernel
theorem dX9_areAlike_32 : decode cX9_areAlike 32 = .ok (.invokevirtual 144, 3) := by decide +kernel
theorem dX9_areAlike_35 : decode cX9_areAlike 35 = .ok (.if_icmp .ne 7, 3) := by decide +kernel
theorem dX9_areAlike_38 : decode cX9_areAlike 38 = .ok (.iconst 1, 1) := by decide +kernel
theorem dX9_areAlike_39 : decode cX9_areAlike 39 = .ok (.goto 4, 3) := by decide +kernel
theorem dX9_areAlike_42 : decode cX9_areAlike 42 = .ok (.iconst 0, 1) := by decide +kernel
theorem dX9_areAlike_43 : decode cX9_areAlike 43 = .ok (.istore_n 3, 1) := by decide +kernel
theorem dX9_areAlike_44 : decode cX9_areAlike 44 = .ok (.iinc 4 1, 3) := by decide +kernel
theorem dX9_areAlike_47 : decode cX9_areAlike 47 = .ok (.goto (-42), 3) := by decide +kernel
theorem dX9_areAlike_50 : decode cX9_areAlike 50 = .ok (.iload_n 3, 1) := by decide +kernel
theorem dX9_areAlike_51 : decode cX9_areAlike 51 = .ok (.ireturn, 1) := by decide +kernel
set_option maxRecDepth 20000 in
theorem ggX9_alike_X9_areAlike : GoodIn wsX9_alike wsX9_areAlike := goodIn_r _ [6, 7, 8, 9, 10, 5, 11, 12, 13, 14, 15, 16, 17, 18, 19, 20, 21, 22, 23, 24, 25, 26, 27, 28, 29, 30, 31, 32, 33, 34, 35, 36, 37, 38] (by decide +kernel) (by decide +kernel)
set_option maxRecDepth 20000 in
theorem gX9_alike_X9_areAlike : GoodIn wsX9_alike (wsV RX9 276 RX9 yX9_areAlike wsX9_areAlike) := goodIn_app (goodIn_of _ (by decide +kernel)) ggX9_alike_X9_areAlike
theorem dX9_alike_0 : decode cX9_alike 0 = .ok (.iconst 0, 1) := by decide +kernel
theorem dX9_alike_1 : decode cX9_alike 1 = .ok (.istore_n 2, 1) := by decide +kernel
theorem dX9_alike_2 : decode cX9_alike 2 = .ok (.iconst (-1), 1) := by decide +kernel
theorem dX9_alike_3 : decode cX9_alike 3 = .ok (.istore_n 3, 1) := by decide +kernel
theorem dX9_alike_4 : decode cX9_alike 4 = .ok (.iconst 0, 1) := by decide +kernel
theorem dX9_alike_5 : decode cX9_alike 5 = .ok (.istore 4, 2) := by decide +kernel
theorem dX9_alike_7 : decode cX9_alike 7 = .ok (.iload 4, 2) := by decide +kernel
theorem dX9_alike_9 : decode cX9_alike 9 = .ok (.aload_n 0, 1) := by decide +kernel
theorem dX9_alike_10 : decode cX9_alike 10 = .ok (.getfield 122, 3) := by decide +kernel
theorem dX9_alike_13 : decode cX9_alike 13 = .ok (.if_icmp .ge 62, 3) := by decide +kernel
theorem dX9_alike_16 : decode cX9_alike 16 = .ok (.iload 4, 2) := by decide +kernel
theorem dX9_alike_18 : decode cX9_alike 18 = .ok (.iconst 1, 1) := by decide +kernel
theorem dX9_alike_19 : decode cX9_alike 19 = .ok (.iadd, 1) := by decide +kernel
theorem dX9_alike_20 : decode cX9_alike 20 = .ok (.istore 5, 2) := by decide +kernel
theorem dX9_alike_22 : decode cX9_alike 22 = .ok (.iload 5, 2) := by decide +kernel
theorem dX9_alike_24 : decode cX9_alike 24 = .ok (.aload_n 0, 1) := by decide +kernel
theorem dX9_alike_25 : decode cX9_alike 25 = .ok (.getfield 122, 3) := by decide +kernel
theorem dX9_alike_28 : decode cX9_alike 28 = .ok (.if_icmp .ge 41, 3) := by decide +kernel
theorem dX9_alike_31 : decode cX9_alike 31 = .ok (.aload_n 0, 1) := by decide +kernel
theorem dX9_alike_32 : decode cX9_alike 32 = .ok (.iload 4, 2) := by decide +kernel
theorem dX9_alike_34 : decode cX9_alike 34 = .ok (.iload 5, 2) := by decide +kernel
theorem dX9_alike_36 : decode cX9_alike 36 = .ok (.invokevirtual 276, 3) := by decide +kernel
theorem dX9_alike_39 : decode cX9_alike 39 = .ok (.ifCond .eq 24, 3) := by decide +kernel
theorem dX9_alike_42 : decode cX9_alike 42 = .ok (.iload_n 2, 1) := by decide +kernel
theorem dX9_alike_43 : decode cX9_alike 43 = .ok (.iload_n 1, 1) := by decide +kernel
theorem dX9_alike_44 : decode cX9_alike 44 = .ok (.if_icmp .ne 14, 3) := by decide +kernel
theorem dX9_alike_47 : decode cX9_alike 47 = .ok (.bipush 10, 2) := by decide +kernel
theorem dX9_alike_49 : decode cX9_alike 49 = .ok (.iload 4, 2) := by decide +kernel
theorem dX9_alike_51 : decode cX9_alike 51 = .ok (.imul, 1) := by decide +kernel
theorem dX9_alike_52 : decode cX9_alike 52 = .ok (.iload 5, 2) := by decide +kernel
theorem dX9_alike_54 : decode cX9_alike 54 = .ok (.iadd, 1) := by decide +kernel
theorem dX9_alike_55 : decode cX9_alike 55 = .ok (.goto 4, 3) := by decide +kernel
theorem dX9_alike_58 : decode cX9_alike 58 = .ok (.iload_n 3, 1) := by decide +kernel
theorem dX9_alike_59 : decode cX9_alike 59 = .ok (.istore_n 3, 1) := by decide +kernel
theorem dX9_alike_60 : decode cX9_alike 60 = .ok (.iinc 2 1, 3) := by decide +kernel
theorem dX9_alike_63 : decode cX9_alike 63 = .ok (.iinc 5 1, 3) := by decide +kernel
theorem dX9_alike_66 : decode cX9_alike 66 = .ok (.goto (-44), 3) := by decide +kernel
theorem dX9_alike_69 : decode cX9_alike 69 = .ok (.iinc 4 1, 3) := by decide +kernel
theorem dX9_alike_72 : decode cX9_alike 72 = .ok (.goto (-65), 3) := by decide +kernel
theorem dX9_alike_75 : decode cX9_alike 75 = .ok (.iload_n 1, 1) := by decide +kernel
theorem dX9_alike_76 : decode cX9_alike 76 = .ok (.iconst (-1), 1) := by decide +kernel
theorem dX9_alike_77 : decode cX9_alike 77 = .ok (.if_icmp .ne 7, 3) := by decide +kernel
theorem dX9_alike_80 : decode cX9_alike 80 = .ok (.iload_n 2, 1) := by decide +kernel
theorem dX9_alike_81 : decode cX9_alike 81 = .ok (.goto 4, 3) := by decide +kernel
theorem dX9_alike_84 : decode cX9_alike 84 = .ok (.iload_n 3, 1) := by decide +kernel
theorem dX9_alike_85 : decode cX9_alike 85 = .ok (.ireturn, 1) := by decide +kernel
set_option maxRecDepth 20000 in
theorem ggX9_shown_X9_isColour : GoodIn wsX9_shown wsX9_isColour := goodIn_r _ [6, 7, 8, 9, 5, 10, 24, 25, 26, 27, 28, 29, 30, 31, 32, 33, 34, 35, 36, 37, 38, 39, 40, 41, 42, 43, 44, 45, 46, 47, 48, 49, 50] (by decide +kernel) (by decide +kernel)
set_option maxRecDepth 20000 in
theorem gX9_shown_X9_isColour : GoodIn wsX9_shown (wsV RX9 190 RX9 yX9_isColour wsX9_isColour) := goodIn_app (goodIn_of _ (by decide +kernel)) ggX9_shown_X9_isColour
set_option maxRecDepth 20000 in
theorem ggX9_shown_X9_shownOf : GoodIn wsX9_shown wsX9_shownOf := goodIn_r _ [14, 15, 16, 17, 18, 19, 5, 20, 21, 22, 23, 24, 25, 26, 27, 28, 29, 30, 31, 32, 33, 34, 35, 36, 37, 38, 39, 40, 41, 42, 43, 44, 45, 46, 47, 48, 49, 50] (by decide +kernel) (by decide +kernel)
set_option maxRecDepth 20000 in
theorem gX9_shown_X9_shownOf : GoodIn wsX9_shown (wsV RX9 162 RX9 yX9_shownOf wsX9_shownOf) := goodIn_app (goodIn_of _ (by decide +kernel)) ggX9_shown_X9_shownOf
theorem dX9_shown_0 : decode cX9_shown 0 = .ok (.aload_n 0, 1) := by decide +kernel
theorem dX9_shown_1 : decode cX9_shown 1 = .ok (.iload_n 1, 1) := by decide +kernel
theorem dX9_shown_2 : decode cX9_shown 2 = .ok (.invokevirtual 190, 3) := by decide +kernel
theorem dX9_shown_5 : decode cX9_shown 5 = .ok (.ifCond .eq 11, 3) := by decide +kernel
theorem dX9_shown_8 : decode cX9_shown 8 = .ok (.aload_n 0, 1) := by decide +kernel
theorem dX9_shown_9 : decode cX9_shown 9 = .ok (.iload_n 1, 1) := by decide +kernel
theorem dX9_shown_10 : decode cX9_shown 10 = .ok (.invokevirtual 162, 3) := by decide +kernel
theorem dX9_shown_13 : decode cX9_shown 13 = .ok (.goto 5, 3) := by decide +kernel
theorem dX9_shown_16 : decode cX9_shown 16 = .ok (.ldc 183, 2) := by decide +kernel
theorem dX9_shown_18 : decode cX9_shown 18 = .ok (.ireturn, 1) := by decide +kernel
set_option maxRecDepth 20000 in
theorem ggX9_turned_X9_isCard : GoodIn wsX9_turned wsX9_isCard := goodIn_r _ [10, 11, 12, 13, 9, 14, 27, 28, 29, 30, 31, 32, 33, 34, 35, 36, 37, 38, 39, 40, 41, 42, 43, 44, 45, 46, 47, 48, 49, 50, 51, 52, 53] (by decide +kernel) (by decide +kernel)
set_option maxRecDepth 20000 in
theorem gX9_turned_X9_isCard : GoodIn wsX9_turned (wsV RX9 180 RX9 yX9_isCard wsX9_isCard) := goodIn_app (goodIn_of _ (by decide +kernel)) ggX9_turned_X9_isCard
set_option maxRecDepth 20000 in
theorem ggX9_turned_X9_in : GoodIn wsX9_turned wsX9_in := goodIn_r _ [14] (by decide +kernel) (by decide +kernel)
set_option maxRecDepth 20000 in
theorem gX9_turned_X9_in : GoodIn wsX9_turned (va_wsS RX9 56 yX9_in wsX9_in) := goodIn_app (goodIn_of _ (by decide +kernel)) ggX9_turned_X9_in
set_option maxRecDepth 20000 in
theorem ggX9_turned_X9_was : GoodIn wsX9_turned wsX9_was := goodIn_r _ [18, 4, 27, 28, 29, 30, 31, 32, 33, 34, 35, 36, 37, 38, 39, 40, 41, 42, 43, 44, 45, 46, 47, 48, 49, 50, 51, 52, 53] (by decide +kernel) (by decide +kernel)
set_option maxRecDepth 20000 in
theorem gX9_turned_X9_was : GoodIn wsX9_turned (wsV RX9 144 RX9 yX9_was wsX9_was) := goodIn_app (goodIn_of _ (by decide +kernel)) ggX9_turned_X9_was
set_option maxRecDepth 20000 in
theorem ggX9_turned_X9_one : GoodIn wsX9_turned wsX9_one := goodIn_r _ [21] (by decide +kernel) (by decide +kernel)
set_option maxRecDepth 20000 in
theorem gX9_turned_X9_one : GoodIn wsX9_turned (va_wsS RX9 147 yX9_one wsX9_one) := goodIn_app (goodIn_of _ (by decide +kernel)) ggX9_turned_X9_one
set_option maxRecDepth 20000 in
theorem ggX9_turned_X9_colourOf : GoodIn wsX9_turned wsX9_colourOf := goodIn_r _ [25, 26, 27, 28, 29, 30, 31, 32, 33, 34, 35, 36, 37, 38, 39, 40, 41, 42, 43, 44, 45, 46, 47, 48, 49, 50, 51, 52, 53] (by decide +kernel) (by decide +kernel)
set_option maxRecDepth 20000 in
theorem gX9_turned_X9_colourOf : GoodIn wsX9_turned (wsV RX9 184 RX9 yX9_colourOf wsX9_colourOf) := goodIn_app (goodIn_of _ (by decide +kernel)) ggX9_turned_X9_colourOf
theorem dX9_turned_0 : decode cX9_turned 0 = .ok (.aload_n 0, 1) := by decide +kernel
theorem dX9_turned_1 : decode cX9_turned 1 = .ok (.iload_n 1, 1) := by decide +kernel
theorem dX9_turned_2 : decode cX9_turned 2 = .ok (.invokevirtual 180, 3) := by decide +kernel
theorem dX9_turned_5 : decode cX9_turned 5 = .ok (.ifCond .ne 6, 3) := by decide +kernel
theorem dX9_turned_8 : decode cX9_turned 8 = .ok (.ldc 183, 2) := by decide +kernel
theorem dX9_turned_10 : decode cX9_turned 10 = .ok (.ireturn, 1) := by decide +kernel
theorem dX9_turned_11 : decode cX9_turned 11 = .ok (.iload_n 2, 1) := by decide +kernel
theorem dX9_turned_12 : decode cX9_turned 12 = .ok (.i2l, 1) := by decide +kernel
theorem dX9_turned_13 : decode cX9_turned 13 = .ok (.lconst 0, 1) := by decide +kernel
theorem dX9_turned_14 : decode cX9_turned 14 = .ok (.ldc2_w 279, 3) := by decide +kernel
theorem dX9_turned_17 : decode cX9_turned 17 = .ok (.invokestatic 56, 3) := by decide +kernel
theorem dX9_turned_20 : decode cX9_turned 20 = .ok (.ifCond .ne 6, 3) := by decide +kernel
theorem dX9_turned_23 : decode cX9_turned 23 = .ok (.ldc 60, 2) := by decide +kernel
theorem dX9_turned_25 : decode cX9_turned 25 = .ok (.ireturn, 1) := by decide +kernel
theorem dX9_turned_26 : decode cX9_turned 26 = .ok (.iload_n 2, 1) := by decide +kernel
theorem dX9_turned_27 : decode cX9_turned 27 = .ok (.iconst 1, 1) := by decide +kernel
theorem dX9_turned_28 : decode cX9_turned 28 = .ok (.iadd, 1) := by decide +kernel
theorem dX9_turned_29 : decode cX9_turned 29 = .ok (.aload_n 0, 1) := by decide +kernel
theorem dX9_turned_30 : decode cX9_turned 30 = .ok (.getfield 7, 3) := by decide +kernel
theorem dX9_turned_33 : decode cX9_turned 33 = .ok (.bipush 49, 2) := by decide +kernel
theorem dX9_turned_35 : decode cX9_turned 35 = .ok (.iaload, 1) := by decide +kernel
theorem dX9_turned_36 : decode cX9_turned 36 = .ok (.if_icmp .lt 6, 3) := by decide +kernel
theorem dX9_turned_39 : decode cX9_turned 39 = .ok (.ldc 231, 2) := by decide +kernel
theorem dX9_turned_41 : decode cX9_turned 41 = .ok (.ireturn, 1) := by decide +kernel
theorem dX9_turned_42 : decode cX9_turned 42 = .ok (.aload_n 0, 1) := by decide +kernel
theorem dX9_turned_43 : decode cX9_turned 43 = .ok (.iload_n 2, 1) := by decide +kernel
theorem dX9_turned_44 : decode cX9_turned 44 = .ok (.iload_n 1, 1) := by decide +kernel
theorem dX9_turned_45 : decode cX9_turned 45 = .ok (.invokevirtual 144, 3) := by decide +kernel
theorem dX9_turned_48 : decode cX9_turned 48 = .ok (.istore_n 3, 1) := by decide +kernel
theorem dX9_turned_49 : decode cX9_turned 49 = .ok (.aload_n 0, 1) := by decide +kernel
theorem dX9_turned_50 : decode cX9_turned 50 = .ok (.iload_n 2, 1) := by decide +kernel
theorem dX9_turned_51 : decode cX9_turned 51 = .ok (.iconst 1, 1) := by decide +kernel
theorem dX9_turned_52 : decode cX9_turned 52 = .ok (.iadd, 1) := by decide +kernel
theorem dX9_turned_53 : decode cX9_turned 53 = .ok (.iload_n 1, 1) := by decide +kernel
theorem dX9_turned_54 : decode cX9_turned 54 = .ok (.invokevirtual 144, 3) := by decide +kernel
theorem dX9_turned_57 : decode cX9_turned 57 = .ok (.istore 4, 2) := by decide +kernel
theorem dX9_turned_59 : decode cX9_turned 59 = .ok (.iload 4, 2) := by decide +kernel
theorem dX9_turned_61 : decode cX9_turned 61 = .ok (.iload_n 3, 1) := by decide +kernel
theorem dX9_turned_62 : decode cX9_turned 62 = .ok (.if_icmp .ne 7, 3) := by decide +kernel
theorem dX9_turned_65 : decode cX9_turned 65 = .ok (.iconst 1, 1) := by decide +kernel
theorem dX9_turned_66 : decode cX9_turned 66 = .ok (.goto 4, 3) := by decide +kernel
theorem dX9_turned_69 : decode cX9_turned 69 = .ok (.iconst 0, 1) := by decide +kernel
theorem dX9_turned_70 : decode cX9_turned 70 = .ok (.invokestatic 147, 3) := by decide +kernel
theorem dX9_turned_73 : decode cX9_turned 73 = .ok (.istore 5, 2) := by decide +kernel
theorem dX9_turned_75 : decode cX9_turned 75 = .ok (.iconst 0, 1) := by decide +kernel
theorem dX9_turned_76 : decode cX9_turned 76 = .ok (.istore 6, 2) := by decide +kernel
theorem dX9_turned_78 : decode cX9_turned 78 = .ok (.iload 6, 2) := by decide +kernel
theorem dX9_turned_80 : decode cX9_turned 80 = .ok (.iconst 4, 1) := by decide +kernel
theorem dX9_turned_81 : decode cX9_turned 81 = .ok (.if_icmp .ge 125, 3) := by decide +kernel
theorem dX9_turned_84 : decode cX9_turned 84 = .ok (.iload_n 3, 1) := by decide +kernel
theorem dX9_turned_85 : decode cX9_turned 85 = .ok (.iconst (-1), 1) := by decide +kernel
theorem dX9_turned_86 : decode cX9_turned 86 = .ok (.if_icmp .eq 18, 3) := by decide +kernel
theorem dX9_turned_89 : decode cX9_turned 89 = .ok (.aload_n 0, 1) := by decide +kernel
theorem dX9_turned_90 : decode cX9_turned 90 = .ok (.iload_n 1, 1) := by decide +kernel
theorem dX9_turned_91 : decode cX9_turned 91 = .ok (.iload 6, 2) := by decide +kernel
theorem dX9_turned_93 : decode cX9_turned 93 = .ok (.invokevirtual 184, 3) := by decide +kernel
theorem dX9_turned_96 : decode cX9_turned 96 = .ok (.iload_n 3, 1) := by decide +kernel
theorem dX9_turned_97 : decode cX9_turned 97 = .ok (.if_icmp .ne 7, 3) := by decide +kernel
theorem dX9_turned_100 : decode cX9_turned 100 = .ok (.iconst 1, 1) := by decide +kernel
theorem dX9_turned_101 : decode cX9_turned 101 = .ok (.goto 4, 3) := by decide +kernel
theorem dX9_turned_104 : decode cX9_turned 104 = .ok (.iconst 0, 1) := by decide +kernel
theorem dX9_turned_105 : decode cX9_turned 105 = .ok (.istore 7, 2) := by decide +kernel
theorem dX9_turned_107 : decode cX9_turned 107 = .ok (.iload 4, 2) := by decide +kernel
theorem dX9_turned_109 : decode cX9_turned 109 = .ok (.iconst (-1), 1) := by decide +kernel
theorem dX9_turned_110 : decode cX9_turned 110 = .ok (.if_icmp .eq 15, 3) := by decide +kernel
theorem dX9_turned_113 : decode cX9_turned 113 = .ok (.iload 4, 2) := by decide +kernel
theorem dX9_turned_115 : decode cX9_turned 115 = .ok (.aload_n 0, 1) := by decide +kernel
theorem dX9_turned_116 : decode cX9_turned 116 = .ok (.iload_n 1, 1) := by decide +kernel
theorem dX9_turned_117 : decode cX9_turned 117 = .ok (.iload 6, 2) := by decide +kernel
theorem dX9_turned_119 : decode cX9_turned 119 = .ok (.invokevirtual 184, 3) := by decide +kernel
theorem dX9_turned_122 : decode cX9_turned 122 = .ok (.if_icmp .ne 7, 3) := by decide +kernel
theorem dX9_turned_125 : decode cX9_turned 125 = .ok (.iconst 1, 1) := by decide +kernel
theorem dX9_turned_126 : decode cX9_turned 126 = .ok (.goto 4, 3) := by decide +kernel
theorem dX9_turned_129 : decode cX9_turned 129 = .ok (.iconst 0, 1) := by decide +kernel
theorem dX9_turned_130 : decode cX9_turned 130 = .ok (.istore 8, 2) := by decide +kernel
theorem dX9_turned_132 : decode cX9_turned 132 = .ok (.iload 5, 2) := by decide +kernel
theorem dX9_turned_134 : decode cX9_turned 134 = .ok (.iload 7, 2) := by decide +kernel
theorem dX9_turned_136 : decode cX9_turned 136 = .ok (.ifCond .eq 26, 3) := by decide +kernel
theorem dX9_turned_139 : decode cX9_turned 139 = .ok (.iload 8, 2) := by decide +kernel
theorem dX9_turned_141 : decode cX9_turned 141 = .ok (.ifCond .ne 17, 3) := by decide +kernel
theorem dX9_turned_144 : decode cX9_turned 144 = .ok (.iload 4, 2) := by decide +kernel
theorem dX9_turned_146 : decode cX9_turned 146 = .ok (.aload_n 0, 1) := by decide +kernel
theorem dX9_turned_147 : decode cX9_turned 147 = .ok (.iload_n 1, 1) := by decide +kernel
theorem dX9_turned_148 : decode cX9_turned 148 = .ok (.iload 6, 2) := by decide +kernel
theorem dX9_turned_150 : decode cX9_turned 150 = .ok (.iconst 3, 1) := by decide +kernel
theorem dX9_turned_151 : decode cX9_turned 151 = .ok (.iadd, 1) := by decide +kernel
theorem dX9_turned_152 : decode cX9_turned 152 = .ok (.invokevirtual 184, 3) := by decide +kernel
theorem dX9_turned_155 : decode cX9_turned 155 = .ok (.if_icmp .ne 7, 3) := by decide +kernel
theorem dX9_turned_158 : decode cX9_turned 158 = .ok (.iconst 2, 1) := by decide +kernel
theorem dX9_turned_159 : decode cX9_turned 159 = .ok (.goto 4, 3) := by decide +kernel
theorem dX9_turned_162 : decode cX9_turned 162 = .ok (.iconst 0, 1) := by decide +kernel
theorem dX9_turned_163 : decode cX9_turned 163 = .ok (.ior, 1) := by decide +kernel
theorem dX9_turned_164 : decode cX9_turned 164 = .ok (.istore 5, 2) := by decide +kernel
theorem dX9_turned_166 : decode cX9_turned 166 = .ok (.iload 5, 2) := by decide +kernel
theorem dX9_turned_168 : decode cX9_turned 168 = .ok (.iload 7, 2) := by decide +kernel
theorem dX9_turned_170 : decode cX9_turned 170 = .ok (.ifCond .eq 26, 3) := by decide +kernel
theorem dX9_turned_173 : decode cX9_turned 173 = .ok (.iload 8, 2) := by decide +kernel
theorem dX9_turned_175 : decode cX9_turned 175 = .ok (.ifCond .ne 17, 3) := by decide +kernel
theorem dX9_turned_178 : decode cX9_turned 178 = .ok (.iload 4, 2) := by decide +kernel
theorem dX9_turned_180 : decode cX9_turned 180 = .ok (.aload_n 0, 1) := by decide +kernel
theorem dX9_turned_181 : decode cX9_turned 181 = .ok (.iload_n 1, 1) := by decide +kernel
theorem dX9_turned_182 : decode cX9_turned 182 = .ok (.iload 6, 2) := by decide +kernel
theorem dX9_turned_184 : decode cX9_turned 184 = .ok (.iconst 1, 1) := by decide +kernel
theorem dX9_turned_185 : decode cX9_turned 185 = .ok (.iadd, 1) := by decide +kernel
theorem dX9_turned_186 : decode cX9_turned 186 = .ok (.invokevirtual 184, 3) := by decide +kernel
theorem dX9_turned_189 : decode cX9_turned 189 = .ok (.if_icmp .ne 7, 3) := by decide +kernel
theorem dX9_turned_192 : decode cX9_turned 192 = .ok (.iconst 4, 1) := by decide +kernel
theorem dX9_turned_193 : decode cX9_turned 193 = .ok (.goto 4, 3) := by decide +kernel
theorem dX9_turned_196 : decode cX9_turned 196 = .ok (.iconst 0, 1) := by decide +kernel
theorem dX9_turned_197 : decode cX9_turned 197 = .ok (.ior, 1) := by decide +kernel
theorem dX9_turned_198 : decode cX9_turned 198 = .ok (.istore 5, 2) := by decide +kernel
theorem dX9_turned_200 : decode cX9_turned 200 = .ok (.iinc 6 1, 3) := by decide +kernel
theorem dX9_turned_203 : decode cX9_turned 203 = .ok (.goto (-125), 3) := by decide +kernel
theorem dX9_turned_206 : decode cX9_turned 206 = .ok (.iload 5, 2) := by decide +kernel
theorem dX9_turned_208 : decode cX9_turned 208 = .ok (.ireturn, 1) := by decide +kernel
set_option maxRecDepth 20000 in
theorem ggX9_shareOf_X9_colourOf : GoodIn wsX9_shareOf wsX9_colourOf := goodIn_r _ [6, 7, 11, 12, 13, 14, 15, 16, 17, 18, 19, 20, 21, 22, 23, 24, 25, 26, 27, 28, 29, 30, 31, 32, 33, 34, 35, 36, 37] (by decide +kernel) (by decide +kernel)
set_option maxRecDepth 20000 in
theorem gX9_shareOf_X9_colourOf : GoodIn wsX9_shareOf (wsV RX9 184 RX9 yX9_colourOf wsX9_colourOf) := goodIn_app (goodIn_of _ (by decide +kernel)) ggX9_shareOf_X9_colourOf
set_option maxRecDepth 20000 in
theorem ggX9_shareOf_X9_one : GoodIn wsX9_shareOf wsX9_one := goodIn_r _ [10] (by decide +kernel) (by decide +kernel)
set_option maxRecDepth 20000 in
theorem gX9_shareOf_X9_one : GoodIn wsX9_shareOf (va_wsS RX9 147 yX9_one wsX9_one) := goodIn_app (goodIn_of _ (by decide +kernel)) ggX9_shareOf_X9_one
theorem dX9_shareOf_0 : decode cX9_shareOf 0 = .ok (.iconst 0, 1) := by decide +kernel
theorem dX9_shareOf_1 : decode cX9_shareOf 1 = .ok (.istore_n 3, 1) := by decide +kernel
theorem dX9_shareOf_2 : decode cX9_shareOf 2 = .ok (.iconst 0, 1) := by decide +kernel
theorem dX9_shareOf_3 : decode cX9_shareOf 3 = .ok (.istore 4, 2) := by decide +kernel
theorem dX9_shareOf_5 : decode cX9_shareOf 5 = .ok (.iload 4, 2) := by decide +kernel
theorem dX9_shareOf_7 : decode cX9_shareOf 7 = .ok (.aload_n 0, 1) := by decide +kernel
theorem dX9_shareOf_8 : decode cX9_shareOf 8 = .ok (.getfield 122, 3) := by decide +kernel
theorem dX9_shareOf_11 : decode cX9_shareOf 11 = .ok (.if_icmp .ge 47, 3) := by decide +kernel
theorem dX9_shareOf_14 : decode cX9_shareOf 14 = .ok (.iconst 0, 1) := by decide +kernel
theorem dX9_shareOf_15 : decode cX9_shareOf 15 = .ok (.istore 5, 2) := by decide +kernel
theorem dX9_shareOf_17 : decode cX9_shareOf 17 = .ok (.iload 5, 2) := by decide +kernel
theorem dX9_shareOf_19 : decode cX9_shareOf 19 = .ok (.iconst 4, 1) := by decide +kernel
theorem dX9_shareOf_20 : decode cX9_shareOf 20 = .ok (.if_icmp .ge 32, 3) := by decide +kernel
theorem dX9_shareOf_23 : decode cX9_shareOf 23 = .ok (.iload_n 3, 1) := by decide +kernel
theorem dX9_shareOf_24 : decode cX9_shareOf 24 = .ok (.aload_n 0, 1) := by decide +kernel
theorem dX9_shareOf_25 : decode cX9_shareOf 25 = .ok (.iload 4, 2) := by decide +kernel
theorem dX9_shareOf_27 : decode cX9_shareOf 27 = .ok (.iload 5, 2) := by decide +kernel
theorem dX9_shareOf_29 : decode cX9_shareOf 29 = .ok (.invokevirtual 184, 3) := by decide +kernel
theorem dX9_shareOf_32 : decode cX9_shareOf 32 = .ok (.iload_n 2, 1) := by decide +kernel
theorem dX9_shareOf_33 : decode cX9_shareOf 33 = .ok (.if_icmp .ne 7, 3) := by decide +kernel
theorem dX9_shareOf_36 : decode cX9_shareOf 36 = .ok (.iconst 1, 1) := by decide +kernel
theorem dX9_shareOf_37 : decode cX9_shareOf 37 = .ok (.goto 4, 3) := by decide +kernel
theorem dX9_shareOf_40 : decode cX9_shareOf 40 = .ok (.iconst 0, 1) := by decide +kernel
theorem dX9_shareOf_41 : decode cX9_shareOf 41 = .ok (.invokestatic 147, 3) := by decide +kernel
theorem dX9_shareOf_44 : decode cX9_shareOf 44 = .ok (.iadd, 1) := by decide +kernel
theorem dX9_shareOf_45 : decode cX9_shareOf 45 = .ok (.istore_n 3, 1) := by decide +kernel
theorem dX9_shareOf_46 : decode cX9_shareOf 46 = .ok (.iinc 5 1, 3) := by decide +kernel
theorem dX9_shareOf_49 : decode cX9_shareOf 49 = .ok (.goto (-32), 3) := by decide +kernel
theorem dX9_shareOf_52 : decode cX9_shareOf 52 = .ok (.iinc 4 1, 3) := by decide +kernel
theorem dX9_shareOf_55 : decode cX9_shareOf 55 = .ok (.goto (-50), 3) := by decide +kernel
theorem dX9_shareOf_58 : decode cX9_shareOf 58 = .ok (.aload_n 0, 1) := by decide +kernel
theorem dX9_shareOf_59 : decode cX9_shareOf 59 = .ok (.getfield 122, 3) := by decide +kernel
theorem dX9_shareOf_62 : decode cX9_shareOf 62 = .ok (.ifCond .ne 7, 3) := by decide +kernel
theorem dX9_shareOf_65 : decode cX9_shareOf 65 = .ok (.iconst 0, 1) := by decide +kernel
theorem dX9_shareOf_66 : decode cX9_shareOf 66 = .ok (.goto 13, 3) := by decide +kernel
theorem dX9_shareOf_69 : decode cX9_shareOf 69 = .ok (.iload_n 1, 1) := by decide +kernel
theorem dX9_shareOf_70 : decode cX9_shareOf 70 = .ok (.iload_n 3, 1) := by decide +kernel
theorem dX9_shareOf_71 : decode cX9_shareOf 71 = .ok (.imul, 1) := by decide +kernel
theorem dX9_shareOf_72 : decode cX9_shareOf 72 = .ok (.iconst 4, 1) := by decide +kernel
theorem dX9_shareOf_73 : decode cX9_shareOf 73 = .ok (.aload_n 0, 1) := by decide +kernel
theorem dX9_shareOf_74 : decode cX9_shareOf 74 = .ok (.getfield 122, 3) := by decide +kernel
theorem dX9_shareOf_77 : decode cX9_shareOf 77 = .ok (.imul, 1) := by decide +kernel
theorem dX9_shareOf_78 : decode cX9_shareOf 78 = .ok (.idiv, 1) := by decide +kernel
theorem dX9_shareOf_79 : decode cX9_shareOf 79 = .ok (.ireturn, 1) := by decide +kernel
set_option maxRecDepth 20000 in
theorem ggX9_share_X9_isColour : GoodIn wsX9_share wsX9_isColour := goodIn_r _ [9, 4, 10, 11, 8, 12, 26, 27, 28, 29, 30, 31, 32, 33, 34, 35, 36, 37, 38, 39, 40, 41, 42, 43, 44, 45, 46, 47, 48, 49, 50, 51, 52] (by decide +kernel) (by decide +kernel)
set_option maxRecDepth 20000 in
theorem gX9_share_X9_isColour : GoodIn wsX9_share (wsV RX9 190 RX9 yX9_isColour wsX9_isColour) := goodIn_app (goodIn_of _ (by decide +kernel)) ggX9_share_X9_isColour
set_option maxRecDepth 20000 in
theorem ggX9_share_X9_in : GoodIn wsX9_share wsX9_in := goodIn_r _ [12] (by decide +kernel) (by decide +kernel)
set_option maxRecDepth 20000 in
theorem gX9_share_X9_in : GoodIn wsX9_share (va_wsS RX9 56 yX9_in wsX9_in) := goodIn_app (goodIn_of _ (by decide +kernel)) ggX9_share_X9_in
set_option maxRecDepth 20000 in
theorem ggX9_share_X9_shareOf : GoodIn wsX9_share wsX9_shareOf := goodIn_r _ [16, 17, 18, 19, 20, 8, 21, 22, 23, 24, 25, 26, 27, 28, 29, 30, 31, 32, 33, 34, 35, 36, 37, 38, 39, 40, 41, 42, 43, 44, 45, 46, 47, 48, 49, 50, 51, 52] (by decide +kernel) (by decide +kernel)
set_option maxRecDepth 20000 in
theorem gX9_share_X9_shareOf : GoodIn wsX9_share (wsV RX9 281 RX9 yX9_shareOf wsX9_shareOf) := goodIn_app (goodIn_of _ (by decide +kernel)) ggX9_share_X9_shareOf
theorem dX9_share_0 : decode cX9_share 0 = .ok (.iload_n 2, 1) := by decide +kernel
theorem dX9_share_1 : decode cX9_share 1 = .ok (.iconst (-1), 1) := by decide +kernel
theorem dX9_share_2 : decode cX9_share 2 = .ok (.if_icmp .eq 14, 3) := by decide +kernel
theorem dX9_share_5 : decode cX9_share 5 = .ok (.aload_n 0, 1) := by decide +kernel
theorem dX9_share_6 : decode cX9_share 6 = .ok (.iload_n 2, 1) := by decide +kernel
theorem dX9_share_7 : decode cX9_share 7 = .ok (.invokevirtual 190, 3) := by decide +kernel
theorem dX9_share_10 : decode cX9_share 10 = .ok (.ifCond .ne 6, 3) := by decide +kernel
theorem dX9_share_13 : decode cX9_share 13 = .ok (.ldc 183, 2) := by decide +kernel
theorem dX9_share_15 : decode cX9_share 15 = .ok (.ireturn, 1) := by decide +kernel
theorem dX9_share_16 : decode cX9_share 16 = .ok (.iload_n 1, 1) := by decide +kernel
theorem dX9_share_17 : decode cX9_share 17 = .ok (.i2l, 1) := by decide +kernel
theorem dX9_share_18 : decode cX9_share 18 = .ok (.lconst 0, 1) := by decide +kernel
theorem dX9_share_19 : decode cX9_share 19 = .ok (.ldc2_w 237, 3) := by decide +kernel
theorem dX9_share_22 : decode cX9_share 22 = .ok (.invokestatic 56, 3) := by decide +kernel
theorem dX9_share_25 : decode cX9_share 25 = .ok (.ifCond .ne 6, 3) := by decide +kernel
theorem dX9_share_28 : decode cX9_share 28 = .ok (.ldc 60, 2) := by decide +kernel
theorem dX9_share_30 : decode cX9_share 30 = .ok (.ireturn, 1) := by decide +kernel
theorem dX9_share_31 : decode cX9_share 31 = .ok (.iload_n 1, 1) := by decide +kernel
theorem dX9_share_32 : decode cX9_share 32 = .ok (.istore_n 3, 1) := by decide +kernel
theorem dX9_share_33 : decode cX9_share 33 = .ok (.iconst 0, 1) := by decide +kernel
theorem dX9_share_34 : decode cX9_share 34 = .ok (.istore 4, 2) := by decide +kernel
theorem dX9_share_36 : decode cX9_share 36 = .ok (.iload 4, 2) := by decide +kernel
theorem dX9_share_38 : decode cX9_share 38 = .ok (.aload_n 0, 1) := by decide +kernel
theorem dX9_share_39 : decode cX9_share 39 = .ok (.getfield 125, 3) := by decide +kernel
theorem dX9_share_42 : decode cX9_share 42 = .ok (.if_icmp .ge 19, 3) := by decide +kernel
theorem dX9_share_45 : decode cX9_share 45 = .ok (.iload_n 3, 1) := by decide +kernel
theorem dX9_share_46 : decode cX9_share 46 = .ok (.aload_n 0, 1) := by decide +kernel
theorem dX9_share_47 : decode cX9_share 47 = .ok (.iload_n 1, 1) := by decide +kernel
theorem dX9_share_48 : decode cX9_share 48 = .ok (.iload 4, 2) := by decide +kernel
theorem dX9_share_50 : decode cX9_share 50 = .ok (.invokevirtual 281, 3) := by decide +kernel
theorem dX9_share_53 : decode cX9_share 53 = .ok (.isub, 1) := by decide +kernel
theorem dX9_share_54 : decode cX9_share 54 = .ok (.istore_n 3, 1) := by decide +kernel
theorem dX9_share_55 : decode cX9_share 55 = .ok (.iinc 4 1, 3) := by decide +kernel
theorem dX9_share_58 : decode cX9_share 58 = .ok (.goto (-22), 3) := by decide +kernel
theorem dX9_share_61 : decode cX9_share 61 = .ok (.iload_n 2, 1) := by decide +kernel
theorem dX9_share_62 : decode cX9_share 62 = .ok (.iconst (-1), 1) := by decide +kernel
theorem dX9_share_63 : decode cX9_share 63 = .ok (.if_icmp .ne 7, 3) := by decide +kernel
theorem dX9_share_66 : decode cX9_share 66 = .ok (.iload_n 3, 1) := by decide +kernel
theorem dX9_share_67 : decode cX9_share 67 = .ok (.goto 9, 3) := by decide +kernel
theorem dX9_share_70 : decode cX9_share 70 = .ok (.aload_n 0, 1) := by decide +kernel
theorem dX9_share_71 : decode cX9_share 71 = .ok (.iload_n 1, 1) := by decide +kernel
theorem dX9_share_72 : decode cX9_share 72 = .ok (.iload_n 2, 1) := by decide +kernel
theorem dX9_share_73 : decode cX9_share 73 = .ok (.invokevirtual 281, 3) := by decide +kernel
theorem dX9_share_76 : decode cX9_share 76 = .ok (.ireturn, 1) := by decide +kernel
set_option maxRecDepth 20000 in
theorem ggX9_plain_X9_in : GoodIn wsX9_plain wsX9_in := goodIn_r _ [8] (by decide +kernel) (by decide +kernel)
set_option maxRecDepth 20000 in
theorem gX9_plain_X9_in : GoodIn wsX9_plain (va_wsS RX9 56 yX9_in wsX9_in) := goodIn_app (goodIn_of _ (by decide +kernel)) ggX9_plain_X9_in
theorem dX9_plain_0 : decode cX9_plain 0 = .ok (.iload_n 1, 1) := by decide +kernel
theorem dX9_plain_1 : decode cX9_plain 1 = .ok (.i2l, 1) := by decide +kernel
theorem dX9_plain_2 : decode cX9_plain 2 = .ok (.lconst 0, 1) := by decide +kernel
theorem dX9_plain_3 : decode cX9_plain 3 = .ok (.ldc2_w 284, 3) := by decide +kernel
theorem dX9_plain_6 : decode cX9_plain 6 = .ok (.invokestatic 56, 3) := by decide +kernel
theorem dX9_plain_9 : decode cX9_plain 9 = .ok (.ifCond .eq 15, 3) := by decide +kernel
theorem dX9_plain_12 : decode cX9_plain 12 = .ok (.iload_n 2, 1) := by decide +kernel
theorem dX9_plain_13 : decode cX9_plain 13 = .ok (.i2l, 1) := by decide +kernel
theorem dX9_plain_14 : decode cX9_plain 14 = .ok (.lconst 0, 1) := by decide +kernel
theorem dX9_plain_15 : decode cX9_plain 15 = .ok (.ldc2_w 286, 3) := by decide +kernel
theorem dX9_plain_18 : decode cX9_plain 18 = .ok (.invokestatic 56, 3) := by decide +kernel
theorem dX9_plain_21 : decode cX9_plain 21 = .ok (.ifCond .ne 6, 3) := by decide +kernel
theorem dX9_plain_24 : decode cX9_plain 24 = .ok (.ldc 60, 2) := by decide +kernel
theorem dX9_plain_26 : decode cX9_plain 26 = .ok (.ireturn, 1) := by decide +kernel
theorem dX9_plain_27 : decode cX9_plain 27 = .ok (.ldc2_w 288, 3) := by decide +kernel
theorem dX9_plain_30 : decode cX9_plain 30 = .ok (.lstore_n 3, 1) := by decide +kernel
theorem dX9_plain_31 : decode cX9_plain 31 = .ok (.iconst 0, 1) := by decide +kernel
theorem dX9_plain_32 : decode cX9_plain 32 = .ok (.istore 5, 2) := by decide +kernel
theorem dX9_plain_34 : decode cX9_plain 34 = .ok (.iload 5, 2) := by decide +kernel
theorem dX9_plain_36 : decode cX9_plain 36 = .ok (.iload_n 1, 1) := by decide +kernel
theorem dX9_plain_37 : decode cX9_plain 37 = .ok (.if_icmp .ge 18, 3) := by decide +kernel
theorem dX9_plain_40 : decode cX9_plain 40 = .ok (.lload_n 3, 1) := by decide +kernel
theorem dX9_plain_41 : decode cX9_plain 41 = .ok (.iload_n 2, 1) := by decide +kernel
theorem dX9_plain_42 : decode cX9_plain 42 = .ok (.i2l, 1) := by decide +kernel
theorem dX9_plain_43 : decode cX9_plain 43 = .ok (.lmul, 1) := by decide +kernel
theorem dX9_plain_44 : decode cX9_plain 44 = .ok (.ldc2_w 286, 3) := by decide +kernel
theorem dX9_plain_47 : decode cX9_plain 47 = .ok (.ldiv, 1) := by decide +kernel
theorem dX9_plain_48 : decode cX9_plain 48 = .ok (.lstore_n 3, 1) := by decide +kernel
theorem dX9_plain_49 : decode cX9_plain 49 = .ok (.iinc 5 1, 3) := by decide +kernel
theorem dX9_plain_52 : decode cX9_plain 52 = .ok (.goto (-18), 3) := by decide +kernel
theorem dX9_plain_55 : decode cX9_plain 55 = .ok (.lload_n 3, 1) := by decide +kernel
theorem dX9_plain_56 : decode cX9_plain 56 = .ok (.l2i, 1) := by decide +kernel
theorem dX9_plain_57 : decode cX9_plain 57 = .ok (.ireturn, 1) := by decide +kernel
set_option maxRecDepth 20000 in
theorem ggX9_see_X9_isCard : GoodIn wsX9_see wsX9_isCard := goodIn_r _ [13, 14, 15, 16, 12, 17, 23, 24, 25, 26, 27, 28, 29, 30, 31, 32, 33, 34, 35, 36, 37, 38, 39, 40, 41, 42, 43, 44, 45, 46, 47, 48, 49] (by decide +kernel) (by decide +kernel)
set_option maxRecDepth 20000 in
theorem gX9_see_X9_isCard : GoodIn wsX9_see (wsV RX9 180 RX9 yX9_isCard wsX9_isCard) := goodIn_app (goodIn_of _ (by decide +kernel)) ggX9_see_X9_isCard
set_option maxRecDepth 20000 in
theorem ggX9_see_X9_isColour : GoodIn wsX9_see wsX9_isColour := goodIn_r _ [21, 22, 15, 16, 12, 17, 23, 24, 25, 26, 27, 28, 29, 30, 31, 32, 33, 34, 35, 36, 37, 38, 39, 40, 41, 42, 43, 44, 45, 46, 47, 48, 49] (by decide +kernel) (by decide +kernel)
set_option maxRecDepth 20000 in
theorem gX9_see_X9_isColour : GoodIn wsX9_see (wsV RX9 190 RX9 yX9_isColour wsX9_isColour) := goodIn_app (goodIn_of _ (by decide +kernel)) ggX9_see_X9_isColour
set_option maxRecDepth 20000 in
theorem ggX9_see_X9_in : GoodIn wsX9_see wsX9_in := goodIn_r _ [17] (by decide +kernel) (by decide +kernel)
set_option maxRecDepth 20000 in
theorem gX9_see_X9_in : GoodIn wsX9_see (va_wsS RX9 56 yX9_in wsX9_in) := goodIn_app (goodIn_of _ (by decide +kernel)) ggX9_see_X9_in
theorem dX9_see_0 : decode cX9_see 0 = .ok (.aload_n 0, 1) := by decide +kernel
theorem dX9_see_1 : decode cX9_see 1 = .ok (.iload_n 1, 1) := by decide +kernel
theorem dX9_see_2 : decode cX9_see 2 = .ok (.invokevirtual 180, 3) := by decide +kernel
theorem dX9_see_5 : decode cX9_see 5 = .ok (.ifCond .eq 11, 3) := by decide +kernel
theorem dX9_see_8 : decode cX9_see 8 = .ok (.aload_n 0, 1) := by decide +kernel
theorem dX9_see_9 : decode cX9_see 9 = .ok (.iload_n 3, 1) := by decide +kernel
theorem dX9_see_10 : decode cX9_see 10 = .ok (.invokevirtual 190, 3) := by decide +kernel
theorem dX9_see_13 : decode cX9_see 13 = .ok (.ifCond .ne 6, 3) := by decide +kernel
theorem dX9_see_16 : decode cX9_see 16 = .ok (.ldc 183, 2) := by decide +kernel
theorem dX9_see_18 : decode cX9_see 18 = .ok (.ireturn, 1) := by decide +kernel
theorem dX9_see_19 : decode cX9_see 19 = .ok (.iload_n 2, 1) := by decide +kernel
theorem dX9_see_20 : decode cX9_see 20 = .ok (.i2l, 1) := by decide +kernel
theorem dX9_see_21 : decode cX9_see 21 = .ok (.lconst 1, 1) := by decide +kernel
theorem dX9_see_22 : decode cX9_see 22 = .ok (.ldc2_w 255, 3) := by decide +kernel
theorem dX9_see_25 : decode cX9_see 25 = .ok (.invokestatic 56, 3) := by decide +kernel
theorem dX9_see_28 : decode cX9_see 28 = .ok (.ifCond .ne 6, 3) := by decide +kernel
theorem dX9_see_31 : decode cX9_see 31 = .ok (.ldc 60, 2) := by decide +kernel
theorem dX9_see_33 : decode cX9_see 33 = .ok (.ireturn, 1) := by decide +kernel
theorem dX9_see_34 : decode cX9_see 34 = .ok (.aload_n 0, 1) := by decide +kernel
theorem dX9_see_35 : decode cX9_see 35 = .ok (.getfield 131, 3) := by decide +kernel
theorem dX9_see_38 : decode cX9_see 38 = .ok (.bipush 8, 2) := by decide +kernel
theorem dX9_see_40 : decode cX9_see 40 = .ok (.if_icmp .ne 6, 3) := by decide +kernel
theorem dX9_see_43 : decode cX9_see 43 = .ok (.ldc 64, 2) := by decide +kernel
theorem dX9_see_45 : decode cX9_see 45 = .ok (.ireturn, 1) := by decide +kernel
theorem dX9_see_46 : decode cX9_see 46 = .ok (.aload_n 0, 1) := by decide +kernel
theorem dX9_see_47 : decode cX9_see 47 = .ok (.getfield 39, 3) := by decide +kernel
theorem dX9_see_50 : decode cX9_see 50 = .ok (.aload_n 0, 1) := by decide +kernel
theorem dX9_see_51 : decode cX9_see 51 = .ok (.getfield 131, 3) := by decide +kernel
theorem dX9_see_54 : decode cX9_see 54 = .ok (.iload_n 1, 1) := by decide +kernel
theorem dX9_see_55 : decode cX9_see 55 = .ok (.iastore, 1) := by decide +kernel
theorem dX9_see_56 : decode cX9_see 56 = .ok (.aload_n 0, 1) := by decide +kernel
theorem dX9_see_57 : decode cX9_see 57 = .ok (.getfield 42, 3) := by decide +kernel
theorem dX9_see_60 : decode cX9_see 60 = .ok (.aload_n 0, 1) := by decide +kernel
theorem dX9_see_61 : decode cX9_see 61 = .ok (.getfield 131, 3) := by decide +kernel
theorem dX9_see_64 : decode cX9_see 64 = .ok (.iload_n 2, 1) := by decide +kernel
theorem dX9_see_65 : decode cX9_see 65 = .ok (.iastore, 1) := by decide +kernel
theorem dX9_see_66 : decode cX9_see 66 = .ok (.aload_n 0, 1) := by decide +kernel
theorem dX9_see_67 : decode cX9_see 67 = .ok (.getfield 45, 3) := by decide +kernel
theorem dX9_see_70 : decode cX9_see 70 = .ok (.aload_n 0, 1) := by decide +kernel
theorem dX9_see_71 : decode cX9_see 71 = .ok (.getfield 131, 3) := by decide +kernel
theorem dX9_see_74 : decode cX9_see 74 = .ok (.iload_n 3, 1) := by decide +kernel
theorem dX9_see_75 : decode cX9_see 75 = .ok (.iastore, 1) := by decide +kernel
theorem dX9_see_76 : decode cX9_see 76 = .ok (.aload_n 0, 1) := by decide +kernel
theorem dX9_see_77 : decode cX9_see 77 = .ok (.dup, 1) := by decide +kernel
theorem dX9_see_78 : decode cX9_see 78 = .ok (.getfield 131, 3) := by decide +kernel
theorem dX9_see_81 : decode cX9_see 81 = .ok (.iconst 1, 1) := by decide +kernel
theorem dX9_see_82 : decode cX9_see 82 = .ok (.iadd, 1) := by decide +kernel
theorem dX9_see_83 : decode cX9_see 83 = .ok (.putfield 131, 3) := by decide +kernel
theorem dX9_see_86 : decode cX9_see 86 = .ok (.aload_n 0, 1) := by decide +kernel
theorem dX9_see_87 : decode cX9_see 87 = .ok (.getfield 131, 3) := by decide +kernel
theorem dX9_see_90 : decode cX9_see 90 = .ok (.ireturn, 1) := by decide +kernel
set_option maxRecDepth 20000 in
theorem ggX9_holesOf_X9_colourOf : GoodIn wsX9_holesOf wsX9_colourOf := goodIn_r _ [9, 10, 14, 15, 16, 17, 18, 19, 20, 21, 22, 23, 24, 25, 26, 27, 28, 29, 30, 31, 32, 33, 34, 35, 36, 37, 38, 39, 40] (by decide +kernel) (by decide +kernel)
set_option maxRecDepth 20000 in
theorem gX9_holesOf_X9_colourOf : GoodIn wsX9_holesOf (wsV RX9 184 RX9 yX9_colourOf wsX9_colourOf) := goodIn_app (goodIn_of _ (by decide +kernel)) ggX9_holesOf_X9_colourOf
set_option maxRecDepth 20000 in
theorem ggX9_holesOf_X9_one : GoodIn wsX9_holesOf wsX9_one := goodIn_r _ [13] (by decide +kernel) (by decide +kernel)
set_option maxRecDepth 20000 in
theorem gX9_holesOf_X9_one : GoodIn wsX9_holesOf (va_wsS RX9 147 yX9_one wsX9_one) := goodIn_app (goodIn_of _ (by decide +kernel)) ggX9_holesOf_X9_one
theorem dX9_holesOf_0 : decode cX9_holesOf 0 = .ok (.iconst 0, 1) := by decide +kernel
theorem dX9_holesOf_1 : decode cX9_holesOf 1 = .ok (.istore_n 2, 1) := by decide +kernel
theorem dX9_holesOf_2 : decode cX9_holesOf 2 = .ok (.iconst 0, 1) := by decide +kernel
theorem dX9_holesOf_3 : decode cX9_holesOf 3 = .ok (.istore_n 3, 1) := by decide +kernel
theorem dX9_holesOf_4 : decode cX9_holesOf 4 = .ok (.iload_n 3, 1) := by decide +kernel
theorem dX9_holesOf_5 : decode cX9_holesOf 5 = .ok (.iconst 4, 1) := by decide +kernel
theorem dX9_holesOf_6 : decode cX9_holesOf 6 = .ok (.if_icmp .ge 89, 3) := by decide +kernel
theorem dX9_holesOf_9 : decode cX9_holesOf 9 = .ok (.iconst 1, 1) := by decide +kernel
theorem dX9_holesOf_10 : decode cX9_holesOf 10 = .ok (.istore 4, 2) := by decide +kernel
theorem dX9_holesOf_12 : decode cX9_holesOf 12 = .ok (.iconst 0, 1) := by decide +kernel
theorem dX9_holesOf_13 : decode cX9_holesOf 13 = .ok (.istore 5, 2) := by decide +kernel
theorem dX9_holesOf_15 : decode cX9_holesOf 15 = .ok (.iload 5, 2) := by decide +kernel
theorem dX9_holesOf_17 : decode cX9_holesOf 17 = .ok (.aload_n 0, 1) := by decide +kernel
theorem dX9_holesOf_18 : decode cX9_holesOf 18 = .ok (.getfield 131, 3) := by decide +kernel
theorem dX9_holesOf_21 : decode cX9_holesOf 21 = .ok (.if_icmp .ge 58, 3) := by decide +kernel
theorem dX9_holesOf_24 : decode cX9_holesOf 24 = .ok (.iload 4, 2) := by decide +kernel
theorem dX9_holesOf_26 : decode cX9_holesOf 26 = .ok (.ifCond .eq 44, 3) := by decide +kernel
theorem dX9_holesOf_29 : decode cX9_holesOf 29 = .ok (.aload_n 0, 1) := by decide +kernel
theorem dX9_holesOf_30 : decode cX9_holesOf 30 = .ok (.getfield 39, 3) := by decide +kernel
theorem dX9_holesOf_33 : decode cX9_holesOf 33 = .ok (.iload 5, 2) := by decide +kernel
theorem dX9_holesOf_35 : decode cX9_holesOf 35 = .ok (.iaload, 1) := by decide +kernel
theorem dX9_holesOf_36 : decode cX9_holesOf 36 = .ok (.iload_n 1, 1) := by decide +kernel
theorem dX9_holesOf_37 : decode cX9_holesOf 37 = .ok (.if_icmp .ne 29, 3) := by decide +kernel
theorem dX9_holesOf_40 : decode cX9_holesOf 40 = .ok (.aload_n 0, 1) := by decide +kernel
theorem dX9_holesOf_41 : decode cX9_holesOf 41 = .ok (.iload_n 1, 1) := by decide +kernel
theorem dX9_holesOf_42 : decode cX9_holesOf 42 = .ok (.iload_n 3, 1) := by decide +kernel
theorem dX9_holesOf_43 : decode cX9_holesOf 43 = .ok (.aload_n 0, 1) := by decide +kernel
theorem dX9_holesOf_44 : decode cX9_holesOf 44 = .ok (.getfield 42, 3) := by decide +kernel
theorem dX9_holesOf_47 : decode cX9_holesOf 47 = .ok (.iload 5, 2) := by decide +kernel
theorem dX9_holesOf_49 : decode cX9_holesOf 49 = .ok (.iaload, 1) := by decide +kernel
theorem dX9_holesOf_50 : decode cX9_holesOf 50 = .ok (.iadd, 1) := by decide +kernel
theorem dX9_holesOf_51 : decode cX9_holesOf 51 = .ok (.iconst 1, 1) := by decide +kernel
theorem dX9_holesOf_52 : decode cX9_holesOf 52 = .ok (.isub, 1) := by decide +kernel
theorem dX9_holesOf_53 : decode cX9_holesOf 53 = .ok (.invokevirtual 184, 3) := by decide +kernel
theorem dX9_holesOf_56 : decode cX9_holesOf 56 = .ok (.aload_n 0, 1) := by decide +kernel
theorem dX9_holesOf_57 : decode cX9_holesOf 57 = .ok (.getfield 45, 3) := by decide +kernel
theorem dX9_holesOf_60 : decode cX9_holesOf 60 = .ok (.iload 5, 2) := by decide +kernel
theorem dX9_holesOf_62 : decode cX9_holesOf 62 = .ok (.iaload, 1) := by decide +kernel
theorem dX9_holesOf_63 : decode cX9_holesOf 63 = .ok (.if_icmp .ne 7, 3) := by decide +kernel
theorem dX9_holesOf_66 : decode cX9_holesOf 66 = .ok (.iconst 1, 1) := by decide +kernel
theorem dX9_holesOf_67 : decode cX9_holesOf 67 = .ok (.goto 4, 3) := by decide +kernel
theorem dX9_holesOf_70 : decode cX9_holesOf 70 = .ok (.iconst 0, 1) := by decide +kernel
theorem dX9_holesOf_71 : decode cX9_holesOf 71 = .ok (.istore 4, 2) := by decide +kernel
theorem dX9_holesOf_73 : decode cX9_holesOf 73 = .ok (.iinc 5 1, 3) := by decide +kernel
theorem dX9_holesOf_76 : decode cX9_holesOf 76 = .ok (.goto (-61), 3) := by decide +kernel
theorem dX9_holesOf_79 : decode cX9_holesOf 79 = .ok (.iload_n 2, 1) := by decide +kernel
theorem dX9_holesOf_80 : decode cX9_holesOf 80 = .ok (.iload 4, 2) := by decide +kernel
theorem dX9_holesOf_82 : decode cX9_holesOf 82 = .ok (.invokestatic 147, 3) := by decide +kernel
theorem dX9_holesOf_85 : decode cX9_holesOf 85 = .ok (.iload_n 3, 1) := by decide +kernel
theorem dX9_holesOf_86 : decode cX9_holesOf 86 = .ok (.ishl, 1) := by decide +kernel
theorem dX9_holesOf_87 : decode cX9_holesOf 87 = .ok (.ior, 1) := by decide +kernel
theorem dX9_holesOf_88 : decode cX9_holesOf 88 = .ok (.istore_n 2, 1) := by decide +kernel
theorem dX9_holesOf_89 : decode cX9_holesOf 89 = .ok (.iinc 3 1, 3) := by decide +kernel
theorem dX9_holesOf_92 : decode cX9_holesOf 92 = .ok (.goto (-88), 3) := by decide +kernel
theorem dX9_holesOf_95 : decode cX9_holesOf 95 = .ok (.iload_n 2, 1) := by decide +kernel
theorem dX9_holesOf_96 : decode cX9_holesOf 96 = .ok (.ireturn, 1) := by decide +kernel
set_option maxRecDepth 20000 in
theorem ggX9_holes_X9_isCard : GoodIn wsX9_holes wsX9_isCard := goodIn_r _ [6, 7, 8, 9, 5, 10, 27, 28, 29, 30, 31, 32, 33, 34, 35, 36, 37, 38, 39, 40, 41, 42, 43, 44, 45, 46, 47, 48, 49, 50, 51, 52, 53] (by decide +kernel) (by decide +kernel)
set_option maxRecDepth 20000 in
theorem gX9_holes_X9_isCard : GoodIn wsX9_holes (wsV RX9 180 RX9 yX9_isCard wsX9_isCard) := goodIn_app (goodIn_of _ (by decide +kernel)) ggX9_holes_X9_isCard
set_option maxRecDepth 20000 in
theorem ggX9_holes_X9_holesOf : GoodIn wsX9_holes wsX9_holesOf := goodIn_r _ [14, 15, 16, 17, 18, 19, 20, 21, 5, 22, 23, 24, 25, 26, 27, 28, 29, 30, 31, 32, 33, 34, 35, 36, 37, 38, 39, 40, 41, 42, 43, 44, 45, 46, 47, 48, 49, 50, 51, 52, 53] (by decide +kernel) (by decide +kernel)
set_option maxRecDepth 20000 in
theorem gX9_holes_X9_holesOf : GoodIn wsX9_holes (wsV RX9 290 RX9 yX9_holesOf wsX9_holesOf) := goodIn_app (goodIn_of _ (by decide +kernel)) ggX9_holes_X9_holesOf
theorem dX9_holes_0 : decode cX9_holes 0 = .ok (.aload_n 0, 1) := by decide +kernel
theorem dX9_holes_1 : decode cX9_holes 1 = .ok (.iload_n 1, 1) := by decide +kernel
theorem dX9_holes_2 : decode cX9_holes 2 = .ok (.invokevirtual 180, 3) := by decide +kernel
theorem dX9_holes_5 : decode cX9_holes 5 = .ok (.ifCond .eq 11, 3) := by decide +kernel
theorem dX9_holes_8 : decode cX9_holes 8 = .ok (.aload_n 0, 1) := by decide +kernel
theorem dX9_holes_9 : decode cX9_holes 9 = .ok (.iload_n 1, 1) := by decide +kernel
theorem dX9_holes_10 : decode cX9_holes 10 = .ok (.invokevirtual 290, 3) := by decide +kernel
theorem dX9_holes_13 : decode cX9_holes 13 = .ok (.goto 5, 3) := by decide +kernel
theorem dX9_holes_16 : decode cX9_holes 16 = .ok (.ldc 183, 2) := by decide +kernel
theorem dX9_holes_18 : decode cX9_holes 18 = .ok (.ireturn, 1) := by decide +kernel
set_option maxRecDepth 20000 in
theorem ggX9_greatestPart_X9_has : GoodIn wsX9_greatestPart wsX9_has := goodIn_r _ [5] (by decide +kernel) (by decide +kernel)
set_option maxRecDepth 20000 in
theorem gX9_greatestPart_X9_has : GoodIn wsX9_greatestPart (va_wsS RX9 140 yX9_has wsX9_has) := goodIn_app (goodIn_of _ (by decide +kernel)) ggX9_greatestPart_X9_has
set_option maxRecDepth 20000 in
theorem ggX9_greatestPart_X9_colourOf : GoodIn wsX9_greatestPart wsX9_colourOf := goodIn_r _ [9, 10, 17, 18, 19, 20, 21, 22, 23, 24, 25, 26, 27, 28, 29, 30, 31, 32, 33, 34, 35, 36, 37, 38, 39, 40, 41, 42, 43] (by decide +kernel) (by decide +kernel)
set_option maxRecDepth 20000 in
theorem gX9_greatestPart_X9_colourOf : GoodIn wsX9_greatestPart (wsV RX9 184 RX9 yX9_colourOf wsX9_colourOf) := goodIn_app (goodIn_of _ (by decide +kernel)) ggX9_greatestPart_X9_colourOf
set_option maxRecDepth 20000 in
theorem ggX9_greatestPart_X9_one : GoodIn wsX9_greatestPart wsX9_one := goodIn_r _ [13] (by decide +kernel) (by decide +kernel)
set_option maxRecDepth 20000 in
theorem gX9_greatestPart_X9_one : GoodIn wsX9_greatestPart (va_wsS RX9 147 yX9_one wsX9_one) := goodIn_app (goodIn_of _ (by decide +kernel)) ggX9_greatestPart_X9_one
set_option maxRecDepth 20000 in
theorem ggX9_greatestPart_X9_most : GoodIn wsX9_greatestPart wsX9_most := goodIn_r _ [16] (by decide +kernel) (by decide +kernel)
set_option maxRecDepth 20000 in
theorem gX9_greatestPart_X9_most : GoodIn wsX9_greatestPart (va_wsS RX9 155 yX9_most wsX9_most) := goodIn_app (goodIn_of _ (by decide +kernel)) ggX9_greatestPart_X9_most
theorem dX9_greatestPart_0 : decode cX9_greatestPart 0 = .ok (.iconst 0, 1) := by decide +kernel
theorem dX9_greatestPart_1 : decode cX9_greatestPart 1 = .ok (.istore 4, 2) := by decide +kernel
theorem dX9_greatestPart_3 : decode cX9_greatestPart 3 = .ok (.iconst 0, 1) := by decide +kernel
theorem dX9_greatestPart_4 : decode cX9_greatestPart 4 = .ok (.istore 5, 2) := by decide +kernel
theorem dX9_greatestPart_6 : decode cX9_greatestPart 6 = .ok (.iload 5, 2) := by decide +kernel
theorem dX9_greatestPart_8 : decode cX9_greatestPart 8 = .ok (.aload_n 0, 1) := by decide +kernel
theorem dX9_greatestPart_9 : decode cX9_greatestPart 9 = .ok (.getfield 125, 3) := by decide +kernel
theorem dX9_greatestPart_12 : decode cX9_greatestPart 12 = .ok (.if_icmp .ge 74, 3) := by decide +kernel
theorem dX9_greatestPart_15 : decode cX9_greatestPart 15 = .ok (.iconst 0, 1) := by decide +kernel
theorem dX9_greatestPart_16 : decode cX9_greatestPart 16 = .ok (.istore 6, 2) := by decide +kernel
theorem dX9_greatestPart_18 : decode cX9_greatestPart 18 = .ok (.iconst 0, 1) := by decide +kernel
theorem dX9_greatestPart_19 : decode cX9_greatestPart 19 = .ok (.istore 7, 2) := by decide +kernel
theorem dX9_greatestPart_21 : decode cX9_greatestPart 21 = .ok (.iload 7, 2) := by decide +kernel
theorem dX9_greatestPart_23 : decode cX9_greatestPart 23 = .ok (.iconst 4, 1) := by decide +kernel
theorem dX9_greatestPart_24 : decode cX9_greatestPart 24 = .ok (.if_icmp .ge 47, 3) := by decide +kernel
theorem dX9_greatestPart_27 : decode cX9_greatestPart 27 = .ok (.iload 6, 2) := by decide +kernel
theorem dX9_greatestPart_29 : decode cX9_greatestPart 29 = .ok (.iload_n 3, 1) := by decide +kernel
theorem dX9_greatestPart_30 : decode cX9_greatestPart 30 = .ok (.iload 7, 2) := by decide +kernel
theorem dX9_greatestPart_32 : decode cX9_greatestPart 32 = .ok (.invokestatic 140, 3) := by decide +kernel
theorem dX9_greatestPart_35 : decode cX9_greatestPart 35 = .ok (.ifCond .eq 23, 3) := by decide +kernel
theorem dX9_greatestPart_38 : decode cX9_greatestPart 38 = .ok (.aload_n 0, 1) := by decide +kernel
theorem dX9_greatestPart_39 : decode cX9_greatestPart 39 = .ok (.iload_n 1, 1) := by decide +kernel
theorem dX9_greatestPart_40 : decode cX9_greatestPart 40 = .ok (.iload 7, 2) := by decide +kernel
theorem dX9_greatestPart_42 : decode cX9_greatestPart 42 = .ok (.iload_n 2, 1) := by decide +kernel
theorem dX9_greatestPart_43 : decode cX9_greatestPart 43 = .ok (.iadd, 1) := by decide +kernel
theorem dX9_greatestPart_44 : decode cX9_greatestPart 44 = .ok (.iconst 1, 1) := by decide +kernel
theorem dX9_greatestPart_45 : decode cX9_greatestPart 45 = .ok (.isub, 1) := by decide +kernel
theorem dX9_greatestPart_46 : decode cX9_greatestPart 46 = .ok (.invokevirtual 184, 3) := by decide +kernel
theorem dX9_greatestPart_49 : decode cX9_greatestPart 49 = .ok (.iload 5, 2) := by decide +kernel
theorem dX9_greatestPart_51 : decode cX9_greatestPart 51 = .ok (.if_icmp .ne 7, 3) := by decide +kernel
theorem dX9_greatestPart_54 : decode cX9_greatestPart 54 = .ok (.iconst 1, 1) := by decide +kernel
theorem dX9_greatestPart_55 : decode cX9_greatestPart 55 = .ok (.goto 4, 3) := by decide +kernel
theorem dX9_greatestPart_58 : decode cX9_greatestPart 58 = .ok (.iconst 0, 1) := by decide +kernel
theorem dX9_greatestPart_59 : decode cX9_greatestPart 59 = .ok (.invokestatic 147, 3) := by decide +kernel
theorem dX9_greatestPart_62 : decode cX9_greatestPart 62 = .ok (.iadd, 1) := by decide +kernel
theorem dX9_greatestPart_63 : decode cX9_greatestPart 63 = .ok (.istore 6, 2) := by decide +kernel
theorem dX9_greatestPart_65 : decode cX9_greatestPart 65 = .ok (.iinc 7 1, 3) := by decide +kernel
theorem dX9_greatestPart_68 : decode cX9_greatestPart 68 = .ok (.goto (-47), 3) := by decide +kernel
theorem dX9_greatestPart_71 : decode cX9_greatestPart 71 = .ok (.iload 6, 2) := by decide +kernel
theorem dX9_greatestPart_73 : decode cX9_greatestPart 73 = .ok (.iload 4, 2) := by decide +kernel
theorem dX9_greatestPart_75 : decode cX9_greatestPart 75 = .ok (.invokestatic 155, 3) := by decide +kernel
theorem dX9_greatestPart_78 : decode cX9_greatestPart 78 = .ok (.istore 4, 2) := by decide +kernel
theorem dX9_greatestPart_80 : decode cX9_greatestPart 80 = .ok (.iinc 5 1, 3) := by decide +kernel
theorem dX9_greatestPart_83 : decode cX9_greatestPart 83 = .ok (.goto (-77), 3) := by decide +kernel
theorem dX9_greatestPart_86 : decode cX9_greatestPart 86 = .ok (.iload 4, 2) := by decide +kernel
theorem dX9_greatestPart_88 : decode cX9_greatestPart 88 = .ok (.ireturn, 1) := by decide +kernel
set_option maxRecDepth 20000 in
theorem ggX9_lookAt_X9_isCard : GoodIn wsX9_lookAt wsX9_isCard := goodIn_r _ [6, 7, 8, 9, 5, 10, 41, 42, 43, 44, 45, 46, 47, 48, 49, 50, 51, 52, 53, 54, 55, 56, 57, 58, 59, 60, 61, 62, 63, 64, 65, 66, 67] (by decide +kernel) (by decide +kernel)
set_option maxRecDepth 20000 in
theorem gX9_lookAt_X9_isCard : GoodIn wsX9_lookAt (wsV RX9 180 RX9 yX9_isCard wsX9_isCard) := goodIn_app (goodIn_of _ (by decide +kernel)) ggX9_lookAt_X9_isCard
set_option maxRecDepth 20000 in
theorem ggX9_lookAt_X9_holesOf : GoodIn wsX9_lookAt wsX9_holesOf := goodIn_r _ [14, 15, 16, 17, 18, 19, 20, 21, 5, 22, 23, 24, 25, 26, 41, 42, 43, 44, 45, 46, 47, 48, 49, 50, 51, 52, 53, 54, 55, 56, 57, 58, 59, 60, 61, 62, 63, 64, 65, 66, 67] (by decide +kernel) (by decide +kernel)
set_option maxRecDepth 20000 in
theorem gX9_lookAt_X9_holesOf : GoodIn wsX9_lookAt (wsV RX9 290 RX9 yX9_holesOf wsX9_holesOf) := goodIn_app (goodIn_of _ (by decide +kernel)) ggX9_lookAt_X9_holesOf
set_option maxRecDepth 20000 in
theorem ggX9_lookAt_X9_greatestPart : GoodIn wsX9_lookAt wsX9_greatestPart := goodIn_r _ [30, 31, 32, 33, 5, 34, 19, 20, 21, 22, 23, 24, 25, 26, 35, 36, 37, 41, 42, 43, 44, 45, 46, 47, 48, 49, 50, 51, 52, 53, 54, 55, 56, 57, 58, 59, 60, 61, 62, 63, 64, 65, 66, 67] (by decide +kernel) (by decide +kernel)
set_option maxRecDepth 20000 in
theorem gX9_lookAt_X9_greatestPart : GoodIn wsX9_lookAt (wsV RX9 293 RX9 yX9_greatestPart wsX9_greatestPart) := goodIn_app (goodIn_of _ (by decide +kernel)) ggX9_lookAt_X9_greatestPart
set_option maxRecDepth 20000 in
theorem ggX9_lookAt_X9_least : GoodIn wsX9_lookAt wsX9_least := goodIn_r _ [40] (by decide +kernel) (by decide +kernel)
set_option maxRecDepth 20000 in
theorem gX9_lookAt_X9_least : GoodIn wsX9_lookAt (va_wsS RX9 239 yX9_least wsX9_least) := goodIn_app (goodIn_of _ (by decide +kernel)) ggX9_lookAt_X9_least
theorem dX9_lookAt_0 : decode cX9_lookAt 0 = .ok (.aload_n 0, 1) := by decide +kernel
theorem dX9_lookAt_1 : decode cX9_lookAt 1 = .ok (.iload_n 1, 1) := by decide +kernel
theorem dX9_lookAt_2 : decode cX9_lookAt 2 = .ok (.invokevirtual 180, 3) := by decide +kernel
theorem dX9_lookAt_5 : decode cX9_lookAt 5 = .ok (.ifCond .ne 6, 3) := by decide +kernel
theorem dX9_lookAt_8 : decode cX9_lookAt 8 = .ok (.ldc 183, 2) := by decide +kernel
theorem dX9_lookAt_10 : decode cX9_lookAt 10 = .ok (.ireturn, 1) := by decide +kernel
theorem dX9_lookAt_11 : decode cX9_lookAt 11 = .ok (.aload_n 0, 1) := by decide +kernel
theorem dX9_lookAt_12 : decode cX9_lookAt 12 = .ok (.iload_n 1, 1) := by decide +kernel
theorem dX9_lookAt_13 : decode cX9_lookAt 13 = .ok (.invokevirtual 290, 3) := by decide +kernel
theorem dX9_lookAt_16 : decode cX9_lookAt 16 = .ok (.istore_n 2, 1) := by decide +kernel
theorem dX9_lookAt_17 : decode cX9_lookAt 17 = .ok (.iconst 0, 1) := by decide +kernel
theorem dX9_lookAt_18 : decode cX9_lookAt 18 = .ok (.istore_n 3, 1) := by decide +kernel
theorem dX9_lookAt_19 : decode cX9_lookAt 19 = .ok (.iconst 0, 1) := by decide +kernel
theorem dX9_lookAt_20 : decode cX9_lookAt 20 = .ok (.istore 4, 2) := by decide +kernel
theorem dX9_lookAt_22 : decode cX9_lookAt 22 = .ok (.iload 4, 2) := by decide +kernel
theorem dX9_lookAt_24 : decode cX9_lookAt 24 = .ok (.iconst 4, 1) := by decide +kernel
theorem dX9_lookAt_25 : decode cX9_lookAt 25 = .ok (.if_icmp .ge 18, 3) := by decide +kernel
theorem dX9_lookAt_28 : decode cX9_lookAt 28 = .ok (.iload_n 3, 1) := by decide +kernel
theorem dX9_lookAt_29 : decode cX9_lookAt 29 = .ok (.iload_n 2, 1) := by decide +kernel
theorem dX9_lookAt_30 : decode cX9_lookAt 30 = .ok (.iload 4, 2) := by decide +kernel
theorem dX9_lookAt_32 : decode cX9_lookAt 32 = .ok (.ishr, 1) := by decide +kernel
theorem dX9_lookAt_33 : decode cX9_lookAt 33 = .ok (.iconst 1, 1) := by decide +kernel
theorem dX9_lookAt_34 : decode cX9_lookAt 34 = .ok (.iand, 1) := by decide +kernel
theorem dX9_lookAt_35 : decode cX9_lookAt 35 = .ok (.iadd, 1) := by decide +kernel
theorem dX9_lookAt_36 : decode cX9_lookAt 36 = .ok (.istore_n 3, 1) := by decide +kernel
theorem dX9_lookAt_37 : decode cX9_lookAt 37 = .ok (.iinc 4 1, 3) := by decide +kernel
theorem dX9_lookAt_40 : decode cX9_lookAt 40 = .ok (.goto (-18), 3) := by decide +kernel
theorem dX9_lookAt_43 : decode cX9_lookAt 43 = .ok (.iconst (-1), 1) := by decide +kernel
theorem dX9_lookAt_44 : decode cX9_lookAt 44 = .ok (.istore 4, 2) := by decide +kernel
theorem dX9_lookAt_46 : decode cX9_lookAt 46 = .ok (.iconst 1, 1) := by decide +kernel
theorem dX9_lookAt_47 : decode cX9_lookAt 47 = .ok (.istore 5, 2) := by decide +kernel
theorem dX9_lookAt_49 : decode cX9_lookAt 49 = .ok (.iload 5, 2) := by decide +kernel
theorem dX9_lookAt_51 : decode cX9_lookAt 51 = .ok (.iconst 4, 1) := by decide +kernel
theorem dX9_lookAt_52 : decode cX9_lookAt 52 = .ok (.if_icmp .gt 41, 3) := by decide +kernel
theorem dX9_lookAt_55 : decode cX9_lookAt 55 = .ok (.aload_n 0, 1) := by decide +kernel
theorem dX9_lookAt_56 : decode cX9_lookAt 56 = .ok (.iload_n 1, 1) := by decide +kernel
theorem dX9_lookAt_57 : decode cX9_lookAt 57 = .ok (.iload 5, 2) := by decide +kernel
theorem dX9_lookAt_59 : decode cX9_lookAt 59 = .ok (.iload_n 2, 1) := by decide +kernel
theorem dX9_lookAt_60 : decode cX9_lookAt 60 = .ok (.invokevirtual 293, 3) := by decide +kernel
theorem dX9_lookAt_63 : decode cX9_lookAt 63 = .ok (.istore 6, 2) := by decide +kernel
theorem dX9_lookAt_65 : decode cX9_lookAt 65 = .ok (.iload 6, 2) := by decide +kernel
theorem dX9_lookAt_67 : decode cX9_lookAt 67 = .ok (.iload_n 3, 1) := by decide +kernel
theorem dX9_lookAt_68 : decode cX9_lookAt 68 = .ok (.if_icmp .ge 8, 3) := by decide +kernel
theorem dX9_lookAt_71 : decode cX9_lookAt 71 = .ok (.iload 5, 2) := by decide +kernel
theorem dX9_lookAt_73 : decode cX9_lookAt 73 = .ok (.goto 5, 3) := by decide +kernel
theorem dX9_lookAt_76 : decode cX9_lookAt 76 = .ok (.iload 4, 2) := by decide +kernel
theorem dX9_lookAt_78 : decode cX9_lookAt 78 = .ok (.istore 4, 2) := by decide +kernel
theorem dX9_lookAt_80 : decode cX9_lookAt 80 = .ok (.iload 6, 2) := by decide +kernel
theorem dX9_lookAt_82 : decode cX9_lookAt 82 = .ok (.iload_n 3, 1) := by decide +kernel
theorem dX9_lookAt_83 : decode cX9_lookAt 83 = .ok (.invokestatic 239, 3) := by decide +kernel
theorem dX9_lookAt_86 : decode cX9_lookAt 86 = .ok (.istore_n 3, 1) := by decide +kernel
theorem dX9_lookAt_87 : decode cX9_lookAt 87 = .ok (.iinc 5 1, 3) := by decide +kernel
theorem dX9_lookAt_90 : decode cX9_lookAt 90 = .ok (.goto (-41), 3) := by decide +kernel
theorem dX9_lookAt_93 : decode cX9_lookAt 93 = .ok (.iload 4, 2) := by decide +kernel
theorem dX9_lookAt_95 : decode cX9_lookAt 95 = .ok (.ireturn, 1) := by decide +kernel
set_option maxRecDepth 20000 in
theorem ggX9_write_X9_isCard : GoodIn wsX9_write wsX9_isCard := goodIn_r _ [10, 11, 12, 13, 9, 14, 20, 21, 22, 23, 24, 25, 26, 27, 28, 29, 30, 31, 32, 33, 34, 35, 36, 37, 38, 39, 40, 41, 42, 43, 44, 45, 46] (by decide +kernel) (by decide +kernel)
set_option maxRecDepth 20000 in
theorem gX9_write_X9_isCard : GoodIn wsX9_write (wsV RX9 180 RX9 yX9_isCard wsX9_isCard) := goodIn_app (goodIn_of _ (by decide +kernel)) ggX9_write_X9_isCard
set_option maxRecDepth 20000 in
theorem ggX9_write_X9_isColour : GoodIn wsX9_write wsX9_isColour := goodIn_r _ [18, 19, 12, 13, 9, 14, 20, 21, 22, 23, 24, 25, 26, 27, 28, 29, 30, 31, 32, 33, 34, 35, 36, 37, 38, 39, 40, 41, 42, 43, 44, 45, 46] (by decide +kernel) (by decide +kernel)
set_option maxRecDepth 20000 in
theorem gX9_write_X9_isColour : GoodIn wsX9_write (wsV RX9 190 RX9 yX9_isColour wsX9_isColour) := goodIn_app (goodIn_of _ (by decide +kernel)) ggX9_write_X9_isColour
theorem dX9_write_0 : decode cX9_write 0 = .ok (.aload_n 0, 1) := by decide +kernel
theorem dX9_write_1 : decode cX9_write 1 = .ok (.iload_n 1, 1) := by decide +kernel
theorem dX9_write_2 : decode cX9_write 2 = .ok (.invokevirtual 180, 3) := by decide +kernel
theorem dX9_write_5 : decode cX9_write 5 = .ok (.ifCond .eq 16, 3) := by decide +kernel
theorem dX9_write_8 : decode cX9_write 8 = .ok (.iload_n 2, 1) := by decide +kernel
theorem dX9_write_9 : decode cX9_write 9 = .ok (.iconst (-1), 1) := by decide +kernel
theorem dX9_write_10 : decode cX9_write 10 = .ok (.if_icmp .eq 14, 3) := by decide +kernel
theorem dX9_write_13 : decode cX9_write 13 = .ok (.aload_n 0, 1) := by decide +kernel
theorem dX9_write_14 : decode cX9_write 14 = .ok (.iload_n 2, 1) := by decide +kernel
theorem dX9_write_15 : decode cX9_write 15 = .ok (.invokevirtual 190, 3) := by decide +kernel
theorem dX9_write_18 : decode cX9_write 18 = .ok (.ifCond .ne 6, 3) := by decide +kernel
theorem dX9_write_21 : decode cX9_write 21 = .ok (.ldc 183, 2) := by decide +kernel
theorem dX9_write_23 : decode cX9_write 23 = .ok (.ireturn, 1) := by decide +kernel
theorem dX9_write_24 : decode cX9_write 24 = .ok (.aload_n 0, 1) := by decide +kernel
theorem dX9_write_25 : decode cX9_write 25 = .ok (.getfield 134, 3) := by decide +kernel
theorem dX9_write_28 : decode cX9_write 28 = .ok (.bipush 20, 2) := by decide +kernel
theorem dX9_write_30 : decode cX9_write 30 = .ok (.if_icmp .ne 6, 3) := by decide +kernel
theorem dX9_write_33 : decode cX9_write 33 = .ok (.ldc 64, 2) := by decide +kernel
theorem dX9_write_35 : decode cX9_write 35 = .ok (.ireturn, 1) := by decide +kernel
theorem dX9_write_36 : decode cX9_write 36 = .ok (.aload_n 0, 1) := by decide +kernel
theorem dX9_write_37 : decode cX9_write 37 = .ok (.getfield 48, 3) := by decide +kernel
theorem dX9_write_40 : decode cX9_write 40 = .ok (.aload_n 0, 1) := by decide +kernel
theorem dX9_write_41 : decode cX9_write 41 = .ok (.getfield 134, 3) := by decide +kernel
theorem dX9_write_44 : decode cX9_write 44 = .ok (.iload_n 1, 1) := by decide +kernel
theorem dX9_write_45 : decode cX9_write 45 = .ok (.iastore, 1) := by decide +kernel
theorem dX9_write_46 : decode cX9_write 46 = .ok (.aload_n 0, 1) := by decide +kernel
theorem dX9_write_47 : decode cX9_write 47 = .ok (.getfield 51, 3) := by decide +kernel
theorem dX9_write_50 : decode cX9_write 50 = .ok (.aload_n 0, 1) := by decide +kernel
theorem dX9_write_51 : decode cX9_write 51 = .ok (.getfield 134, 3) := by decide +kernel
theorem dX9_write_54 : decode cX9_write 54 = .ok (.iload_n 2, 1) := by decide +kernel
theorem dX9_write_55 : decode cX9_write 55 = .ok (.iastore, 1) := by decide +kernel
theorem dX9_write_56 : decode cX9_write 56 = .ok (.aload_n 0, 1) := by decide +kernel
theorem dX9_write_57 : decode cX9_write 57 = .ok (.dup, 1) := by decide +kernel
theorem dX9_write_58 : decode cX9_write 58 = .ok (.getfield 134, 3) := by decide +kernel
theorem dX9_write_61 : decode cX9_write 61 = .ok (.iconst 1, 1) := by decide +kernel
theorem dX9_write_62 : decode cX9_write 62 = .ok (.iadd, 1) := by decide +kernel
theorem dX9_write_63 : decode cX9_write 63 = .ok (.putfield 134, 3) := by decide +kernel
theorem dX9_write_66 : decode cX9_write 66 = .ok (.aload_n 0, 1) := by decide +kernel
theorem dX9_write_67 : decode cX9_write 67 = .ok (.getfield 134, 3) := by decide +kernel
theorem dX9_write_70 : decode cX9_write 70 = .ok (.ireturn, 1) := by decide +kernel
theorem dX9_judge_0 : decode cX9_judge 0 = .ok (.iconst 0, 1) := by decide +kernel
theorem dX9_judge_1 : decode cX9_judge 1 = .ok (.istore_n 1, 1) := by decide +kernel
theorem dX9_judge_2 : decode cX9_judge 2 = .ok (.iload_n 1, 1) := by decide +kernel
theorem dX9_judge_3 : decode cX9_judge 3 = .ok (.aload_n 0, 1) := by decide +kernel
theorem dX9_judge_4 : decode cX9_judge 4 = .ok (.getfield 134, 3) := by decide +kernel
theorem dX9_judge_7 : decode cX9_judge 7 = .ok (.if_icmp .ge 34, 3) := by decide +kernel
theorem dX9_judge_10 : decode cX9_judge 10 = .ok (.aload_n 0, 1) := by decide +kernel
theorem dX9_judge_11 : decode cX9_judge 11 = .ok (.getfield 7, 3) := by decide +kernel
theorem dX9_judge_14 : decode cX9_judge 14 = .ok (.bipush 16, 2) := by decide +kernel
theorem dX9_judge_16 : decode cX9_judge 16 = .ok (.aload_n 0, 1) := by decide +kernel
theorem dX9_judge_17 : decode cX9_judge 17 = .ok (.getfield 48, 3) := by decide +kernel
theorem dX9_judge_20 : decode cX9_judge 20 = .ok (.iload_n 1, 1) := by decide +kernel
theorem dX9_judge_21 : decode cX9_judge 21 = .ok (.iaload, 1) := by decide +kernel
theorem dX9_judge_22 : decode cX9_judge 22 = .ok (.iadd, 1) := by decide +kernel
theorem dX9_judge_23 : decode cX9_judge 23 = .ok (.iaload, 1) := by decide +kernel
theorem dX9_judge_24 : decode cX9_judge 24 = .ok (.aload_n 0, 1) := by decide +kernel
theorem dX9_judge_25 : decode cX9_judge 25 = .ok (.getfield 51, 3) := by decide +kernel
theorem dX9_judge_28 : decode cX9_judge 28 = .ok (.iload_n 1, 1) := by decide +kernel
theorem dX9_judge_29 : decode cX9_judge 29 = .ok (.iaload, 1) := by decide +kernel
theorem dX9_judge_30 : decode cX9_judge 30 = .ok (.if_icmp .eq 5, 3) := by decide +kernel
theorem dX9_judge_33 : decode cX9_judge 33 = .ok (.iload_n 1, 1) := by decide +kernel
theorem dX9_judge_34 : decode cX9_judge 34 = .ok (.ireturn, 1) := by decide +kernel
theorem dX9_judge_35 : decode cX9_judge 35 = .ok (.iinc 1 1, 3) := by decide +kernel
theorem dX9_judge_38 : decode cX9_judge 38 = .ok (.goto (-36), 3) := by decide +kernel
theorem dX9_judge_41 : decode cX9_judge 41 = .ok (.iconst (-1), 1) := by decide +kernel
theorem dX9_judge_42 : decode cX9_judge 42 = .ok (.ireturn, 1) := by decide +kernel
theorem dX9_tear_0 : decode cX9_tear 0 = .ok (.aload_n 0, 1) := by decide +kernel
theorem dX9_tear_1 : decode cX9_tear 1 = .ok (.getfield 131, 3) := by decide +kernel
theorem dX9_tear_4 : decode cX9_tear 4 = .ok (.aload_n 0, 1) := by decide +kernel
theorem dX9_tear_5 : decode cX9_tear 5 = .ok (.getfield 134, 3) := by decide +kernel
theorem dX9_tear_8 : decode cX9_tear 8 = .ok (.iadd, 1) := by decide +kernel
theorem dX9_tear_9 : decode cX9_tear 9 = .ok (.istore_n 1, 1) := by decide +kernel
theorem dX9_tear_10 : decode cX9_tear 10 = .ok (.aload_n 0, 1) := by decide +kernel
theorem dX9_tear_11 : decode cX9_tear 11 = .ok (.iconst 0, 1) := by decide +kernel
theorem dX9_tear_12 : decode cX9_tear 12 = .ok (.putfield 131, 3) := by decide +kernel
theorem dX9_tear_15 : decode cX9_tear 15 = .ok (.aload_n 0, 1) := by decide +kernel
theorem dX9_tear_16 : decode cX9_tear 16 = .ok (.iconst 0, 1) := by decide +kernel
theorem dX9_tear_17 : decode cX9_tear 17 = .ok (.putfield 134, 3) := by decide +kernel
theorem dX9_tear_20 : decode cX9_tear 20 = .ok (.iload_n 1, 1) := by decide +kernel
theorem dX9_tear_21 : decode cX9_tear 21 = .ok (.ireturn, 1) := by decide +kernel
theorem dX9_seed_0 : decode cX9_seed 0 = .ok (.iload_n 1, 1) := by decide +kernel
theorem dX9_seed_1 : decode cX9_seed 1 = .ok (.ifCond .ge 6, 3) := by decide +kernel
theorem dX9_seed_4 : decode cX9_seed 4 = .ok (.ldc 60, 2) := by decide +kernel
theorem dX9_seed_6 : decode cX9_seed 6 = .ok (.ireturn, 1) := by decide +kernel
theorem dX9_seed_7 : decode cX9_seed 7 = .ok (.aload_n 0, 1) := by decide +kernel
theorem dX9_seed_8 : decode cX9_seed 8 = .ok (.getfield 7, 3) := by decide +kernel
theorem dX9_seed_11 : decode cX9_seed 11 = .ok (.sipush 242, 3) := by decide +kernel
theorem dX9_seed_14 : decode cX9_seed 14 = .ok (.iaload, 1) := by decide +kernel
theorem dX9_seed_15 : decode cX9_seed 15 = .ok (.istore_n 2, 1) := by decide +kernel
theorem dX9_seed_16 : decode cX9_seed 16 = .ok (.aload_n 0, 1) := by decide +kernel
theorem dX9_seed_17 : decode cX9_seed 17 = .ok (.getfield 7, 3) := by decide +kernel
theorem dX9_seed_20 : decode cX9_seed 20 = .ok (.sipush 242, 3) := by decide +kernel
theorem dX9_seed_23 : decode cX9_seed 23 = .ok (.iload_n 1, 1) := by decide +kernel
theorem dX9_seed_24 : decode cX9_seed 24 = .ok (.iastore, 1) := by decide +kernel
theorem dX9_seed_25 : decode cX9_seed 25 = .ok (.iload_n 2, 1) := by decide +kernel
theorem dX9_seed_26 : decode cX9_seed 26 = .ok (.ireturn, 1) := by decide +kernel
set_option maxRecDepth 20000 in
theorem ggX9_keep_X9_in : GoodIn wsX9_keep wsX9_in := goodIn_r _ [7] (by decide +kernel) (by decide +kernel)
set_option maxRecDepth 20000 in
theorem gX9_keep_X9_in : GoodIn wsX9_keep (va_wsS RX9 56 yX9_in wsX9_in) := goodIn_app (goodIn_of _ (by decide +kernel)) ggX9_keep_X9_in
set_option maxRecDepth 20000 in
theorem ggX9_keep_X9_copy : GoodIn wsX9_keep wsX9_copy := goodIn_r _ [11, 12, 13, 14, 15, 16, 17, 18, 19, 20, 21, 22, 23, 24, 25, 26, 27, 28, 29, 30, 31, 32, 33, 34, 35, 36, 37, 38, 39] (by decide +kernel) (by decide +kernel)
set_option maxRecDepth 20000 in
theorem gX9_keep_X9_copy : GoodIn wsX9_keep (wsV RX9 193 RX9 yX9_copy wsX9_copy) := goodIn_app (goodIn_of _ (by decide +kernel)) ggX9_keep_X9_copy
theorem dX9_keep_0 : decode cX9_keep 0 = .ok (.iload_n 1, 1) := by decide +kernel
theorem dX9_keep_1 : decode cX9_keep 1 = .ok (.i2l, 1) := by decide +kernel
theorem dX9_keep_2 : decode cX9_keep 2 = .ok (.lconst 0, 1) := by decide +kernel
theorem dX9_keep_3 : decode cX9_keep 3 = .ok (.lconst 1, 1) := by decide +kernel
theorem dX9_keep_4 : decode cX9_keep 4 = .ok (.invokestatic 56, 3) := by decide +kernel
theorem dX9_keep_7 : decode cX9_keep 7 = .ok (.ifCond .ne 6, 3) := by decide +kernel
theorem dX9_keep_10 : decode cX9_keep 10 = .ok (.ldc 183, 2) := by decide +kernel
theorem dX9_keep_12 : decode cX9_keep 12 = .ok (.ireturn, 1) := by decide +kernel
theorem dX9_keep_13 : decode cX9_keep 13 = .ok (.aload_n 0, 1) := by decide +kernel
theorem dX9_keep_14 : decode cX9_keep 14 = .ok (.iconst 0, 1) := by decide +kernel
theorem dX9_keep_15 : decode cX9_keep 15 = .ok (.sipush 486, 3) := by decide +kernel
theorem dX9_keep_18 : decode cX9_keep 18 = .ok (.sipush 243, 3) := by decide +kernel
theorem dX9_keep_21 : decode cX9_keep 21 = .ok (.iload_n 1, 1) := by decide +kernel
theorem dX9_keep_22 : decode cX9_keep 22 = .ok (.imul, 1) := by decide +kernel
theorem dX9_keep_23 : decode cX9_keep 23 = .ok (.iadd, 1) := by decide +kernel
theorem dX9_keep_24 : decode cX9_keep 24 = .ok (.invokevirtual 193, 3) := by decide +kernel
theorem dX9_keep_27 : decode cX9_keep 27 = .ok (.aload_n 0, 1) := by decide +kernel
theorem dX9_keep_28 : decode cX9_keep 28 = .ok (.getfield 13, 3) := by decide +kernel
theorem dX9_keep_31 : decode cX9_keep 31 = .ok (.iload_n 1, 1) := by decide +kernel
theorem dX9_keep_32 : decode cX9_keep 32 = .ok (.iconst 1, 1) := by decide +kernel
theorem dX9_keep_33 : decode cX9_keep 33 = .ok (.bastore, 1) := by decide +kernel
theorem dX9_keep_34 : decode cX9_keep 34 = .ok (.aload_n 0, 1) := by decide +kernel
theorem dX9_keep_35 : decode cX9_keep 35 = .ok (.iconst 0, 1) := by decide +kernel
theorem dX9_keep_36 : decode cX9_keep 36 = .ok (.putfield 137, 3) := by decide +kernel
theorem dX9_keep_39 : decode cX9_keep 39 = .ok (.iconst 1, 1) := by decide +kernel
theorem dX9_keep_40 : decode cX9_keep 40 = .ok (.ireturn, 1) := by decide +kernel
set_option maxRecDepth 20000 in
theorem ggX9_goBack_X9_in : GoodIn wsX9_goBack wsX9_in := goodIn_r _ [8] (by decide +kernel) (by decide +kernel)
set_option maxRecDepth 20000 in
theorem gX9_goBack_X9_in : GoodIn wsX9_goBack (va_wsS RX9 56 yX9_in wsX9_in) := goodIn_app (goodIn_of _ (by decide +kernel)) ggX9_goBack_X9_in
set_option maxRecDepth 20000 in
theorem ggX9_goBack_X9_copy : GoodIn wsX9_goBack wsX9_copy := goodIn_r _ [12, 13, 14, 15, 16, 17, 18, 19, 20, 21, 22, 23, 24, 25, 26, 27, 28, 29, 30, 31, 32, 33, 34, 35, 36, 37, 38, 39, 40] (by decide +kernel) (by decide +kernel)
set_option maxRecDepth 20000 in
theorem gX9_goBack_X9_copy : GoodIn wsX9_goBack (wsV RX9 193 RX9 yX9_copy wsX9_copy) := goodIn_app (goodIn_of _ (by decide +kernel)) ggX9_goBack_X9_copy
theorem dX9_goBack_0 : decode cX9_goBack 0 = .ok (.iload_n 1, 1) := by decide +kernel
theorem dX9_goBack_1 : decode cX9_goBack 1 = .ok (.i2l, 1) := by decide +kernel
theorem dX9_goBack_2 : decode cX9_goBack 2 = .ok (.lconst 0, 1) := by decide +kernel
theorem dX9_goBack_3 : decode cX9_goBack 3 = .ok (.lconst 1, 1) := by decide +kernel
theorem dX9_goBack_4 : decode cX9_goBack 4 = .ok (.invokestatic 56, 3) := by decide +kernel
theorem dX9_goBack_7 : decode cX9_goBack 7 = .ok (.ifCond .ne 6, 3) := by decide +kernel
theorem dX9_goBack_10 : decode cX9_goBack 10 = .ok (.ldc 183, 2) := by decide +kernel
theorem dX9_goBack_12 : decode cX9_goBack 12 = .ok (.ireturn, 1) := by decide +kernel
theorem dX9_goBack_13 : decode cX9_goBack 13 = .ok (.aload_n 0, 1) := by decide +kernel
theorem dX9_goBack_14 : decode cX9_goBack 14 = .ok (.getfield 13, 3) := by decide +kernel
theorem dX9_goBack_17 : decode cX9_goBack 17 = .ok (.iload_n 1, 1) := by decide +kernel
theorem dX9_goBack_18 : decode cX9_goBack 18 = .ok (.baload, 1) := by decide +kernel
theorem dX9_goBack_19 : decode cX9_goBack 19 = .ok (.ifCond .ne 6, 3) := by decide +kernel
theorem dX9_goBack_22 : decode cX9_goBack 22 = .ok (.ldc 231, 2) := by decide +kernel
theorem dX9_goBack_24 : decode cX9_goBack 24 = .ok (.ireturn, 1) := by decide +kernel
theorem dX9_goBack_25 : decode cX9_goBack 25 = .ok (.aload_n 0, 1) := by decide +kernel
theorem dX9_goBack_26 : decode cX9_goBack 26 = .ok (.sipush 486, 3) := by decide +kernel
theorem dX9_goBack_29 : decode cX9_goBack 29 = .ok (.sipush 243, 3) := by decide +kernel
theorem dX9_goBack_32 : decode cX9_goBack 32 = .ok (.iload_n 1, 1) := by decide +kernel
theorem dX9_goBack_33 : decode cX9_goBack 33 = .ok (.imul, 1) := by decide +kernel
theorem dX9_goBack_34 : decode cX9_goBack 34 = .ok (.iadd, 1) := by decide +kernel
theorem dX9_goBack_35 : decode cX9_goBack 35 = .ok (.iconst 0, 1) := by decide +kernel
theorem dX9_goBack_36 : decode cX9_goBack 36 = .ok (.invokevirtual 193, 3) := by decide +kernel
theorem dX9_goBack_39 : decode cX9_goBack 39 = .ok (.aload_n 0, 1) := by decide +kernel
theorem dX9_goBack_40 : decode cX9_goBack 40 = .ok (.iconst 0, 1) := by decide +kernel
theorem dX9_goBack_41 : decode cX9_goBack 41 = .ok (.putfield 137, 3) := by decide +kernel
theorem dX9_goBack_44 : decode cX9_goBack 44 = .ok (.iconst 1, 1) := by decide +kernel
theorem dX9_goBack_45 : decode cX9_goBack 45 = .ok (.ireturn, 1) := by decide +kernel

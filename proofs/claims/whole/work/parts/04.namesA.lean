set_option maxRecDepth 20000 in
theorem ggX0_countMirrored_X7_countRows : GoodIn wsX0_countMirrored wsX7_countRows := goodIn_r _ [5, 6, 7, 8, 9, 10, 28, 29, 30, 31, 32, 33, 34, 35, 36] (by decide +kernel) (by decide +kernel)
set_option maxRecDepth 20000 in
theorem gX0_countMirrored_X7_countRows : GoodIn wsX0_countMirrored (wsV RX0 9 RX7 yX7_countRows wsX7_countRows) := goodIn_app (goodIn_of _ (by decide +kernel)) ggX0_countMirrored_X7_countRows
set_option maxRecDepth 20000 in
theorem ggX0_countMirrored_X0_isMirrored : GoodIn wsX0_countMirrored wsX0_isMirrored := goodIn_r _ [14, 15, 16, 17, 4, 18, 19, 6, 20, 2, 3, 5, 7, 8, 9, 10, 21, 22, 23, 24, 25, 26, 27, 28, 29, 30, 31, 32, 33, 34, 35, 36] (by decide +kernel) (by decide +kernel)
set_option maxRecDepth 20000 in
theorem gX0_countMirrored_X0_isMirrored : GoodIn wsX0_countMirrored (va_wsS RX0 15 yX0_isMirrored wsX0_isMirrored) := goodIn_app (goodIn_of _ (by decide +kernel)) ggX0_countMirrored_X0_isMirrored
theorem dX0_countMirrored_0 : decode cX0_countMirrored 0 = .ok (.iconst 0, 1) := by decide +kernel
theorem dX0_countMirrored_1 : decode cX0_countMirrored 1 = .ok (.istore_n 2, 1) := by decide +kernel
theorem dX0_countMirrored_2 : decode cX0_countMirrored 2 = .ok (.iconst 0, 1) := by decide +kernel
theorem dX0_countMirrored_3 : decode cX0_countMirrored 3 = .ok (.istore_n 3, 1) := by decide +kernel
theorem dX0_countMirrored_4 : decode cX0_countMirrored 4 = .ok (.iload_n 3, 1) := by decide +kernel
theorem dX0_countMirrored_5 : decode cX0_countMirrored 5 = .ok (.aload_n 0, 1) := by decide +kernel
theorem dX0_countMirrored_6 : decode cX0_countMirrored 6 = .ok (.invokevirtual 9, 3) := by decide +kernel
theorem dX0_countMirrored_9 : decode cX0_countMirrored 9 = .ok (.if_icmp .ge 21, 3) := by decide +kernel
theorem dX0_countMirrored_12 : decode cX0_countMirrored 12 = .ok (.aload_n 0, 1) := by decide +kernel
theorem dX0_countMirrored_13 : decode cX0_countMirrored 13 = .ok (.iload_n 1, 1) := by decide +kernel
theorem dX0_countMirrored_14 : decode cX0_countMirrored 14 = .ok (.iload_n 3, 1) := by decide +kernel
theorem dX0_countMirrored_15 : decode cX0_countMirrored 15 = .ok (.invokestatic 15, 3) := by decide +kernel
theorem dX0_countMirrored_18 : decode cX0_countMirrored 18 = .ok (.ifCond .eq 6, 3) := by decide +kernel
theorem dX0_countMirrored_21 : decode cX0_countMirrored 21 = .ok (.iinc 2 1, 3) := by decide +kernel
theorem dX0_countMirrored_24 : decode cX0_countMirrored 24 = .ok (.iinc 3 1, 3) := by decide +kernel
theorem dX0_countMirrored_27 : decode cX0_countMirrored 27 = .ok (.goto (-23), 3) := by decide +kernel
theorem dX0_countMirrored_30 : decode cX0_countMirrored 30 = .ok (.iload_n 2, 1) := by decide +kernel
theorem dX0_countMirrored_31 : decode cX0_countMirrored 31 = .ok (.ireturn, 1) := by decide +kernel
set_option maxRecDepth 20000 in
theorem ggX0_isMirrored_X7_showedAt : GoodIn wsX0_isMirrored wsX7_showedAt := goodIn_r _ [5, 6, 7, 8, 9, 10, 4, 11, 12, 13, 14, 15, 16, 17, 18, 19, 20, 21, 22, 23, 24, 25, 26, 27, 28, 29, 30, 31] (by decide +kernel) (by decide +kernel)
set_option maxRecDepth 20000 in
theorem gX0_isMirrored_X7_showedAt : GoodIn wsX0_isMirrored (wsV RX0 21 RX7 yX7_showedAt wsX7_showedAt) := goodIn_app (goodIn_of _ (by decide +kernel)) ggX0_isMirrored_X7_showedAt
theorem dX0_isMirrored_0 : decode cX0_isMirrored 0 = .ok (.iconst 0, 1) := by decide +kernel
theorem dX0_isMirrored_1 : decode cX0_isMirrored 1 = .ok (.istore_n 3, 1) := by decide +kernel
theorem dX0_isMirrored_2 : decode cX0_isMirrored 2 = .ok (.iload_n 3, 1) := by decide +kernel
theorem dX0_isMirrored_3 : decode cX0_isMirrored 3 = .ok (.iload_n 1, 1) := by decide +kernel
theorem dX0_isMirrored_4 : decode cX0_isMirrored 4 = .ok (.iconst 2, 1) := by decide +kernel
theorem dX0_isMirrored_5 : decode cX0_isMirrored 5 = .ok (.idiv, 1) := by decide +kernel
theorem dX0_isMirrored_6 : decode cX0_isMirrored 6 = .ok (.if_icmp .ge 30, 3) := by decide +kernel
theorem dX0_isMirrored_9 : decode cX0_isMirrored 9 = .ok (.aload_n 0, 1) := by decide +kernel
theorem dX0_isMirrored_10 : decode cX0_isMirrored 10 = .ok (.iload_n 2, 1) := by decide +kernel
theorem dX0_isMirrored_11 : decode cX0_isMirrored 11 = .ok (.iload_n 3, 1) := by decide +kernel
theorem dX0_isMirrored_12 : decode cX0_isMirrored 12 = .ok (.invokevirtual 21, 3) := by decide +kernel
theorem dX0_isMirrored_15 : decode cX0_isMirrored 15 = .ok (.aload_n 0, 1) := by decide +kernel
theorem dX0_isMirrored_16 : decode cX0_isMirrored 16 = .ok (.iload_n 2, 1) := by decide +kernel
theorem dX0_isMirrored_17 : decode cX0_isMirrored 17 = .ok (.iload_n 1, 1) := by decide +kernel
theorem dX0_isMirrored_18 : decode cX0_isMirrored 18 = .ok (.iconst 1, 1) := by decide +kernel
theorem dX0_isMirrored_19 : decode cX0_isMirrored 19 = .ok (.isub, 1) := by decide +kernel
theorem dX0_isMirrored_20 : decode cX0_isMirrored 20 = .ok (.iload_n 3, 1) := by decide +kernel
theorem dX0_isMirrored_21 : decode cX0_isMirrored 21 = .ok (.isub, 1) := by decide +kernel
theorem dX0_isMirrored_22 : decode cX0_isMirrored 22 = .ok (.invokevirtual 21, 3) := by decide +kernel
theorem dX0_isMirrored_25 : decode cX0_isMirrored 25 = .ok (.if_icmp .eq 5, 3) := by decide +kernel
theorem dX0_isMirrored_28 : decode cX0_isMirrored 28 = .ok (.iconst 0, 1) := by decide +kernel
theorem dX0_isMirrored_29 : decode cX0_isMirrored 29 = .ok (.ireturn, 1) := by decide +kernel
theorem dX0_isMirrored_30 : decode cX0_isMirrored 30 = .ok (.iinc 3 1, 3) := by decide +kernel
theorem dX0_isMirrored_33 : decode cX0_isMirrored 33 = .ok (.goto (-31), 3) := by decide +kernel
theorem dX0_isMirrored_36 : decode cX0_isMirrored 36 = .ok (.iconst 1, 1) := by decide +kernel
theorem dX0_isMirrored_37 : decode cX0_isMirrored 37 = .ok (.ireturn, 1) := by decide +kernel
set_option maxRecDepth 20000 in
theorem ggX0_findPeriod_X7_countRows : GoodIn wsX0_findPeriod wsX7_countRows := goodIn_r _ [5, 6, 7, 8, 9, 10, 28, 29, 30, 31, 32, 33, 34, 35, 36] (by decide +kernel) (by decide +kernel)
set_option maxRecDepth 20000 in
theorem gX0_findPeriod_X7_countRows : GoodIn wsX0_findPeriod (wsV RX0 9 RX7 yX7_countRows wsX7_countRows) := goodIn_app (goodIn_of _ (by decide +kernel)) ggX0_findPeriod_X7_countRows
set_option maxRecDepth 20000 in
theorem ggX0_findPeriod_X0_isPeriod : GoodIn wsX0_findPeriod wsX0_isPeriod := goodIn_r _ [14, 1, 2, 3, 4, 5, 6, 7, 8, 9, 10, 15, 16, 17, 18, 19, 20, 21, 22, 23, 24, 25, 26, 27, 28, 29, 30, 31, 32, 33, 34, 35, 36] (by decide +kernel) (by decide +kernel)
set_option maxRecDepth 20000 in
theorem gX0_findPeriod_X0_isPeriod : GoodIn wsX0_findPeriod (va_wsS RX0 25 yX0_isPeriod wsX0_isPeriod) := goodIn_app (goodIn_of _ (by decide +kernel)) ggX0_findPeriod_X0_isPeriod
theorem dX0_findPeriod_0 : decode cX0_findPeriod 0 = .ok (.aload_n 0, 1) := by decide +kernel
theorem dX0_findPeriod_1 : decode cX0_findPeriod 1 = .ok (.invokevirtual 9, 3) := by decide +kernel
theorem dX0_findPeriod_4 : decode cX0_findPeriod 4 = .ok (.istore_n 2, 1) := by decide +kernel
theorem dX0_findPeriod_5 : decode cX0_findPeriod 5 = .ok (.iconst 1, 1) := by decide +kernel
theorem dX0_findPeriod_6 : decode cX0_findPeriod 6 = .ok (.istore_n 3, 1) := by decide +kernel
theorem dX0_findPeriod_7 : decode cX0_findPeriod 7 = .ok (.iload_n 3, 1) := by decide +kernel
theorem dX0_findPeriod_8 : decode cX0_findPeriod 8 = .ok (.iload_n 2, 1) := by decide +kernel
theorem dX0_findPeriod_9 : decode cX0_findPeriod 9 = .ok (.if_icmp .ge 20, 3) := by decide +kernel
theorem dX0_findPeriod_12 : decode cX0_findPeriod 12 = .ok (.aload_n 0, 1) := by decide +kernel
theorem dX0_findPeriod_13 : decode cX0_findPeriod 13 = .ok (.iload_n 1, 1) := by decide +kernel
theorem dX0_findPeriod_14 : decode cX0_findPeriod 14 = .ok (.iload_n 3, 1) := by decide +kernel
theorem dX0_findPeriod_15 : decode cX0_findPeriod 15 = .ok (.invokestatic 25, 3) := by decide +kernel
theorem dX0_findPeriod_18 : decode cX0_findPeriod 18 = .ok (.ifCond .eq 5, 3) := by decide +kernel
theorem dX0_findPeriod_21 : decode cX0_findPeriod 21 = .ok (.iload_n 3, 1) := by decide +kernel
theorem dX0_findPeriod_22 : decode cX0_findPeriod 22 = .ok (.ireturn, 1) := by decide +kernel
theorem dX0_findPeriod_23 : decode cX0_findPeriod 23 = .ok (.iinc 3 1, 3) := by decide +kernel
theorem dX0_findPeriod_26 : decode cX0_findPeriod 26 = .ok (.goto (-19), 3) := by decide +kernel
theorem dX0_findPeriod_29 : decode cX0_findPeriod 29 = .ok (.iload_n 2, 1) := by decide +kernel
theorem dX0_findPeriod_30 : decode cX0_findPeriod 30 = .ok (.ireturn, 1) := by decide +kernel
set_option maxRecDepth 20000 in
theorem ggX0_isPeriod_X7_countRows : GoodIn wsX0_isPeriod wsX7_countRows := goodIn_r _ [5, 6, 7, 8, 9, 10, 24, 25, 26, 27, 28, 29, 30, 31, 32] (by decide +kernel) (by decide +kernel)
set_option maxRecDepth 20000 in
theorem gX0_isPeriod_X7_countRows : GoodIn wsX0_isPeriod (wsV RX0 9 RX7 yX7_countRows wsX7_countRows) := goodIn_app (goodIn_of _ (by decide +kernel)) ggX0_isPeriod_X7_countRows
set_option maxRecDepth 20000 in
theorem ggX0_isPeriod_X7_showedAt : GoodIn wsX0_isPeriod wsX7_showedAt := goodIn_r _ [14, 15, 6, 16, 2, 3, 4, 5, 7, 8, 9, 10, 17, 18, 19, 20, 21, 22, 23, 24, 25, 26, 27, 28, 29, 30, 31, 32] (by decide +kernel) (by decide +kernel)
set_option maxRecDepth 20000 in
theorem gX0_isPeriod_X7_showedAt : GoodIn wsX0_isPeriod (wsV RX0 21 RX7 yX7_showedAt wsX7_showedAt) := goodIn_app (goodIn_of _ (by decide +kernel)) ggX0_isPeriod_X7_showedAt
theorem dX0_isPeriod_0 : decode cX0_isPeriod 0 = .ok (.iconst 0, 1) := by decide +kernel
theorem dX0_isPeriod_1 : decode cX0_isPeriod 1 = .ok (.istore_n 3, 1) := by decide +kernel
theorem dX0_isPeriod_2 : decode cX0_isPeriod 2 = .ok (.iload_n 3, 1) := by decide +kernel
theorem dX0_isPeriod_3 : decode cX0_isPeriod 3 = .ok (.iload_n 2, 1) := by decide +kernel
theorem dX0_isPeriod_4 : decode cX0_isPeriod 4 = .ok (.iadd, 1) := by decide +kernel
theorem dX0_isPeriod_5 : decode cX0_isPeriod 5 = .ok (.aload_n 0, 1) := by decide +kernel
theorem dX0_isPeriod_6 : decode cX0_isPeriod 6 = .ok (.invokevirtual 9, 3) := by decide +kernel
theorem dX0_isPeriod_9 : decode cX0_isPeriod 9 = .ok (.if_icmp .ge 45, 3) := by decide +kernel
theorem dX0_isPeriod_12 : decode cX0_isPeriod 12 = .ok (.iconst 0, 1) := by decide +kernel
theorem dX0_isPeriod_13 : decode cX0_isPeriod 13 = .ok (.istore 4, 2) := by decide +kernel
theorem dX0_isPeriod_15 : decode cX0_isPeriod 15 = .ok (.iload 4, 2) := by decide +kernel
theorem dX0_isPeriod_17 : decode cX0_isPeriod 17 = .ok (.iload_n 1, 1) := by decide +kernel
theorem dX0_isPeriod_18 : decode cX0_isPeriod 18 = .ok (.if_icmp .ge 30, 3) := by decide +kernel
theorem dX0_isPeriod_21 : decode cX0_isPeriod 21 = .ok (.aload_n 0, 1) := by decide +kernel
theorem dX0_isPeriod_22 : decode cX0_isPeriod 22 = .ok (.iload_n 3, 1) := by decide +kernel
theorem dX0_isPeriod_23 : decode cX0_isPeriod 23 = .ok (.iload 4, 2) := by decide +kernel
theorem dX0_isPeriod_25 : decode cX0_isPeriod 25 = .ok (.invokevirtual 21, 3) := by decide +kernel
theorem dX0_isPeriod_28 : decode cX0_isPeriod 28 = .ok (.aload_n 0, 1) := by decide +kernel
theorem dX0_isPeriod_29 : decode cX0_isPeriod 29 = .ok (.iload_n 3, 1) := by decide +kernel
theorem dX0_isPeriod_30 : decode cX0_isPeriod 30 = .ok (.iload_n 2, 1) := by decide +kernel
theorem dX0_isPeriod_31 : decode cX0_isPeriod 31 = .ok (.iadd, 1) := by decide +kernel
theorem dX0_isPeriod_32 : decode cX0_isPeriod 32 = .ok (.iload 4, 2) := by decide +kernel
theorem dX0_isPeriod_34 : decode cX0_isPeriod 34 = .ok (.invokevirtual 21, 3) := by decide +kernel
theorem dX0_isPeriod_37 : decode cX0_isPeriod 37 = .ok (.if_icmp .eq 5, 3) := by decide +kernel
theorem dX0_isPeriod_40 : decode cX0_isPeriod 40 = .ok (.iconst 0, 1) := by decide +kernel
theorem dX0_isPeriod_41 : decode cX0_isPeriod 41 = .ok (.ireturn, 1) := by decide +kernel
theorem dX0_isPeriod_42 : decode cX0_isPeriod 42 = .ok (.iinc 4 1, 3) := by decide +kernel
theorem dX0_isPeriod_45 : decode cX0_isPeriod 45 = .ok (.goto (-30), 3) := by decide +kernel
theorem dX0_isPeriod_48 : decode cX0_isPeriod 48 = .ok (.iinc 3 1, 3) := by decide +kernel
theorem dX0_isPeriod_51 : decode cX0_isPeriod 51 = .ok (.goto (-49), 3) := by decide +kernel
theorem dX0_isPeriod_54 : decode cX0_isPeriod 54 = .ok (.iconst 1, 1) := by decide +kernel
theorem dX0_isPeriod_55 : decode cX0_isPeriod 55 = .ok (.ireturn, 1) := by decide +kernel
set_option maxRecDepth 20000 in
theorem ggX0_findFloat_X7_countRows : GoodIn wsX0_findFloat wsX7_countRows := goodIn_r _ [9, 10, 11, 12, 3, 13, 27, 28, 29, 30, 31, 32, 33, 34, 35] (by decide +kernel) (by decide +kernel)
set_option maxRecDepth 20000 in
theorem gX0_findFloat_X7_countRows : GoodIn wsX0_findFloat (wsV RX0 9 RX7 yX7_countRows wsX7_countRows) := goodIn_app (goodIn_of _ (by decide +kernel)) ggX0_findFloat_X7_countRows
set_option maxRecDepth 20000 in
theorem ggX0_findFloat_X7_showedAt : GoodIn wsX0_findFloat wsX7_showedAt := goodIn_r _ [17, 18, 10, 19, 6, 7, 8, 9, 11, 12, 3, 13, 20, 21, 22, 23, 24, 25, 26, 27, 28, 29, 30, 31, 32, 33, 34, 35] (by decide +kernel) (by decide +kernel)
set_option maxRecDepth 20000 in
theorem gX0_findFloat_X7_showedAt : GoodIn wsX0_findFloat (wsV RX0 21 RX7 yX7_showedAt wsX7_showedAt) := goodIn_app (goodIn_of _ (by decide +kernel)) ggX0_findFloat_X7_showedAt
theorem dX0_findFloat_0 : decode cX0_findFloat 0 = .ok (.iconst 0, 1) := by decide +kernel
theorem dX0_findFloat_1 : decode cX0_findFloat 1 = .ok (.istore_n 2, 1) := by decide +kernel
theorem dX0_findFloat_2 : decode cX0_findFloat 2 = .ok (.iconst 0, 1) := by decide +kernel
theorem dX0_findFloat_3 : decode cX0_findFloat 3 = .ok (.istore_n 3, 1) := by decide +kernel
theorem dX0_findFloat_4 : decode cX0_findFloat 4 = .ok (.iconst 0, 1) := by decide +kernel
theorem dX0_findFloat_5 : decode cX0_findFloat 5 = .ok (.istore 4, 2) := by decide +kernel
theorem dX0_findFloat_7 : decode cX0_findFloat 7 = .ok (.iload 4, 2) := by decide +kernel
theorem dX0_findFloat_9 : decode cX0_findFloat 9 = .ok (.aload_n 0, 1) := by decide +kernel
theorem dX0_findFloat_10 : decode cX0_findFloat 10 = .ok (.invokevirtual 9, 3) := by decide +kernel
theorem dX0_findFloat_13 : decode cX0_findFloat 13 = .ok (.if_icmp .ge 57, 3) := by decide +kernel
theorem dX0_findFloat_16 : decode cX0_findFloat 16 = .ok (.aload_n 0, 1) := by decide +kernel
theorem dX0_findFloat_17 : decode cX0_findFloat 17 = .ok (.iload 4, 2) := by decide +kernel
theorem dX0_findFloat_19 : decode cX0_findFloat 19 = .ok (.iload_n 1, 1) := by decide +kernel
theorem dX0_findFloat_20 : decode cX0_findFloat 20 = .ok (.invokevirtual 21, 3) := by decide +kernel
theorem dX0_findFloat_23 : decode cX0_findFloat 23 = .ok (.istore 5, 2) := by decide +kernel
theorem dX0_findFloat_25 : decode cX0_findFloat 25 = .ok (.iload 5, 2) := by decide +kernel
theorem dX0_findFloat_27 : decode cX0_findFloat 27 = .ok (.iconst (-1), 1) := by decide +kernel
theorem dX0_findFloat_28 : decode cX0_findFloat 28 = .ok (.if_icmp .ne 8, 3) := by decide +kernel
theorem dX0_findFloat_31 : decode cX0_findFloat 31 = .ok (.iconst 0, 1) := by decide +kernel
theorem dX0_findFloat_32 : decode cX0_findFloat 32 = .ok (.istore_n 3, 1) := by decide +kernel
theorem dX0_findFloat_33 : decode cX0_findFloat 33 = .ok (.goto 25, 3) := by decide +kernel
theorem dX0_findFloat_36 : decode cX0_findFloat 36 = .ok (.iload 5, 2) := by decide +kernel
theorem dX0_findFloat_38 : decode cX0_findFloat 38 = .ok (.aload_n 0, 1) := by decide +kernel
theorem dX0_findFloat_39 : decode cX0_findFloat 39 = .ok (.iload 4, 2) := by decide +kernel
theorem dX0_findFloat_41 : decode cX0_findFloat 41 = .ok (.iconst 1, 1) := by decide +kernel
theorem dX0_findFloat_42 : decode cX0_findFloat 42 = .ok (.isub, 1) := by decide +kernel
theorem dX0_findFloat_43 : decode cX0_findFloat 43 = .ok (.iload_n 1, 1) := by decide +kernel
theorem dX0_findFloat_44 : decode cX0_findFloat 44 = .ok (.invokevirtual 21, 3) := by decide +kernel
theorem dX0_findFloat_47 : decode cX0_findFloat 47 = .ok (.if_icmp .ne 9, 3) := by decide +kernel
theorem dX0_findFloat_50 : decode cX0_findFloat 50 = .ok (.iload_n 3, 1) := by decide +kernel
theorem dX0_findFloat_51 : decode cX0_findFloat 51 = .ok (.iconst 1, 1) := by decide +kernel
theorem dX0_findFloat_52 : decode cX0_findFloat 52 = .ok (.iadd, 1) := by decide +kernel
theorem dX0_findFloat_53 : decode cX0_findFloat 53 = .ok (.goto 4, 3) := by decide +kernel
theorem dX0_findFloat_56 : decode cX0_findFloat 56 = .ok (.iconst 1, 1) := by decide +kernel
theorem dX0_findFloat_57 : decode cX0_findFloat 57 = .ok (.istore_n 3, 1) := by decide +kernel
theorem dX0_findFloat_58 : decode cX0_findFloat 58 = .ok (.iload_n 2, 1) := by decide +kernel
theorem dX0_findFloat_59 : decode cX0_findFloat 59 = .ok (.iload_n 3, 1) := by decide +kernel
theorem dX0_findFloat_60 : decode cX0_findFloat 60 = .ok (.invokestatic 28, 3) := by decide +kernel
theorem dX0_findFloat_63 : decode cX0_findFloat 63 = .ok (.istore_n 2, 1) := by decide +kernel
theorem dX0_findFloat_64 : decode cX0_findFloat 64 = .ok (.iinc 4 1, 3) := by decide +kernel
theorem dX0_findFloat_67 : decode cX0_findFloat 67 = .ok (.goto (-60), 3) := by decide +kernel
theorem dX0_findFloat_70 : decode cX0_findFloat 70 = .ok (.iload_n 2, 1) := by decide +kernel
theorem dX0_findFloat_71 : decode cX0_findFloat 71 = .ok (.ireturn, 1) := by decide +kernel
set_option maxRecDepth 20000 in
theorem ggX0_findLongest_X7_countRows : GoodIn wsX0_findLongest wsX7_countRows := goodIn_r _ [5, 6, 7, 8, 9, 10, 31, 32, 33, 34, 35, 36, 37, 38, 39] (by decide +kernel) (by decide +kernel)
set_option maxRecDepth 20000 in
theorem gX0_findLongest_X7_countRows : GoodIn wsX0_findLongest (wsV RX0 9 RX7 yX7_countRows wsX7_countRows) := goodIn_app (goodIn_of _ (by decide +kernel)) ggX0_findLongest_X7_countRows
set_option maxRecDepth 20000 in
theorem ggX0_findLongest_X0_findFloat : GoodIn wsX0_findLongest wsX0_findFloat := goodIn_r _ [14, 15, 16, 9, 17, 1, 2, 3, 4, 5, 6, 7, 8, 10, 18, 19, 20, 21, 22, 23, 24, 25, 26, 27, 28, 29, 30, 31, 32, 33, 34, 35, 36, 37, 38, 39] (by decide +kernel) (by decide +kernel)
set_option maxRecDepth 20000 in
theorem gX0_findLongest_X0_findFloat : GoodIn wsX0_findLongest (va_wsS RX0 33 yX0_findFloat wsX0_findFloat) := goodIn_app (goodIn_of _ (by decide +kernel)) ggX0_findLongest_X0_findFloat
theorem dX0_findLongest_0 : decode cX0_findLongest 0 = .ok (.aload_n 0, 1) := by decide +kernel
theorem dX0_findLongest_1 : decode cX0_findLongest 1 = .ok (.invokevirtual 9, 3) := by decide +kernel
theorem dX0_findLongest_4 : decode cX0_findLongest 4 = .ok (.ifCond .ne 5, 3) := by decide +kernel
theorem dX0_findLongest_7 : decode cX0_findLongest 7 = .ok (.iconst (-1), 1) := by decide +kernel
theorem dX0_findLongest_8 : decode cX0_findLongest 8 = .ok (.ireturn, 1) := by decide +kernel
theorem dX0_findLongest_9 : decode cX0_findLongest 9 = .ok (.iconst (-1), 1) := by decide +kernel
theorem dX0_findLongest_10 : decode cX0_findLongest 10 = .ok (.istore_n 2, 1) := by decide +kernel
theorem dX0_findLongest_11 : decode cX0_findLongest 11 = .ok (.iconst (-1), 1) := by decide +kernel
theorem dX0_findLongest_12 : decode cX0_findLongest 12 = .ok (.istore_n 3, 1) := by decide +kernel
theorem dX0_findLongest_13 : decode cX0_findLongest 13 = .ok (.iconst 0, 1) := by decide +kernel
theorem dX0_findLongest_14 : decode cX0_findLongest 14 = .ok (.istore 4, 2) := by decide +kernel
theorem dX0_findLongest_16 : decode cX0_findLongest 16 = .ok (.iload 4, 2) := by decide +kernel
theorem dX0_findLongest_18 : decode cX0_findLongest 18 = .ok (.iload_n 1, 1) := by decide +kernel
theorem dX0_findLongest_19 : decode cX0_findLongest 19 = .ok (.if_icmp .ge 29, 3) := by decide +kernel
theorem dX0_findLongest_22 : decode cX0_findLongest 22 = .ok (.aload_n 0, 1) := by decide +kernel
theorem dX0_findLongest_23 : decode cX0_findLongest 23 = .ok (.iload 4, 2) := by decide +kernel
theorem dX0_findLongest_25 : decode cX0_findLongest 25 = .ok (.invokestatic 33, 3) := by decide +kernel
theorem dX0_findLongest_28 : decode cX0_findLongest 28 = .ok (.istore 5, 2) := by decide +kernel
theorem dX0_findLongest_30 : decode cX0_findLongest 30 = .ok (.iload 5, 2) := by decide +kernel
theorem dX0_findLongest_32 : decode cX0_findLongest 32 = .ok (.iload_n 3, 1) := by decide +kernel
theorem dX0_findLongest_33 : decode cX0_findLongest 33 = .ok (.if_icmp .le 9, 3) := by decide +kernel
theorem dX0_findLongest_36 : decode cX0_findLongest 36 = .ok (.iload 5, 2) := by decide +kernel
theorem dX0_findLongest_38 : decode cX0_findLongest 38 = .ok (.istore_n 3, 1) := by decide +kernel
theorem dX0_findLongest_39 : decode cX0_findLongest 39 = .ok (.iload 4, 2) := by decide +kernel
theorem dX0_findLongest_41 : decode cX0_findLongest 41 = .ok (.istore_n 2, 1) := by decide +kernel
theorem dX0_findLongest_42 : decode cX0_findLongest 42 = .ok (.iinc 4 1, 3) := by decide +kernel
theorem dX0_findLongest_45 : decode cX0_findLongest 45 = .ok (.goto (-29), 3) := by decide +kernel
theorem dX0_findLongest_48 : decode cX0_findLongest 48 = .ok (.iload_n 2, 1) := by decide +kernel
theorem dX0_findLongest_49 : decode cX0_findLongest 49 = .ok (.ireturn, 1) := by decide +kernel
set_option maxRecDepth 20000 in
theorem ggX0_countShown_X7_countRows : GoodIn wsX0_countShown wsX7_countRows := goodIn_r _ [5, 6, 7, 8, 9, 10, 24, 25, 26, 27, 28, 29, 30, 31, 32] (by decide +kernel) (by decide +kernel)
set_option maxRecDepth 20000 in
theorem gX0_countShown_X7_countRows : GoodIn wsX0_countShown (wsV RX0 9 RX7 yX7_countRows wsX7_countRows) := goodIn_app (goodIn_of _ (by decide +kernel)) ggX0_countShown_X7_countRows
set_option maxRecDepth 20000 in
theorem ggX0_countShown_X7_showedAt : GoodIn wsX0_countShown wsX7_showedAt := goodIn_r _ [14, 15, 6, 16, 2, 3, 4, 5, 7, 8, 9, 10, 17, 18, 19, 20, 21, 22, 23, 24, 25, 26, 27, 28, 29, 30, 31, 32] (by decide +kernel) (by decide +kernel)
set_option maxRecDepth 20000 in
theorem gX0_countShown_X7_showedAt : GoodIn wsX0_countShown (wsV RX0 21 RX7 yX7_showedAt wsX7_showedAt) := goodIn_app (goodIn_of _ (by decide +kernel)) ggX0_countShown_X7_showedAt
theorem dX0_countShown_0 : decode cX0_countShown 0 = .ok (.iconst 0, 1) := by decide +kernel
theorem dX0_countShown_1 : decode cX0_countShown 1 = .ok (.istore_n 3, 1) := by decide +kernel
theorem dX0_countShown_2 : decode cX0_countShown 2 = .ok (.iconst 0, 1) := by decide +kernel
theorem dX0_countShown_3 : decode cX0_countShown 3 = .ok (.istore 4, 2) := by decide +kernel
theorem dX0_countShown_5 : decode cX0_countShown 5 = .ok (.iload 4, 2) := by decide +kernel
theorem dX0_countShown_7 : decode cX0_countShown 7 = .ok (.aload_n 0, 1) := by decide +kernel
theorem dX0_countShown_8 : decode cX0_countShown 8 = .ok (.invokevirtual 9, 3) := by decide +kernel
theorem dX0_countShown_11 : decode cX0_countShown 11 = .ok (.if_icmp .ge 39, 3) := by decide +kernel
theorem dX0_countShown_14 : decode cX0_countShown 14 = .ok (.iconst 0, 1) := by decide +kernel
theorem dX0_countShown_15 : decode cX0_countShown 15 = .ok (.istore 5, 2) := by decide +kernel
theorem dX0_countShown_17 : decode cX0_countShown 17 = .ok (.iload 5, 2) := by decide +kernel
theorem dX0_countShown_19 : decode cX0_countShown 19 = .ok (.iload_n 1, 1) := by decide +kernel
theorem dX0_countShown_20 : decode cX0_countShown 20 = .ok (.if_icmp .ge 24, 3) := by decide +kernel
theorem dX0_countShown_23 : decode cX0_countShown 23 = .ok (.aload_n 0, 1) := by decide +kernel
theorem dX0_countShown_24 : decode cX0_countShown 24 = .ok (.iload 4, 2) := by decide +kernel
theorem dX0_countShown_26 : decode cX0_countShown 26 = .ok (.iload 5, 2) := by decide +kernel
theorem dX0_countShown_28 : decode cX0_countShown 28 = .ok (.invokevirtual 21, 3) := by decide +kernel
theorem dX0_countShown_31 : decode cX0_countShown 31 = .ok (.iload_n 2, 1) := by decide +kernel
theorem dX0_countShown_32 : decode cX0_countShown 32 = .ok (.if_icmp .ne 6, 3) := by decide +kernel
theorem dX0_countShown_35 : decode cX0_countShown 35 = .ok (.iinc 3 1, 3) := by decide +kernel
theorem dX0_countShown_38 : decode cX0_countShown 38 = .ok (.iinc 5 1, 3) := by decide +kernel
theorem dX0_countShown_41 : decode cX0_countShown 41 = .ok (.goto (-24), 3) := by decide +kernel
theorem dX0_countShown_44 : decode cX0_countShown 44 = .ok (.iinc 4 1, 3) := by decide +kernel
theorem dX0_countShown_47 : decode cX0_countShown 47 = .ok (.goto (-42), 3) := by decide +kernel
theorem dX0_countShown_50 : decode cX0_countShown 50 = .ok (.iload_n 3, 1) := by decide +kernel
theorem dX0_countShown_51 : decode cX0_countShown 51 = .ok (.ireturn, 1) := by decide +kernel
set_option maxRecDepth 20000 in
theorem ggX0_findMost_X0_countShown : GoodIn wsX0_findMost wsX0_countShown := goodIn_r _ [6, 7, 8, 9, 10, 11, 12, 13, 14, 15, 16, 17, 18, 19, 20, 21, 22, 23, 24, 25, 26, 27, 28, 29, 39, 40, 41, 42, 43, 44, 45, 46, 47] (by decide +kernel) (by decide +kernel)
set_option maxRecDepth 20000 in
theorem gX0_findMost_X0_countShown : GoodIn wsX0_findMost (va_wsS RX0 46 yX0_countShown wsX0_countShown) := goodIn_app (goodIn_of _ (by decide +kernel)) ggX0_findMost_X0_countShown
theorem dX0_findMost_0 : decode cX0_findMost 0 = .ok (.iconst (-1), 1) := by decide +kernel
theorem dX0_findMost_1 : decode cX0_findMost 1 = .ok (.istore_n 2, 1) := by decide +kernel
theorem dX0_findMost_2 : decode cX0_findMost 2 = .ok (.iconst 0, 1) := by decide +kernel
theorem dX0_findMost_3 : decode cX0_findMost 3 = .ok (.istore_n 3, 1) := by decide +kernel
theorem dX0_findMost_4 : decode cX0_findMost 4 = .ok (.iconst 0, 1) := by decide +kernel
theorem dX0_findMost_5 : decode cX0_findMost 5 = .ok (.istore 4, 2) := by decide +kernel
theorem dX0_findMost_7 : decode cX0_findMost 7 = .ok (.iload 4, 2) := by decide +kernel
theorem dX0_findMost_9 : decode cX0_findMost 9 = .ok (.aload_n 1, 1) := by decide +kernel
theorem dX0_findMost_10 : decode cX0_findMost 10 = .ok (.getfield 37, 3) := by decide +kernel
theorem dX0_findMost_13 : decode cX0_findMost 13 = .ok (.if_icmp .ge 33, 3) := by decide +kernel
theorem dX0_findMost_16 : decode cX0_findMost 16 = .ok (.aload_n 0, 1) := by decide +kernel
theorem dX0_findMost_17 : decode cX0_findMost 17 = .ok (.aload_n 1, 1) := by decide +kernel
theorem dX0_findMost_18 : decode cX0_findMost 18 = .ok (.getfield 43, 3) := by decide +kernel
theorem dX0_findMost_21 : decode cX0_findMost 21 = .ok (.iload 4, 2) := by decide +kernel
theorem dX0_findMost_23 : decode cX0_findMost 23 = .ok (.invokestatic 46, 3) := by decide +kernel
theorem dX0_findMost_26 : decode cX0_findMost 26 = .ok (.istore 5, 2) := by decide +kernel
theorem dX0_findMost_28 : decode cX0_findMost 28 = .ok (.iload 5, 2) := by decide +kernel
theorem dX0_findMost_30 : decode cX0_findMost 30 = .ok (.iload_n 3, 1) := by decide +kernel
theorem dX0_findMost_31 : decode cX0_findMost 31 = .ok (.if_icmp .le 9, 3) := by decide +kernel
theorem dX0_findMost_34 : decode cX0_findMost 34 = .ok (.iload 5, 2) := by decide +kernel
theorem dX0_findMost_36 : decode cX0_findMost 36 = .ok (.istore_n 3, 1) := by decide +kernel
theorem dX0_findMost_37 : decode cX0_findMost 37 = .ok (.iload 4, 2) := by decide +kernel
theorem dX0_findMost_39 : decode cX0_findMost 39 = .ok (.istore_n 2, 1) := by decide +kernel
theorem dX0_findMost_40 : decode cX0_findMost 40 = .ok (.iinc 4 1, 3) := by decide +kernel
theorem dX0_findMost_43 : decode cX0_findMost 43 = .ok (.goto (-36), 3) := by decide +kernel
theorem dX0_findMost_46 : decode cX0_findMost 46 = .ok (.iload_n 2, 1) := by decide +kernel
theorem dX0_findMost_47 : decode cX0_findMost 47 = .ok (.ireturn, 1) := by decide +kernel
set_option maxRecDepth 20000 in
theorem ggX0_findAlike_X0_showedSame : GoodIn wsX0_findAlike wsX0_showedSame := goodIn_r _ [4, 5, 6, 7, 8, 9, 10, 11, 12, 13, 14, 15, 16, 17, 18, 19, 20, 21, 22, 23, 24, 25, 26, 27, 28, 29, 30, 31, 32, 33, 34, 35, 36] (by decide +kernel) (by decide +kernel)
set_option maxRecDepth 20000 in
theorem gX0_findAlike_X0_showedSame : GoodIn wsX0_findAlike (va_wsS RX0 50 yX0_showedSame wsX0_showedSame) := goodIn_app (goodIn_of _ (by decide +kernel)) ggX0_findAlike_X0_showedSame
theorem dX0_findAlike_0 : decode cX0_findAlike 0 = .ok (.iconst 0, 1) := by decide +kernel
theorem dX0_findAlike_1 : decode cX0_findAlike 1 = .ok (.istore_n 3, 1) := by decide +kernel
theorem dX0_findAlike_2 : decode cX0_findAlike 2 = .ok (.iconst 0, 1) := by decide +kernel
theorem dX0_findAlike_3 : decode cX0_findAlike 3 = .ok (.istore 4, 2) := by decide +kernel
theorem dX0_findAlike_5 : decode cX0_findAlike 5 = .ok (.iload 4, 2) := by decide +kernel
theorem dX0_findAlike_7 : decode cX0_findAlike 7 = .ok (.iload_n 1, 1) := by decide +kernel
theorem dX0_findAlike_8 : decode cX0_findAlike 8 = .ok (.if_icmp .ge 55, 3) := by decide +kernel
theorem dX0_findAlike_11 : decode cX0_findAlike 11 = .ok (.iload 4, 2) := by decide +kernel
theorem dX0_findAlike_13 : decode cX0_findAlike 13 = .ok (.iconst 1, 1) := by decide +kernel
theorem dX0_findAlike_14 : decode cX0_findAlike 14 = .ok (.iadd, 1) := by decide +kernel
theorem dX0_findAlike_15 : decode cX0_findAlike 15 = .ok (.istore 5, 2) := by decide +kernel
theorem dX0_findAlike_17 : decode cX0_findAlike 17 = .ok (.iload 5, 2) := by decide +kernel
theorem dX0_findAlike_19 : decode cX0_findAlike 19 = .ok (.iload_n 1, 1) := by decide +kernel
theorem dX0_findAlike_20 : decode cX0_findAlike 20 = .ok (.if_icmp .ge 37, 3) := by decide +kernel
theorem dX0_findAlike_23 : decode cX0_findAlike 23 = .ok (.aload_n 0, 1) := by decide +kernel
theorem dX0_findAlike_24 : decode cX0_findAlike 24 = .ok (.iload 4, 2) := by decide +kernel
theorem dX0_findAlike_26 : decode cX0_findAlike 26 = .ok (.iload 5, 2) := by decide +kernel
theorem dX0_findAlike_28 : decode cX0_findAlike 28 = .ok (.invokestatic 50, 3) := by decide +kernel
theorem dX0_findAlike_31 : decode cX0_findAlike 31 = .ok (.ifCond .eq 20, 3) := by decide +kernel
theorem dX0_findAlike_34 : decode cX0_findAlike 34 = .ok (.iload_n 3, 1) := by decide +kernel
theorem dX0_findAlike_35 : decode cX0_findAlike 35 = .ok (.iload_n 2, 1) := by decide +kernel
theorem dX0_findAlike_36 : decode cX0_findAlike 36 = .ok (.if_icmp .ne 12, 3) := by decide +kernel
theorem dX0_findAlike_39 : decode cX0_findAlike 39 = .ok (.bipush 10, 2) := by decide +kernel
theorem dX0_findAlike_41 : decode cX0_findAlike 41 = .ok (.iload 4, 2) := by decide +kernel
theorem dX0_findAlike_43 : decode cX0_findAlike 43 = .ok (.imul, 1) := by decide +kernel
theorem dX0_findAlike_44 : decode cX0_findAlike 44 = .ok (.iload 5, 2) := by decide +kernel
theorem dX0_findAlike_46 : decode cX0_findAlike 46 = .ok (.iadd, 1) := by decide +kernel
theorem dX0_findAlike_47 : decode cX0_findAlike 47 = .ok (.ireturn, 1) := by decide +kernel
theorem dX0_findAlike_48 : decode cX0_findAlike 48 = .ok (.iinc 3 1, 3) := by decide +kernel
theorem dX0_findAlike_51 : decode cX0_findAlike 51 = .ok (.iinc 5 1, 3) := by decide +kernel
theorem dX0_findAlike_54 : decode cX0_findAlike 54 = .ok (.goto (-37), 3) := by decide +kernel
theorem dX0_findAlike_57 : decode cX0_findAlike 57 = .ok (.iinc 4 1, 3) := by decide +kernel
theorem dX0_findAlike_60 : decode cX0_findAlike 60 = .ok (.goto (-55), 3) := by decide +kernel
theorem dX0_findAlike_63 : decode cX0_findAlike 63 = .ok (.iload_n 2, 1) := by decide +kernel
theorem dX0_findAlike_64 : decode cX0_findAlike 64 = .ok (.iconst (-1), 1) := by decide +kernel
theorem dX0_findAlike_65 : decode cX0_findAlike 65 = .ok (.if_icmp .ne 7, 3) := by decide +kernel
theorem dX0_findAlike_68 : decode cX0_findAlike 68 = .ok (.iload_n 3, 1) := by decide +kernel
theorem dX0_findAlike_69 : decode cX0_findAlike 69 = .ok (.goto 4, 3) := by decide +kernel
theorem dX0_findAlike_72 : decode cX0_findAlike 72 = .ok (.iconst (-1), 1) := by decide +kernel
theorem dX0_findAlike_73 : decode cX0_findAlike 73 = .ok (.ireturn, 1) := by decide +kernel
set_option maxRecDepth 20000 in
theorem ggX0_showedSame_X7_countRows : GoodIn wsX0_showedSame wsX7_countRows := goodIn_r _ [5, 6, 7, 8, 9, 10, 24, 25, 26, 27, 28, 29, 30, 31, 32] (by decide +kernel) (by decide +kernel)
set_option maxRecDepth 20000 in
theorem gX0_showedSame_X7_countRows : GoodIn wsX0_showedSame (wsV RX0 9 RX7 yX7_countRows wsX7_countRows) := goodIn_app (goodIn_of _ (by decide +kernel)) ggX0_showedSame_X7_countRows
set_option maxRecDepth 20000 in
theorem ggX0_showedSame_X7_showedAt : GoodIn wsX0_showedSame wsX7_showedAt := goodIn_r _ [14, 15, 6, 16, 2, 3, 4, 5, 7, 8, 9, 10, 17, 18, 19, 20, 21, 22, 23, 24, 25, 26, 27, 28, 29, 30, 31, 32] (by decide +kernel) (by decide +kernel)
set_option maxRecDepth 20000 in
theorem gX0_showedSame_X7_showedAt : GoodIn wsX0_showedSame (wsV RX0 21 RX7 yX7_showedAt wsX7_showedAt) := goodIn_app (goodIn_of _ (by decide +kernel)) ggX0_showedSame_X7_showedAt
theorem dX0_showedSame_0 : decode cX0_showedSame 0 = .ok (.iconst 0, 1) := by decide +kernel
theorem dX0_showedSame_1 : decode cX0_showedSame 1 = .ok (.istore_n 3, 1) := by decide +kernel
theorem dX0_showedSame_2 : decode cX0_showedSame 2 = .ok (.iload_n 3, 1) := by decide +kernel
theorem dX0_showedSame_3 : decode cX0_showedSame 3 = .ok (.aload_n 0, 1) := by decide +kernel
theorem dX0_showedSame_4 : decode cX0_showedSame 4 = .ok (.invokevirtual 9, 3) := by decide +kernel
theorem dX0_showedSame_7 : decode cX0_showedSame 7 = .ok (.if_icmp .ge 26, 3) := by decide +kernel
theorem dX0_showedSame_10 : decode cX0_showedSame 10 = .ok (.aload_n 0, 1) := by decide +kernel
theorem dX0_showedSame_11 : decode cX0_showedSame 11 = .ok (.iload_n 3, 1) := by decide +kernel
theorem dX0_showedSame_12 : decode cX0_showedSame 12 = .ok (.iload_n 1, 1) := by decide +kernel
theorem dX0_showedSame_13 : decode cX0_showedSame 13 = .ok (.invokevirtual 21, 3) := by decide +kernel
theorem dX0_showedSame_16 : decode cX0_showedSame 16 = .ok (.aload_n 0, 1) := by decide +kernel
theorem dX0_showedSame_17 : decode cX0_showedSame 17 = .ok (.iload_n 3, 1) := by decide +kernel
theorem dX0_showedSame_18 : decode cX0_showedSame 18 = .ok (.iload_n 2, 1) := by decide +kernel
theorem dX0_showedSame_19 : decode cX0_showedSame 19 = .ok (.invokevirtual 21, 3) := by decide +kernel
theorem dX0_showedSame_22 : decode cX0_showedSame 22 = .ok (.if_icmp .eq 5, 3) := by decide +kernel
theorem dX0_showedSame_25 : decode cX0_showedSame 25 = .ok (.iconst 0, 1) := by decide +kernel
theorem dX0_showedSame_26 : decode cX0_showedSame 26 = .ok (.ireturn, 1) := by decide +kernel
theorem dX0_showedSame_27 : decode cX0_showedSame 27 = .ok (.iinc 3 1, 3) := by decide +kernel
theorem dX0_showedSame_30 : decode cX0_showedSame 30 = .ok (.goto (-28), 3) := by decide +kernel
theorem dX0_showedSame_33 : decode cX0_showedSame 33 = .ok (.iconst 1, 1) := by decide +kernel
theorem dX0_showedSame_34 : decode cX0_showedSame 34 = .ok (.ireturn, 1) := by decide +kernel
set_option maxRecDepth 20000 in
theorem ggX0_findTurns_X5_colourAt : GoodIn wsX0_findTurns wsX5_colourAt := goodIn_r _ [5, 6, 7, 8, 4, 9, 10, 11, 12, 13, 14, 15, 16, 17, 18] (by decide +kernel) (by decide +kernel)
set_option maxRecDepth 20000 in
theorem gX0_findTurns_X5_colourAt : GoodIn wsX0_findTurns (wsV RX0 53 RX5 yX5_colourAt wsX5_colourAt) := goodIn_app (goodIn_of _ (by decide +kernel)) ggX0_findTurns_X5_colourAt
theorem dX0_findTurns_0 : decode cX0_findTurns 0 = .ok (.iload_n 2, 1) := by decide +kernel
theorem dX0_findTurns_1 : decode cX0_findTurns 1 = .ok (.iload_n 3, 1) := by decide +kernel
theorem dX0_findTurns_2 : decode cX0_findTurns 2 = .ok (.if_icmp .ne 7, 3) := by decide +kernel
theorem dX0_findTurns_5 : decode cX0_findTurns 5 = .ok (.iconst 1, 1) := by decide +kernel
theorem dX0_findTurns_6 : decode cX0_findTurns 6 = .ok (.goto 4, 3) := by decide +kernel
theorem dX0_findTurns_9 : decode cX0_findTurns 9 = .ok (.iconst 0, 1) := by decide +kernel
theorem dX0_findTurns_10 : decode cX0_findTurns 10 = .ok (.istore 4, 2) := by decide +kernel
theorem dX0_findTurns_12 : decode cX0_findTurns 12 = .ok (.iconst 0, 1) := by decide +kernel
theorem dX0_findTurns_13 : decode cX0_findTurns 13 = .ok (.istore 5, 2) := by decide +kernel
theorem dX0_findTurns_15 : decode cX0_findTurns 15 = .ok (.iload_n 2, 1) := by decide +kernel
theorem dX0_findTurns_16 : decode cX0_findTurns 16 = .ok (.iconst (-1), 1) := by decide +kernel
theorem dX0_findTurns_17 : decode cX0_findTurns 17 = .ok (.if_icmp .eq 91, 3) := by decide +kernel
theorem dX0_findTurns_20 : decode cX0_findTurns 20 = .ok (.iload 5, 2) := by decide +kernel
theorem dX0_findTurns_22 : decode cX0_findTurns 22 = .ok (.iconst 4, 1) := by decide +kernel
theorem dX0_findTurns_23 : decode cX0_findTurns 23 = .ok (.if_icmp .ge 85, 3) := by decide +kernel
theorem dX0_findTurns_26 : decode cX0_findTurns 26 = .ok (.aload_n 0, 1) := by decide +kernel
theorem dX0_findTurns_27 : decode cX0_findTurns 27 = .ok (.iload_n 1, 1) := by decide +kernel
theorem dX0_findTurns_28 : decode cX0_findTurns 28 = .ok (.iload 5, 2) := by decide +kernel
theorem dX0_findTurns_30 : decode cX0_findTurns 30 = .ok (.invokevirtual 53, 3) := by decide +kernel
theorem dX0_findTurns_33 : decode cX0_findTurns 33 = .ok (.iload_n 2, 1) := by decide +kernel
theorem dX0_findTurns_34 : decode cX0_findTurns 34 = .ok (.if_icmp .ne 68, 3) := by decide +kernel
theorem dX0_findTurns_37 : decode cX0_findTurns 37 = .ok (.iload_n 3, 1) := by decide +kernel
theorem dX0_findTurns_38 : decode cX0_findTurns 38 = .ok (.iconst (-1), 1) := by decide +kernel
theorem dX0_findTurns_39 : decode cX0_findTurns 39 = .ok (.if_icmp .eq 8, 3) := by decide +kernel
theorem dX0_findTurns_42 : decode cX0_findTurns 42 = .ok (.iload_n 3, 1) := by decide +kernel
theorem dX0_findTurns_43 : decode cX0_findTurns 43 = .ok (.iload_n 2, 1) := by decide +kernel
theorem dX0_findTurns_44 : decode cX0_findTurns 44 = .ok (.if_icmp .ne 7, 3) := by decide +kernel
theorem dX0_findTurns_47 : decode cX0_findTurns 47 = .ok (.iconst 1, 1) := by decide +kernel
theorem dX0_findTurns_48 : decode cX0_findTurns 48 = .ok (.goto 4, 3) := by decide +kernel
theorem dX0_findTurns_51 : decode cX0_findTurns 51 = .ok (.iconst 0, 1) := by decide +kernel
theorem dX0_findTurns_52 : decode cX0_findTurns 52 = .ok (.istore 6, 2) := by decide +kernel
theorem dX0_findTurns_54 : decode cX0_findTurns 54 = .ok (.iload 6, 2) := by decide +kernel
theorem dX0_findTurns_56 : decode cX0_findTurns 56 = .ok (.ifCond .ne 16, 3) := by decide +kernel
theorem dX0_findTurns_59 : decode cX0_findTurns 59 = .ok (.iload_n 3, 1) := by decide +kernel
theorem dX0_findTurns_60 : decode cX0_findTurns 60 = .ok (.aload_n 0, 1) := by decide +kernel
theorem dX0_findTurns_61 : decode cX0_findTurns 61 = .ok (.iload_n 1, 1) := by decide +kernel
theorem dX0_findTurns_62 : decode cX0_findTurns 62 = .ok (.iload 5, 2) := by decide +kernel
theorem dX0_findTurns_64 : decode cX0_findTurns 64 = .ok (.iconst 1, 1) := by decide +kernel
theorem dX0_findTurns_65 : decode cX0_findTurns 65 = .ok (.isub, 1) := by decide +kernel
theorem dX0_findTurns_66 : decode cX0_findTurns 66 = .ok (.invokevirtual 53, 3) := by decide +kernel
theorem dX0_findTurns_69 : decode cX0_findTurns 69 = .ok (.if_icmp .ne 9, 3) := by decide +kernel
theorem dX0_findTurns_72 : decode cX0_findTurns 72 = .ok (.iload 4, 2) := by decide +kernel
theorem dX0_findTurns_74 : decode cX0_findTurns 74 = .ok (.iconst 2, 1) := by decide +kernel
theorem dX0_findTurns_75 : decode cX0_findTurns 75 = .ok (.ior, 1) := by decide +kernel
theorem dX0_findTurns_76 : decode cX0_findTurns 76 = .ok (.istore 4, 2) := by decide +kernel
theorem dX0_findTurns_78 : decode cX0_findTurns 78 = .ok (.iload 6, 2) := by decide +kernel
theorem dX0_findTurns_80 : decode cX0_findTurns 80 = .ok (.ifCond .ne 16, 3) := by decide +kernel
theorem dX0_findTurns_83 : decode cX0_findTurns 83 = .ok (.iload_n 3, 1) := by decide +kernel
theorem dX0_findTurns_84 : decode cX0_findTurns 84 = .ok (.aload_n 0, 1) := by decide +kernel
theorem dX0_findTurns_85 : decode cX0_findTurns 85 = .ok (.iload_n 1, 1) := by decide +kernel
theorem dX0_findTurns_86 : decode cX0_findTurns 86 = .ok (.iload 5, 2) := by decide +kernel
theorem dX0_findTurns_88 : decode cX0_findTurns 88 = .ok (.iconst 1, 1) := by decide +kernel
theorem dX0_findTurns_89 : decode cX0_findTurns 89 = .ok (.iadd, 1) := by decide +kernel
theorem dX0_findTurns_90 : decode cX0_findTurns 90 = .ok (.invokevirtual 53, 3) := by decide +kernel
theorem dX0_findTurns_93 : decode cX0_findTurns 93 = .ok (.if_icmp .ne 9, 3) := by decide +kernel
theorem dX0_findTurns_96 : decode cX0_findTurns 96 = .ok (.iload 4, 2) := by decide +kernel
theorem dX0_findTurns_98 : decode cX0_findTurns 98 = .ok (.iconst 4, 1) := by decide +kernel
theorem dX0_findTurns_99 : decode cX0_findTurns 99 = .ok (.ior, 1) := by decide +kernel
theorem dX0_findTurns_100 : decode cX0_findTurns 100 = .ok (.istore 4, 2) := by decide +kernel
theorem dX0_findTurns_102 : decode cX0_findTurns 102 = .ok (.iinc 5 1, 3) := by decide +kernel
theorem dX0_findTurns_105 : decode cX0_findTurns 105 = .ok (.goto (-90), 3) := by decide +kernel
theorem dX0_findTurns_108 : decode cX0_findTurns 108 = .ok (.iload 4, 2) := by decide +kernel
theorem dX0_findTurns_110 : decode cX0_findTurns 110 = .ok (.ireturn, 1) := by decide +kernel
set_option maxRecDepth 20000 in
theorem ggX1_init_X7_init : GoodIn wsX1_init wsX7_init := goodIn_r _ [9, 10, 2, 3, 11, 12, 13, 14, 15, 16, 17, 18, 19, 23, 24, 25, 26, 27, 28, 29, 30, 31] (by decide +kernel) (by decide +kernel)
set_option maxRecDepth 20000 in
theorem gX1_init_X7_init_n17 : GoodIn wsX1_init (wsX7_init) := ggX1_init_X7_init
theorem dX1_init_0 : decode cX1_init 0 = .ok (.aload_n 0, 1) := by decide +kernel
theorem dX1_init_1 : decode cX1_init 1 = .ok (.invokespecial 3, 3) := by decide +kernel
theorem dX1_init_4 : decode cX1_init 4 = .ok (.aload_n 0, 1) := by decide +kernel
theorem dX1_init_5 : decode cX1_init 5 = .ok (.bipush 30, 2) := by decide +kernel
theorem dX1_init_7 : decode cX1_init 7 = .ok (.anewarray 9, 3) := by decide +kernel
theorem dX1_init_10 : decode cX1_init 10 = .ok (.putfield 11, 3) := by decide +kernel
theorem dX1_init_13 : decode cX1_init 13 = .ok (.iconst 0, 1) := by decide +kernel
theorem dX1_init_14 : decode cX1_init 14 = .ok (.istore_n 1, 1) := by decide +kernel
theorem dX1_init_15 : decode cX1_init 15 = .ok (.iload_n 1, 1) := by decide +kernel
theorem dX1_init_16 : decode cX1_init 16 = .ok (.aload_n 0, 1) := by decide +kernel
theorem dX1_init_17 : decode cX1_init 17 = .ok (.getfield 11, 3) := by decide +kernel
theorem dX1_init_20 : decode cX1_init 20 = .ok (.arraylength, 1) := by decide +kernel
theorem dX1_init_21 : decode cX1_init 21 = .ok (.if_icmp .ge 22, 3) := by decide +kernel
theorem dX1_init_24 : decode cX1_init 24 = .ok (.aload_n 0, 1) := by decide +kernel
theorem dX1_init_25 : decode cX1_init 25 = .ok (.getfield 11, 3) := by decide +kernel
theorem dX1_init_28 : decode cX1_init 28 = .ok (.iload_n 1, 1) := by decide +kernel
theorem dX1_init_29 : decode cX1_init 29 = .ok (.new 9, 3) := by decide +kernel
theorem dX1_init_32 : decode cX1_init 32 = .ok (.dup, 1) := by decide +kernel
theorem dX1_init_33 : decode cX1_init 33 = .ok (.invokespecial 17, 3) := by decide +kernel
theorem dX1_init_36 : decode cX1_init 36 = .ok (.aastore, 1) := by decide +kernel
theorem dX1_init_37 : decode cX1_init 37 = .ok (.iinc 1 1, 3) := by decide +kernel
theorem dX1_init_40 : decode cX1_init 40 = .ok (.goto (-25), 3) := by decide +kernel
theorem dX1_init_43 : decode cX1_init 43 = .ok (.return_, 1) := by decide +kernel
theorem dX1_forget_0 : decode cX1_forget 0 = .ok (.aload_n 0, 1) := by decide +kernel
theorem dX1_forget_1 : decode cX1_forget 1 = .ok (.iconst 0, 1) := by decide +kernel
theorem dX1_forget_2 : decode cX1_forget 2 = .ok (.putfield 18, 3) := by decide +kernel
theorem dX1_forget_5 : decode cX1_forget 5 = .ok (.return_, 1) := by decide +kernel
set_option maxRecDepth 20000 in
theorem ggX1_remember_X1_weaveAt : GoodIn wsX1_remember wsX1_weaveAt := goodIn_r _ [11, 12, 30, 31, 32] (by decide +kernel) (by decide +kernel)
set_option maxRecDepth 20000 in
theorem gX1_remember_X1_weaveAt : GoodIn wsX1_remember (wsV RX1 25 RX1 yX1_weaveAt wsX1_weaveAt) := goodIn_app (goodIn_of _ (by decide +kernel)) ggX1_remember_X1_weaveAt
set_option maxRecDepth 20000 in
theorem ggX1_remember_X7_become : GoodIn wsX1_remember wsX7_become := goodIn_r _ [17, 18, 19, 20, 21, 22, 23, 24, 25, 26, 27, 28, 29, 33, 34, 35, 36, 37, 38, 39, 40, 41] (by decide +kernel) (by decide +kernel)
set_option maxRecDepth 20000 in
theorem gX1_remember_X7_become : GoodIn wsX1_remember (wsV RX1 29 RX7 yX7_become wsX7_become) := goodIn_app (goodIn_of _ (by decide +kernel)) ggX1_remember_X7_become
theorem dX1_remember_0 : decode cX1_remember 0 = .ok (.aload_n 0, 1) := by decide +kernel
theorem dX1_remember_1 : decode cX1_remember 1 = .ok (.aload_n 0, 1) := by decide +kernel
theorem dX1_remember_2 : decode cX1_remember 2 = .ok (.getfield 22, 3) := by decide +kernel
theorem dX1_remember_5 : decode cX1_remember 5 = .ok (.invokevirtual 25, 3) := by decide +kernel
theorem dX1_remember_8 : decode cX1_remember 8 = .ok (.astore_n 2, 1) := by decide +kernel
theorem dX1_remember_9 : decode cX1_remember 9 = .ok (.aload_n 2, 1) := by decide +kernel
theorem dX1_remember_10 : decode cX1_remember 10 = .ok (.ifnonnull 4, 3) := by decide +kernel
theorem dX1_remember_13 : decode cX1_remember 13 = .ok (.return_, 1) := by decide +kernel
theorem dX1_remember_14 : decode cX1_remember 14 = .ok (.aload_n 2, 1) := by decide +kernel
theorem dX1_remember_15 : decode cX1_remember 15 = .ok (.aload_n 1, 1) := by decide +kernel
theorem dX1_remember_16 : decode cX1_remember 16 = .ok (.invokevirtual 29, 3) := by decide +kernel
theorem dX1_remember_19 : decode cX1_remember 19 = .ok (.aload_n 0, 1) := by decide +kernel
theorem dX1_remember_20 : decode cX1_remember 20 = .ok (.aload_n 0, 1) := by decide +kernel
theorem dX1_remember_21 : decode cX1_remember 21 = .ok (.getfield 22, 3) := by decide +kernel
theorem dX1_remember_24 : decode cX1_remember 24 = .ok (.iconst 1, 1) := by decide +kernel
theorem dX1_remember_25 : decode cX1_remember 25 = .ok (.iadd, 1) := by decide +kernel
theorem dX1_remember_26 : decode cX1_remember 26 = .ok (.bipush 30, 2) := by decide +kernel
theorem dX1_remember_28 : decode cX1_remember 28 = .ok (.irem, 1) := by decide +kernel
theorem dX1_remember_29 : decode cX1_remember 29 = .ok (.putfield 22, 3) := by decide +kernel
theorem dX1_remember_32 : decode cX1_remember 32 = .ok (.aload_n 0, 1) := by decide +kernel
theorem dX1_remember_33 : decode cX1_remember 33 = .ok (.bipush 30, 2) := by decide +kernel
theorem dX1_remember_35 : decode cX1_remember 35 = .ok (.aload_n 0, 1) := by decide +kernel
theorem dX1_remember_36 : decode cX1_remember 36 = .ok (.getfield 18, 3) := by decide +kernel
theorem dX1_remember_39 : decode cX1_remember 39 = .ok (.iconst 1, 1) := by decide +kernel
theorem dX1_remember_40 : decode cX1_remember 40 = .ok (.iadd, 1) := by decide +kernel
theorem dX1_remember_41 : decode cX1_remember 41 = .ok (.invokestatic 33, 3) := by decide +kernel
theorem dX1_remember_44 : decode cX1_remember 44 = .ok (.putfield 18, 3) := by decide +kernel
theorem dX1_remember_47 : decode cX1_remember 47 = .ok (.return_, 1) := by decide +kernel
set_option maxRecDepth 20000 in
theorem ggX1_takeBack_J9_floorMod_7cf53 : GoodIn wsX1_takeBack wsJ9_floorMod_7cf53 := goodIn_r _ [6] (by decide +kernel) (by decide +kernel)
set_option maxRecDepth 20000 in
theorem gX1_takeBack_J9_floorMod_7cf53 : GoodIn wsX1_takeBack (va_wsS RX1 39 yJ9_floorMod_7cf53 wsJ9_floorMod_7cf53) := goodIn_app (goodIn_of _ (by decide +kernel)) ggX1_takeBack_J9_floorMod_7cf53
set_option maxRecDepth 20000 in
theorem ggX1_takeBack_X1_weaveAt : GoodIn wsX1_takeBack wsX1_weaveAt := goodIn_r _ [11, 12, 30, 31, 32] (by decide +kernel) (by decide +kernel)
set_option maxRecDepth 20000 in
theorem gX1_takeBack_X1_weaveAt : GoodIn wsX1_takeBack (wsV RX1 25 RX1 yX1_weaveAt wsX1_weaveAt) := goodIn_app (goodIn_of _ (by decide +kernel)) ggX1_takeBack_X1_weaveAt
set_option maxRecDepth 20000 in
theorem ggX1_takeBack_X7_become : GoodIn wsX1_takeBack wsX7_become := goodIn_r _ [17, 18, 19, 20, 21, 22, 23, 24, 25, 26, 27, 28, 29, 33, 34, 35, 36, 37, 38, 39, 40, 41] (by decide +kernel) (by decide +kernel)
set_option maxRecDepth 20000 in
theorem gX1_takeBack_X7_become : GoodIn wsX1_takeBack (wsV RX1 29 RX7 yX7_become wsX7_become) := goodIn_app (goodIn_of _ (by decide +kernel)) ggX1_takeBack_X7_become
theorem dX1_takeBack_0 : decode cX1_takeBack 0 = .ok (.aload_n 0, 1) := by decide +kernel
theorem dX1_takeBack_1 : decode cX1_takeBack 1 = .ok (.getfield 22, 3) := by decide +kernel
theorem dX1_takeBack_4 : decode cX1_takeBack 4 = .ok (.iload_n 1, 1) := by decide +kernel
theorem dX1_takeBack_5 : decode cX1_takeBack 5 = .ok (.isub, 1) := by decide +kernel
theorem dX1_takeBack_6 : decode cX1_takeBack 6 = .ok (.bipush 30, 2) := by decide +kernel
theorem dX1_takeBack_8 : decode cX1_takeBack 8 = .ok (.invokestatic 39, 3) := by decide +kernel
theorem dX1_takeBack_11 : decode cX1_takeBack 11 = .ok (.istore_n 3, 1) := by decide +kernel
theorem dX1_takeBack_12 : decode cX1_takeBack 12 = .ok (.aload_n 0, 1) := by decide +kernel
theorem dX1_takeBack_13 : decode cX1_takeBack 13 = .ok (.iload_n 3, 1) := by decide +kernel
theorem dX1_takeBack_14 : decode cX1_takeBack 14 = .ok (.invokevirtual 25, 3) := by decide +kernel
theorem dX1_takeBack_17 : decode cX1_takeBack 17 = .ok (.astore 4, 2) := by decide +kernel
theorem dX1_takeBack_19 : decode cX1_takeBack 19 = .ok (.iload_n 1, 1) := by decide +kernel
theorem dX1_takeBack_20 : decode cX1_takeBack 20 = .ok (.aload_n 0, 1) := by decide +kernel
theorem dX1_takeBack_21 : decode cX1_takeBack 21 = .ok (.getfield 18, 3) := by decide +kernel
theorem dX1_takeBack_24 : decode cX1_takeBack 24 = .ok (.if_icmp .gt 8, 3) := by decide +kernel
theorem dX1_takeBack_27 : decode cX1_takeBack 27 = .ok (.aload 4, 2) := by decide +kernel
theorem dX1_takeBack_29 : decode cX1_takeBack 29 = .ok (.ifnonnull 5, 3) := by decide +kernel
theorem dX1_takeBack_32 : decode cX1_takeBack 32 = .ok (.iconst 0, 1) := by decide +kernel
theorem dX1_takeBack_33 : decode cX1_takeBack 33 = .ok (.ireturn, 1) := by decide +kernel
theorem dX1_takeBack_34 : decode cX1_takeBack 34 = .ok (.aload_n 2, 1) := by decide +kernel
theorem dX1_takeBack_35 : decode cX1_takeBack 35 = .ok (.aload 4, 2) := by decide +kernel
theorem dX1_takeBack_37 : decode cX1_takeBack 37 = .ok (.invokevirtual 29, 3) := by decide +kernel
theorem dX1_takeBack_40 : decode cX1_takeBack 40 = .ok (.aload_n 0, 1) := by decide +kernel
theorem dX1_takeBack_41 : decode cX1_takeBack 41 = .ok (.iload_n 3, 1) := by decide +kernel
theorem dX1_takeBack_42 : decode cX1_takeBack 42 = .ok (.putfield 22, 3) := by decide +kernel
theorem dX1_takeBack_45 : decode cX1_takeBack 45 = .ok (.aload_n 0, 1) := by decide +kernel
theorem dX1_takeBack_46 : decode cX1_takeBack 46 = .ok (.dup, 1) := by decide +kernel
theorem dX1_takeBack_47 : decode cX1_takeBack 47 = .ok (.getfield 18, 3) := by decide +kernel
theorem dX1_takeBack_50 : decode cX1_takeBack 50 = .ok (.iload_n 1, 1) := by decide +kernel
theorem dX1_takeBack_51 : decode cX1_takeBack 51 = .ok (.isub, 1) := by decide +kernel
theorem dX1_takeBack_52 : decode cX1_takeBack 52 = .ok (.putfield 18, 3) := by decide +kernel
theorem dX1_takeBack_55 : decode cX1_takeBack 55 = .ok (.iconst 1, 1) := by decide +kernel
theorem dX1_takeBack_56 : decode cX1_takeBack 56 = .ok (.ireturn, 1) := by decide +kernel
theorem dX1_weaveAt_0 : decode cX1_weaveAt 0 = .ok (.iload_n 1, 1) := by decide +kernel
theorem dX1_weaveAt_1 : decode cX1_weaveAt 1 = .ok (.ifCond .lt 21, 3) := by decide +kernel
theorem dX1_weaveAt_4 : decode cX1_weaveAt 4 = .ok (.iload_n 1, 1) := by decide +kernel
theorem dX1_weaveAt_5 : decode cX1_weaveAt 5 = .ok (.aload_n 0, 1) := by decide +kernel
theorem dX1_weaveAt_6 : decode cX1_weaveAt 6 = .ok (.getfield 11, 3) := by decide +kernel
theorem dX1_weaveAt_9 : decode cX1_weaveAt 9 = .ok (.arraylength, 1) := by decide +kernel
theorem dX1_weaveAt_10 : decode cX1_weaveAt 10 = .ok (.if_icmp .ge 12, 3) := by decide +kernel
theorem dX1_weaveAt_13 : decode cX1_weaveAt 13 = .ok (.aload_n 0, 1) := by decide +kernel
theorem dX1_weaveAt_14 : decode cX1_weaveAt 14 = .ok (.getfield 11, 3) := by decide +kernel
theorem dX1_weaveAt_17 : decode cX1_weaveAt 17 = .ok (.iload_n 1, 1) := by decide +kernel
theorem dX1_weaveAt_18 : decode cX1_weaveAt 18 = .ok (.aaload, 1) := by decide +kernel
theorem dX1_weaveAt_19 : decode cX1_weaveAt 19 = .ok (.goto 4, 3) := by decide +kernel
theorem dX1_weaveAt_22 : decode cX1_weaveAt 22 = .ok (.aconst_null, 1) := by decide +kernel
theorem dX1_weaveAt_23 : decode cX1_weaveAt 23 = .ok (.areturn, 1) := by decide +kernel
set_option maxRecDepth 20000 in
theorem ggX2_init_X7_init : GoodIn wsX2_init wsX7_init := goodIn_r _ [9, 10, 2, 3, 11, 12, 13, 14, 15, 16, 17, 18, 19, 20, 21, 22, 23, 24, 25, 26, 27, 28] (by decide +kernel) (by decide +kernel)
set_option maxRecDepth 20000 in
theorem gX2_init_X7_init_n9 : GoodIn wsX2_init (wsX7_init) := ggX2_init_X7_init
theorem dX2_init_0 : decode cX2_init 0 = .ok (.aload_n 0, 1) := by decide +kernel
theorem dX2_init_1 : decode cX2_init 1 = .ok (.invokespecial 1, 3) := by decide +kernel
theorem dX2_init_4 : decode cX2_init 4 = .ok (.aload_n 0, 1) := by decide +kernel
theorem dX2_init_5 : decode cX2_init 5 = .ok (.new 7, 3) := by decide +kernel
theorem dX2_init_8 : decode cX2_init 8 = .ok (.dup, 1) := by decide +kernel
theorem dX2_init_9 : decode cX2_init 9 = .ok (.invokespecial 9, 3) := by decide +kernel
theorem dX2_init_12 : decode cX2_init 12 = .ok (.putfield 10, 3) := by decide +kernel
theorem dX2_init_15 : decode cX2_init 15 = .ok (.return_, 1) := by decide +kernel
theorem dX3_init_0 : decode cX3_init 0 = .ok (.aload_n 0, 1) := by decide +kernel
theorem dX3_init_1 : decode cX3_init 1 = .ok (.invokespecial 3, 3) := by decide +kernel
theorem dX3_init_4 : decode cX3_init 4 = .ok (.aload_n 0, 1) := by decide +kernel
theorem dX3_init_5 : decode cX3_init 5 = .ok (.bipush 8, 2) := by decide +kernel
theorem dX3_init_7 : decode cX3_init 7 = .ok (.newarray .int, 2) := by decide +kernel
theorem dX3_init_9 : decode cX3_init 9 = .ok (.putfield 9, 3) := by decide +kernel
theorem dX3_init_12 : decode cX3_init 12 = .ok (.aload_n 0, 1) := by decide +kernel
theorem dX3_init_13 : decode cX3_init 13 = .ok (.bipush 8, 2) := by decide +kernel
theorem dX3_init_15 : decode cX3_init 15 = .ok (.newarray .int, 2) := by decide +kernel
theorem dX3_init_17 : decode cX3_init 17 = .ok (.putfield 15, 3) := by decide +kernel
theorem dX3_init_20 : decode cX3_init 20 = .ok (.aload_n 0, 1) := by decide +kernel
theorem dX3_init_21 : decode cX3_init 21 = .ok (.bipush 8, 2) := by decide +kernel
theorem dX3_init_23 : decode cX3_init 23 = .ok (.newarray .int, 2) := by decide +kernel
theorem dX3_init_25 : decode cX3_init 25 = .ok (.putfield 18, 3) := by decide +kernel
theorem dX3_init_28 : decode cX3_init 28 = .ok (.aload_n 0, 1) := by decide +kernel
theorem dX3_init_29 : decode cX3_init 29 = .ok (.bipush 20, 2) := by decide +kernel
theorem dX3_init_31 : decode cX3_init 31 = .ok (.newarray .int, 2) := by decide +kernel
theorem dX3_init_33 : decode cX3_init 33 = .ok (.putfield 21, 3) := by decide +kernel
theorem dX3_init_36 : decode cX3_init 36 = .ok (.aload_n 0, 1) := by decide +kernel
theorem dX3_init_37 : decode cX3_init 37 = .ok (.bipush 20, 2) := by decide +kernel
theorem dX3_init_39 : decode cX3_init 39 = .ok (.newarray .int, 2) := by decide +kernel
theorem dX3_init_41 : decode cX3_init 41 = .ok (.putfield 24, 3) := by decide +kernel
theorem dX3_init_44 : decode cX3_init 44 = .ok (.return_, 1) := by decide +kernel
theorem dX3_forget_0 : decode cX3_forget 0 = .ok (.aload_n 0, 1) := by decide +kernel
theorem dX3_forget_1 : decode cX3_forget 1 = .ok (.iconst 0, 1) := by decide +kernel
theorem dX3_forget_2 : decode cX3_forget 2 = .ok (.putfield 27, 3) := by decide +kernel
theorem dX3_forget_5 : decode cX3_forget 5 = .ok (.aload_n 0, 1) := by decide +kernel
theorem dX3_forget_6 : decode cX3_forget 6 = .ok (.iconst 0, 1) := by decide +kernel
theorem dX3_forget_7 : decode cX3_forget 7 = .ok (.putfield 31, 3) := by decide +kernel
theorem dX3_forget_10 : decode cX3_forget 10 = .ok (.return_, 1) := by decide +kernel
theorem dX3_addSeen_0 : decode cX3_addSeen 0 = .ok (.aload_n 0, 1) := by decide +kernel
theorem dX3_addSeen_1 : decode cX3_addSeen 1 = .ok (.getfield 27, 3) := by decide +kernel
theorem dX3_addSeen_4 : decode cX3_addSeen 4 = .ok (.bipush 8, 2) := by decide +kernel
theorem dX3_addSeen_6 : decode cX3_addSeen 6 = .ok (.if_icmp .lt 5, 3) := by decide +kernel
theorem dX3_addSeen_9 : decode cX3_addSeen 9 = .ok (.iconst 0, 1) := by decide +kernel
theorem dX3_addSeen_10 : decode cX3_addSeen 10 = .ok (.ireturn, 1) := by decide +kernel
theorem dX3_addSeen_11 : decode cX3_addSeen 11 = .ok (.aload_n 0, 1) := by decide +kernel
theorem dX3_addSeen_12 : decode cX3_addSeen 12 = .ok (.getfield 9, 3) := by decide +kernel
theorem dX3_addSeen_15 : decode cX3_addSeen 15 = .ok (.aload_n 0, 1) := by decide +kernel
theorem dX3_addSeen_16 : decode cX3_addSeen 16 = .ok (.getfield 27, 3) := by decide +kernel
theorem dX3_addSeen_19 : decode cX3_addSeen 19 = .ok (.iload_n 1, 1) := by decide +kernel
theorem dX3_addSeen_20 : decode cX3_addSeen 20 = .ok (.iastore, 1) := by decide +kernel
theorem dX3_addSeen_21 : decode cX3_addSeen 21 = .ok (.aload_n 0, 1) := by decide +kernel
theorem dX3_addSeen_22 : decode cX3_addSeen 22 = .ok (.getfield 15, 3) := by decide +kernel
theorem dX3_addSeen_25 : decode cX3_addSeen 25 = .ok (.aload_n 0, 1) := by decide +kernel
theorem dX3_addSeen_26 : decode cX3_addSeen 26 = .ok (.getfield 27, 3) := by decide +kernel
theorem dX3_addSeen_29 : decode cX3_addSeen 29 = .ok (.iload_n 2, 1) := by decide +kernel
theorem dX3_addSeen_30 : decode cX3_addSeen 30 = .ok (.iastore, 1) := by decide +kernel
theorem dX3_addSeen_31 : decode cX3_addSeen 31 = .ok (.aload_n 0, 1) := by decide +kernel
theorem dX3_addSeen_32 : decode cX3_addSeen 32 = .ok (.getfield 18, 3) := by decide +kernel
theorem dX3_addSeen_35 : decode cX3_addSeen 35 = .ok (.aload_n 0, 1) := by decide +kernel
theorem dX3_addSeen_36 : decode cX3_addSeen 36 = .ok (.getfield 27, 3) := by decide +kernel
theorem dX3_addSeen_39 : decode cX3_addSeen 39 = .ok (.iload_n 3, 1) := by decide +kernel
theorem dX3_addSeen_40 : decode cX3_addSeen 40 = .ok (.iastore, 1) := by decide +kernel
theorem dX3_addSeen_41 : decode cX3_addSeen 41 = .ok (.aload_n 0, 1) := by decide +kernel
theorem dX3_addSeen_42 : decode cX3_addSeen 42 = .ok (.dup, 1) := by decide +kernel
theorem dX3_addSeen_43 : decode cX3_addSeen 43 = .ok (.getfield 27, 3) := by decide +kernel
theorem dX3_addSeen_46 : decode cX3_addSeen 46 = .ok (.iconst 1, 1) := by decide +kernel
theorem dX3_addSeen_47 : decode cX3_addSeen 47 = .ok (.iadd, 1) := by decide +kernel
theorem dX3_addSeen_48 : decode cX3_addSeen 48 = .ok (.putfield 27, 3) := by decide +kernel
theorem dX3_addSeen_51 : decode cX3_addSeen 51 = .ok (.iconst 1, 1) := by decide +kernel
theorem dX3_addSeen_52 : decode cX3_addSeen 52 = .ok (.ireturn, 1) := by decide +kernel
theorem dX3_addEntry_0 : decode cX3_addEntry 0 = .ok (.aload_n 0, 1) := by decide +kernel
theorem dX3_addEntry_1 : decode cX3_addEntry 1 = .ok (.getfield 31, 3) := by decide +kernel
theorem dX3_addEntry_4 : decode cX3_addEntry 4 = .ok (.bipush 20, 2) := by decide +kernel
theorem dX3_addEntry_6 : decode cX3_addEntry 6 = .ok (.if_icmp .lt 5, 3) := by decide +kernel
theorem dX3_addEntry_9 : decode cX3_addEntry 9 = .ok (.iconst 0, 1) := by decide +kernel
theorem dX3_addEntry_10 : decode cX3_addEntry 10 = .ok (.ireturn, 1) := by decide +kernel
theorem dX3_addEntry_11 : decode cX3_addEntry 11 = .ok (.aload_n 0, 1) := by decide +kernel
theorem dX3_addEntry_12 : decode cX3_addEntry 12 = .ok (.getfield 21, 3) := by decide +kernel
theorem dX3_addEntry_15 : decode cX3_addEntry 15 = .ok (.aload_n 0, 1) := by decide +kernel
theorem dX3_addEntry_16 : decode cX3_addEntry 16 = .ok (.getfield 31, 3) := by decide +kernel
theorem dX3_addEntry_19 : decode cX3_addEntry 19 = .ok (.iload_n 1, 1) := by decide +kernel
theorem dX3_addEntry_20 : decode cX3_addEntry 20 = .ok (.iastore, 1) := by decide +kernel
theorem dX3_addEntry_21 : decode cX3_addEntry 21 = .ok (.aload_n 0, 1) := by decide +kernel
theorem dX3_addEntry_22 : decode cX3_addEntry 22 = .ok (.getfield 24, 3) := by decide +kernel
theorem dX3_addEntry_25 : decode cX3_addEntry 25 = .ok (.aload_n 0, 1) := by decide +kernel
theorem dX3_addEntry_26 : decode cX3_addEntry 26 = .ok (.getfield 31, 3) := by decide +kernel
theorem dX3_addEntry_29 : decode cX3_addEntry 29 = .ok (.iload_n 2, 1) := by decide +kernel
theorem dX3_addEntry_30 : decode cX3_addEntry 30 = .ok (.iastore, 1) := by decide +kernel
theorem dX3_addEntry_31 : decode cX3_addEntry 31 = .ok (.aload_n 0, 1) := by decide +kernel
theorem dX3_addEntry_32 : decode cX3_addEntry 32 = .ok (.dup, 1) := by decide +kernel
theorem dX3_addEntry_33 : decode cX3_addEntry 33 = .ok (.getfield 31, 3) := by decide +kernel
theorem dX3_addEntry_36 : decode cX3_addEntry 36 = .ok (.iconst 1, 1) := by decide +kernel
theorem dX3_addEntry_37 : decode cX3_addEntry 37 = .ok (.iadd, 1) := by decide +kernel
theorem dX3_addEntry_38 : decode cX3_addEntry 38 = .ok (.putfield 31, 3) := by decide +kernel
theorem dX3_addEntry_41 : decode cX3_addEntry 41 = .ok (.iconst 1, 1) := by decide +kernel
theorem dX3_addEntry_42 : decode cX3_addEntry 42 = .ok (.ireturn, 1) := by decide +kernel
theorem dX3_findWrong_0 : decode cX3_findWrong 0 = .ok (.iconst 0, 1) := by decide +kernel
theorem dX3_findWrong_1 : decode cX3_findWrong 1 = .ok (.istore_n 2, 1) := by decide +kernel
theorem dX3_findWrong_2 : decode cX3_findWrong 2 = .ok (.iload_n 2, 1) := by decide +kernel
theorem dX3_findWrong_3 : decode cX3_findWrong 3 = .ok (.aload_n 0, 1) := by decide +kernel
theorem dX3_findWrong_4 : decode cX3_findWrong 4 = .ok (.getfield 31, 3) := by decide +kernel
theorem dX3_findWrong_7 : decode cX3_findWrong 7 = .ok (.if_icmp .ge 40, 3) := by decide +kernel
theorem dX3_findWrong_10 : decode cX3_findWrong 10 = .ok (.iload_n 2, 1) := by decide +kernel
theorem dX3_findWrong_11 : decode cX3_findWrong 11 = .ok (.bipush 20, 2) := by decide +kernel
theorem dX3_findWrong_13 : decode cX3_findWrong 13 = .ok (.if_icmp .ge 34, 3) := by decide +kernel
theorem dX3_findWrong_16 : decode cX3_findWrong 16 = .ok (.aload_n 1, 1) := by decide +kernel
theorem dX3_findWrong_17 : decode cX3_findWrong 17 = .ok (.getfield 34, 3) := by decide +kernel
theorem dX3_findWrong_20 : decode cX3_findWrong 20 = .ok (.aload_n 0, 1) := by decide +kernel
theorem dX3_findWrong_21 : decode cX3_findWrong 21 = .ok (.getfield 21, 3) := by decide +kernel
theorem dX3_findWrong_24 : decode cX3_findWrong 24 = .ok (.iload_n 2, 1) := by decide +kernel
theorem dX3_findWrong_25 : decode cX3_findWrong 25 = .ok (.iaload, 1) := by decide +kernel
theorem dX3_findWrong_26 : decode cX3_findWrong 26 = .ok (.bipush 7, 2) := by decide +kernel
theorem dX3_findWrong_28 : decode cX3_findWrong 28 = .ok (.iand, 1) := by decide +kernel
theorem dX3_findWrong_29 : decode cX3_findWrong 29 = .ok (.iaload, 1) := by decide +kernel
theorem dX3_findWrong_30 : decode cX3_findWrong 30 = .ok (.aload_n 0, 1) := by decide +kernel
theorem dX3_findWrong_31 : decode cX3_findWrong 31 = .ok (.getfield 24, 3) := by decide +kernel
theorem dX3_findWrong_34 : decode cX3_findWrong 34 = .ok (.iload_n 2, 1) := by decide +kernel
theorem dX3_findWrong_35 : decode cX3_findWrong 35 = .ok (.iaload, 1) := by decide +kernel
theorem dX3_findWrong_36 : decode cX3_findWrong 36 = .ok (.if_icmp .eq 5, 3) := by decide +kernel
theorem dX3_findWrong_39 : decode cX3_findWrong 39 = .ok (.iload_n 2, 1) := by decide +kernel
theorem dX3_findWrong_40 : decode cX3_findWrong 40 = .ok (.ireturn, 1) := by decide +kernel
theorem dX3_findWrong_41 : decode cX3_findWrong 41 = .ok (.iinc 2 1, 3) := by decide +kernel
theorem dX3_findWrong_44 : decode cX3_findWrong 44 = .ok (.goto (-42), 3) := by decide +kernel
theorem dX3_findWrong_47 : decode cX3_findWrong 47 = .ok (.iconst (-1), 1) := by decide +kernel
theorem dX3_findWrong_48 : decode cX3_findWrong 48 = .ok (.ireturn, 1) := by decide +kernel
set_option maxRecDepth 20000 in
theorem ggX3_findHoles_X3_holesThatShow : GoodIn wsX3_findHoles wsX3_holesThatShow := goodIn_r _ [8, 9, 10, 11, 12, 13, 14, 15, 16, 17, 25, 26, 27, 28, 29, 30, 31, 32, 33] (by decide +kernel) (by decide +kernel)
set_option maxRecDepth 20000 in
theorem gX3_findHoles_X3_holesThatShow : GoodIn wsX3_findHoles (va_wsS RX3 39 yX3_holesThatShow wsX3_holesThatShow) := goodIn_app (goodIn_of _ (by decide +kernel)) ggX3_findHoles_X3_holesThatShow
theorem dX3_findHoles_0 : decode cX3_findHoles 0 = .ok (.bipush 15, 2) := by decide +kernel
theorem dX3_findHoles_2 : decode cX3_findHoles 2 = .ok (.istore_n 3, 1) := by decide +kernel
theorem dX3_findHoles_3 : decode cX3_findHoles 3 = .ok (.iconst 0, 1) := by decide +kernel
theorem dX3_findHoles_4 : decode cX3_findHoles 4 = .ok (.istore 4, 2) := by decide +kernel
theorem dX3_findHoles_6 : decode cX3_findHoles 6 = .ok (.iload 4, 2) := by decide +kernel
theorem dX3_findHoles_8 : decode cX3_findHoles 8 = .ok (.aload_n 0, 1) := by decide +kernel
theorem dX3_findHoles_9 : decode cX3_findHoles 9 = .ok (.getfield 27, 3) := by decide +kernel
theorem dX3_findHoles_12 : decode cX3_findHoles 12 = .ok (.if_icmp .ge 49, 3) := by decide +kernel
theorem dX3_findHoles_15 : decode cX3_findHoles 15 = .ok (.iload 4, 2) := by decide +kernel
theorem dX3_findHoles_17 : decode cX3_findHoles 17 = .ok (.bipush 8, 2) := by decide +kernel
theorem dX3_findHoles_19 : decode cX3_findHoles 19 = .ok (.if_icmp .ge 42, 3) := by decide +kernel
theorem dX3_findHoles_22 : decode cX3_findHoles 22 = .ok (.aload_n 0, 1) := by decide +kernel
theorem dX3_findHoles_23 : decode cX3_findHoles 23 = .ok (.getfield 9, 3) := by decide +kernel
theorem dX3_findHoles_26 : decode cX3_findHoles 26 = .ok (.iload 4, 2) := by decide +kernel
theorem dX3_findHoles_28 : decode cX3_findHoles 28 = .ok (.iaload, 1) := by decide +kernel
theorem dX3_findHoles_29 : decode cX3_findHoles 29 = .ok (.iload_n 2, 1) := by decide +kernel
theorem dX3_findHoles_30 : decode cX3_findHoles 30 = .ok (.if_icmp .ne 25, 3) := by decide +kernel
theorem dX3_findHoles_33 : decode cX3_findHoles 33 = .ok (.iload_n 3, 1) := by decide +kernel
theorem dX3_findHoles_34 : decode cX3_findHoles 34 = .ok (.aload_n 1, 1) := by decide +kernel
theorem dX3_findHoles_35 : decode cX3_findHoles 35 = .ok (.iload_n 2, 1) := by decide +kernel
theorem dX3_findHoles_36 : decode cX3_findHoles 36 = .ok (.aload_n 0, 1) := by decide +kernel
theorem dX3_findHoles_37 : decode cX3_findHoles 37 = .ok (.getfield 15, 3) := by decide +kernel
theorem dX3_findHoles_40 : decode cX3_findHoles 40 = .ok (.iload 4, 2) := by decide +kernel
theorem dX3_findHoles_42 : decode cX3_findHoles 42 = .ok (.iaload, 1) := by decide +kernel
theorem dX3_findHoles_43 : decode cX3_findHoles 43 = .ok (.aload_n 0, 1) := by decide +kernel
theorem dX3_findHoles_44 : decode cX3_findHoles 44 = .ok (.getfield 18, 3) := by decide +kernel
theorem dX3_findHoles_47 : decode cX3_findHoles 47 = .ok (.iload 4, 2) := by decide +kernel
theorem dX3_findHoles_49 : decode cX3_findHoles 49 = .ok (.iaload, 1) := by decide +kernel
theorem dX3_findHoles_50 : decode cX3_findHoles 50 = .ok (.invokestatic 39, 3) := by decide +kernel
theorem dX3_findHoles_53 : decode cX3_findHoles 53 = .ok (.iand, 1) := by decide +kernel
theorem dX3_findHoles_54 : decode cX3_findHoles 54 = .ok (.istore_n 3, 1) := by decide +kernel
theorem dX3_findHoles_55 : decode cX3_findHoles 55 = .ok (.iinc 4 1, 3) := by decide +kernel
theorem dX3_findHoles_58 : decode cX3_findHoles 58 = .ok (.goto (-52), 3) := by decide +kernel
theorem dX3_findHoles_61 : decode cX3_findHoles 61 = .ok (.iload_n 3, 1) := by decide +kernel
theorem dX3_findHoles_62 : decode cX3_findHoles 62 = .ok (.ireturn, 1) := by decide +kernel
set_option maxRecDepth 20000 in
theorem ggX3_holesThatShow_X5_colourAt : GoodIn wsX3_holesThatShow wsX5_colourAt := goodIn_r _ [5, 6, 7, 8, 4, 9, 10, 11, 12, 13, 14, 15, 16, 17, 18] (by decide +kernel) (by decide +kernel)
set_option maxRecDepth 20000 in
theorem gX3_holesThatShow_X5_colourAt : GoodIn wsX3_holesThatShow (wsV RX3 43 RX5 yX5_colourAt wsX5_colourAt) := goodIn_app (goodIn_of _ (by decide +kernel)) ggX3_holesThatShow_X5_colourAt
theorem dX3_holesThatShow_0 : decode cX3_holesThatShow 0 = .ok (.iconst 0, 1) := by decide +kernel
theorem dX3_holesThatShow_1 : decode cX3_holesThatShow 1 = .ok (.istore 4, 2) := by decide +kernel
theorem dX3_holesThatShow_3 : decode cX3_holesThatShow 3 = .ok (.iconst 0, 1) := by decide +kernel
theorem dX3_holesThatShow_4 : decode cX3_holesThatShow 4 = .ok (.istore 5, 2) := by decide +kernel
theorem dX3_holesThatShow_6 : decode cX3_holesThatShow 6 = .ok (.iload 5, 2) := by decide +kernel
theorem dX3_holesThatShow_8 : decode cX3_holesThatShow 8 = .ok (.iconst 4, 1) := by decide +kernel
theorem dX3_holesThatShow_9 : decode cX3_holesThatShow 9 = .ok (.if_icmp .ge 33, 3) := by decide +kernel
theorem dX3_holesThatShow_12 : decode cX3_holesThatShow 12 = .ok (.aload_n 0, 1) := by decide +kernel
theorem dX3_holesThatShow_13 : decode cX3_holesThatShow 13 = .ok (.iload_n 1, 1) := by decide +kernel
theorem dX3_holesThatShow_14 : decode cX3_holesThatShow 14 = .ok (.iload 5, 2) := by decide +kernel
theorem dX3_holesThatShow_16 : decode cX3_holesThatShow 16 = .ok (.iload_n 2, 1) := by decide +kernel
theorem dX3_holesThatShow_17 : decode cX3_holesThatShow 17 = .ok (.iadd, 1) := by decide +kernel
theorem dX3_holesThatShow_18 : decode cX3_holesThatShow 18 = .ok (.iconst 1, 1) := by decide +kernel
theorem dX3_holesThatShow_19 : decode cX3_holesThatShow 19 = .ok (.isub, 1) := by decide +kernel
theorem dX3_holesThatShow_20 : decode cX3_holesThatShow 20 = .ok (.invokevirtual 43, 3) := by decide +kernel
theorem dX3_holesThatShow_23 : decode cX3_holesThatShow 23 = .ok (.iload_n 3, 1) := by decide +kernel
theorem dX3_holesThatShow_24 : decode cX3_holesThatShow 24 = .ok (.if_icmp .ne 12, 3) := by decide +kernel
theorem dX3_holesThatShow_27 : decode cX3_holesThatShow 27 = .ok (.iload 4, 2) := by decide +kernel
theorem dX3_holesThatShow_29 : decode cX3_holesThatShow 29 = .ok (.iconst 1, 1) := by decide +kernel
theorem dX3_holesThatShow_30 : decode cX3_holesThatShow 30 = .ok (.iload 5, 2) := by decide +kernel
theorem dX3_holesThatShow_32 : decode cX3_holesThatShow 32 = .ok (.ishl, 1) := by decide +kernel
theorem dX3_holesThatShow_33 : decode cX3_holesThatShow 33 = .ok (.ior, 1) := by decide +kernel
theorem dX3_holesThatShow_34 : decode cX3_holesThatShow 34 = .ok (.istore 4, 2) := by decide +kernel
theorem dX3_holesThatShow_36 : decode cX3_holesThatShow 36 = .ok (.iinc 5 1, 3) := by decide +kernel
theorem dX3_holesThatShow_39 : decode cX3_holesThatShow 39 = .ok (.goto (-33), 3) := by decide +kernel
theorem dX3_holesThatShow_42 : decode cX3_holesThatShow 42 = .ok (.iload 4, 2) := by decide +kernel
theorem dX3_holesThatShow_44 : decode cX3_holesThatShow 44 = .ok (.ireturn, 1) := by decide +kernel
set_option maxRecDepth 20000 in
theorem ggX3_findLook_X3_findHoles : GoodIn wsX3_findLook wsX3_findHoles := goodIn_r _ [5, 6, 7, 8, 9, 10, 11, 4, 12, 13, 14, 15, 16, 17, 18, 19, 20, 21, 37, 38, 39, 40, 41, 42, 43, 44, 45, 46, 47, 48, 49, 50, 51, 52] (by decide +kernel) (by decide +kernel)
set_option maxRecDepth 20000 in
theorem gX3_findLook_X3_findHoles : GoodIn wsX3_findLook (wsV RX3 49 RX3 yX3_findHoles wsX3_findHoles) := goodIn_app (goodIn_of _ (by decide +kernel)) ggX3_findLook_X3_findHoles
set_option maxRecDepth 20000 in
theorem ggX3_findLook_J6_bitCount_0f7a4 : GoodIn wsX3_findLook wsJ6_bitCount_0f7a4 := goodIn_r _ [25, 26, 27, 28] (by decide +kernel) (by decide +kernel)
set_option maxRecDepth 20000 in
theorem gX3_findLook_J6_bitCount_0f7a4 : GoodIn wsX3_findLook (va_wsS RX3 53 yJ6_bitCount_0f7a4 wsJ6_bitCount_0f7a4) := goodIn_app (goodIn_of _ (by decide +kernel)) ggX3_findLook_J6_bitCount_0f7a4
set_option maxRecDepth 20000 in
theorem ggX3_findLook_X3_findGreatestPart : GoodIn wsX3_findLook wsX3_findGreatestPart := goodIn_r _ [31, 32, 33, 34, 35, 36, 10, 11, 4, 12, 13, 14, 15, 16, 17, 18, 19, 20, 21, 22, 23, 24, 25, 26, 27, 28, 44, 45, 46, 47, 48, 49, 50, 51, 52] (by decide +kernel) (by decide +kernel)
set_option maxRecDepth 20000 in
theorem gX3_findLook_X3_findGreatestPart : GoodIn wsX3_findLook (va_wsS RX3 59 yX3_findGreatestPart wsX3_findGreatestPart) := goodIn_app (goodIn_of _ (by decide +kernel)) ggX3_findLook_X3_findGreatestPart
theorem dX3_findLook_0 : decode cX3_findLook 0 = .ok (.aload_n 0, 1) := by decide +kernel
theorem dX3_findLook_1 : decode cX3_findLook 1 = .ok (.aload_n 1, 1) := by decide +kernel
theorem dX3_findLook_2 : decode cX3_findLook 2 = .ok (.iload_n 2, 1) := by decide +kernel
theorem dX3_findLook_3 : decode cX3_findLook 3 = .ok (.invokevirtual 49, 3) := by decide +kernel
theorem dX3_findLook_6 : decode cX3_findLook 6 = .ok (.istore_n 3, 1) := by decide +kernel
theorem dX3_findLook_7 : decode cX3_findLook 7 = .ok (.iconst (-1), 1) := by decide +kernel
theorem dX3_findLook_8 : decode cX3_findLook 8 = .ok (.istore 4, 2) := by decide +kernel
theorem dX3_findLook_10 : decode cX3_findLook 10 = .ok (.iload_n 3, 1) := by decide +kernel
theorem dX3_findLook_11 : decode cX3_findLook 11 = .ok (.invokestatic 53, 3) := by decide +kernel
theorem dX3_findLook_14 : decode cX3_findLook 14 = .ok (.istore 5, 2) := by decide +kernel
theorem dX3_findLook_16 : decode cX3_findLook 16 = .ok (.iconst 1, 1) := by decide +kernel
theorem dX3_findLook_17 : decode cX3_findLook 17 = .ok (.istore 6, 2) := by decide +kernel
theorem dX3_findLook_19 : decode cX3_findLook 19 = .ok (.iload 6, 2) := by decide +kernel
theorem dX3_findLook_21 : decode cX3_findLook 21 = .ok (.iconst 4, 1) := by decide +kernel
theorem dX3_findLook_22 : decode cX3_findLook 22 = .ok (.if_icmp .gt 34, 3) := by decide +kernel
theorem dX3_findLook_25 : decode cX3_findLook 25 = .ok (.aload_n 1, 1) := by decide +kernel
theorem dX3_findLook_26 : decode cX3_findLook 26 = .ok (.iload_n 2, 1) := by decide +kernel
theorem dX3_findLook_27 : decode cX3_findLook 27 = .ok (.iload_n 3, 1) := by decide +kernel
theorem dX3_findLook_28 : decode cX3_findLook 28 = .ok (.iload 6, 2) := by decide +kernel
theorem dX3_findLook_30 : decode cX3_findLook 30 = .ok (.invokestatic 59, 3) := by decide +kernel
theorem dX3_findLook_33 : decode cX3_findLook 33 = .ok (.istore 7, 2) := by decide +kernel
theorem dX3_findLook_35 : decode cX3_findLook 35 = .ok (.iload 7, 2) := by decide +kernel
theorem dX3_findLook_37 : decode cX3_findLook 37 = .ok (.iload 5, 2) := by decide +kernel
theorem dX3_findLook_39 : decode cX3_findLook 39 = .ok (.if_icmp .ge 11, 3) := by decide +kernel
theorem dX3_findLook_42 : decode cX3_findLook 42 = .ok (.iload 7, 2) := by decide +kernel
theorem dX3_findLook_44 : decode cX3_findLook 44 = .ok (.istore 5, 2) := by decide +kernel
theorem dX3_findLook_46 : decode cX3_findLook 46 = .ok (.iload 6, 2) := by decide +kernel
theorem dX3_findLook_48 : decode cX3_findLook 48 = .ok (.istore 4, 2) := by decide +kernel
theorem dX3_findLook_50 : decode cX3_findLook 50 = .ok (.iinc 6 1, 3) := by decide +kernel
theorem dX3_findLook_53 : decode cX3_findLook 53 = .ok (.goto (-34), 3) := by decide +kernel
theorem dX3_findLook_56 : decode cX3_findLook 56 = .ok (.iload 4, 2) := by decide +kernel
theorem dX3_findLook_58 : decode cX3_findLook 58 = .ok (.ireturn, 1) := by decide +kernel
set_option maxRecDepth 20000 in
theorem ggX3_findGreatestPart_X3_holesThatShow : GoodIn wsX3_findGreatestPart wsX3_holesThatShow := goodIn_r _ [9, 10, 11, 12, 13, 14, 15, 16, 17, 18, 26, 27, 28, 29, 30, 31, 32, 33, 34] (by decide +kernel) (by decide +kernel)
set_option maxRecDepth 20000 in
theorem gX3_findGreatestPart_X3_holesThatShow : GoodIn wsX3_findGreatestPart (va_wsS RX3 39 yX3_holesThatShow wsX3_holesThatShow) := goodIn_app (goodIn_of _ (by decide +kernel)) ggX3_findGreatestPart_X3_holesThatShow
set_option maxRecDepth 20000 in
theorem ggX3_findGreatestPart_J6_bitCount_0f7a4 : GoodIn wsX3_findGreatestPart wsJ6_bitCount_0f7a4 := goodIn_r _ [22, 23, 24, 25] (by decide +kernel) (by decide +kernel)
set_option maxRecDepth 20000 in
theorem gX3_findGreatestPart_J6_bitCount_0f7a4 : GoodIn wsX3_findGreatestPart (va_wsS RX3 53 yJ6_bitCount_0f7a4 wsJ6_bitCount_0f7a4) := goodIn_app (goodIn_of _ (by decide +kernel)) ggX3_findGreatestPart_J6_bitCount_0f7a4
theorem dX3_findGreatestPart_0 : decode cX3_findGreatestPart 0 = .ok (.iconst 0, 1) := by decide +kernel
theorem dX3_findGreatestPart_1 : decode cX3_findGreatestPart 1 = .ok (.istore 4, 2) := by decide +kernel
theorem dX3_findGreatestPart_3 : decode cX3_findGreatestPart 3 = .ok (.iconst 0, 1) := by decide +kernel
theorem dX3_findGreatestPart_4 : decode cX3_findGreatestPart 4 = .ok (.istore 5, 2) := by decide +kernel
theorem dX3_findGreatestPart_6 : decode cX3_findGreatestPart 6 = .ok (.iload 5, 2) := by decide +kernel
theorem dX3_findGreatestPart_8 : decode cX3_findGreatestPart 8 = .ok (.aload_n 0, 1) := by decide +kernel
theorem dX3_findGreatestPart_9 : decode cX3_findGreatestPart 9 = .ok (.getfield 62, 3) := by decide +kernel
theorem dX3_findGreatestPart_12 : decode cX3_findGreatestPart 12 = .ok (.if_icmp .ge 33, 3) := by decide +kernel
theorem dX3_findGreatestPart_15 : decode cX3_findGreatestPart 15 = .ok (.iload_n 2, 1) := by decide +kernel
theorem dX3_findGreatestPart_16 : decode cX3_findGreatestPart 16 = .ok (.aload_n 0, 1) := by decide +kernel
theorem dX3_findGreatestPart_17 : decode cX3_findGreatestPart 17 = .ok (.iload_n 1, 1) := by decide +kernel
theorem dX3_findGreatestPart_18 : decode cX3_findGreatestPart 18 = .ok (.iload_n 3, 1) := by decide +kernel
theorem dX3_findGreatestPart_19 : decode cX3_findGreatestPart 19 = .ok (.iload 5, 2) := by decide +kernel
theorem dX3_findGreatestPart_21 : decode cX3_findGreatestPart 21 = .ok (.invokestatic 39, 3) := by decide +kernel
theorem dX3_findGreatestPart_24 : decode cX3_findGreatestPart 24 = .ok (.iand, 1) := by decide +kernel
theorem dX3_findGreatestPart_25 : decode cX3_findGreatestPart 25 = .ok (.istore 6, 2) := by decide +kernel
theorem dX3_findGreatestPart_27 : decode cX3_findGreatestPart 27 = .ok (.iload 4, 2) := by decide +kernel
theorem dX3_findGreatestPart_29 : decode cX3_findGreatestPart 29 = .ok (.iload 6, 2) := by decide +kernel
theorem dX3_findGreatestPart_31 : decode cX3_findGreatestPart 31 = .ok (.invokestatic 53, 3) := by decide +kernel
theorem dX3_findGreatestPart_34 : decode cX3_findGreatestPart 34 = .ok (.invokestatic 65, 3) := by decide +kernel
theorem dX3_findGreatestPart_37 : decode cX3_findGreatestPart 37 = .ok (.istore 4, 2) := by decide +kernel
theorem dX3_findGreatestPart_39 : decode cX3_findGreatestPart 39 = .ok (.iinc 5 1, 3) := by decide +kernel
theorem dX3_findGreatestPart_42 : decode cX3_findGreatestPart 42 = .ok (.goto (-36), 3) := by decide +kernel
theorem dX3_findGreatestPart_45 : decode cX3_findGreatestPart 45 = .ok (.iload 4, 2) := by decide +kernel
theorem dX3_findGreatestPart_47 : decode cX3_findGreatestPart 47 = .ok (.ireturn, 1) := by decide +kernel
theorem dX4_init_0 : decode cX4_init 0 = .ok (.aload_n 0, 1) := by decide +kernel
theorem dX4_init_1 : decode cX4_init 1 = .ok (.invokespecial 3, 3) := by decide +kernel
theorem dX4_init_4 : decode cX4_init 4 = .ok (.aload_n 0, 1) := by decide +kernel
theorem dX4_init_5 : decode cX4_init 5 = .ok (.sipush 240, 3) := by decide +kernel
theorem dX4_init_8 : decode cX4_init 8 = .ok (.newarray .int, 2) := by decide +kernel
theorem dX4_init_10 : decode cX4_init 10 = .ok (.putfield 9, 3) := by decide +kernel
theorem dX4_init_13 : decode cX4_init 13 = .ok (.aload_n 0, 1) := by decide +kernel
theorem dX4_init_14 : decode cX4_init 14 = .ok (.iconst (-1), 1) := by decide +kernel
theorem dX4_init_15 : decode cX4_init 15 = .ok (.putfield 15, 3) := by decide +kernel
theorem dX4_init_18 : decode cX4_init 18 = .ok (.return_, 1) := by decide +kernel
theorem dX4_append_0 : decode cX4_append 0 = .ok (.aload_n 0, 1) := by decide +kernel
theorem dX4_append_1 : decode cX4_append 1 = .ok (.getfield 19, 3) := by decide +kernel
theorem dX4_append_4 : decode cX4_append 4 = .ok (.sipush 240, 3) := by decide +kernel
theorem dX4_append_7 : decode cX4_append 7 = .ok (.if_icmp .lt 5, 3) := by decide +kernel
theorem dX4_append_10 : decode cX4_append 10 = .ok (.iconst 0, 1) := by decide +kernel
theorem dX4_append_11 : decode cX4_append 11 = .ok (.ireturn, 1) := by decide +kernel
theorem dX4_append_12 : decode cX4_append 12 = .ok (.aload_n 0, 1) := by decide +kernel
theorem dX4_append_13 : decode cX4_append 13 = .ok (.getfield 9, 3) := by decide +kernel
theorem dX4_append_16 : decode cX4_append 16 = .ok (.aload_n 0, 1) := by decide +kernel
theorem dX4_append_17 : decode cX4_append 17 = .ok (.getfield 19, 3) := by decide +kernel
theorem dX4_append_20 : decode cX4_append 20 = .ok (.iload_n 1, 1) := by decide +kernel
theorem dX4_append_21 : decode cX4_append 21 = .ok (.iastore, 1) := by decide +kernel
theorem dX4_append_22 : decode cX4_append 22 = .ok (.aload_n 0, 1) := by decide +kernel
theorem dX4_append_23 : decode cX4_append 23 = .ok (.dup, 1) := by decide +kernel
theorem dX4_append_24 : decode cX4_append 24 = .ok (.getfield 19, 3) := by decide +kernel
theorem dX4_append_27 : decode cX4_append 27 = .ok (.iconst 1, 1) := by decide +kernel
theorem dX4_append_28 : decode cX4_append 28 = .ok (.iadd, 1) := by decide +kernel
theorem dX4_append_29 : decode cX4_append 29 = .ok (.putfield 19, 3) := by decide +kernel
theorem dX4_append_32 : decode cX4_append 32 = .ok (.iconst 1, 1) := by decide +kernel
theorem dX4_append_33 : decode cX4_append 33 = .ok (.ireturn, 1) := by decide +kernel
set_option maxRecDepth 20000 in
theorem ggX4_readInto_X5_clear : GoodIn wsX4_readInto wsX5_clear := goodIn_r _ [9, 10, 11, 12, 13, 14, 15, 16, 17, 18, 19, 101, 102, 103, 104, 105, 106, 107, 108, 109] (by decide +kernel) (by decide +kernel)
set_option maxRecDepth 20000 in
theorem gX4_readInto_X5_clear : GoodIn wsX4_readInto (wsV RX4 28 RX5 yX5_clear wsX5_clear) := goodIn_app (goodIn_of _ (by decide +kernel)) ggX4_readInto_X5_clear
set_option maxRecDepth 20000 in
theorem ggX4_readInto_X4_skipBlanks : GoodIn wsX4_readInto wsX4_skipBlanks := goodIn_r _ [24, 1, 4, 25, 26, 27, 23, 28, 29, 95, 96, 97, 98, 99, 100] (by decide +kernel) (by decide +kernel)
set_option maxRecDepth 20000 in
theorem gX4_readInto_X4_skipBlanks : GoodIn wsX4_readInto (wsV RX4 33 RX4 yX4_skipBlanks wsX4_skipBlanks) := goodIn_app (goodIn_of _ (by decide +kernel)) ggX4_readInto_X4_skipBlanks
set_option maxRecDepth 20000 in
theorem ggX4_readInto_X4_readClause : GoodIn wsX4_readInto wsX4_readClause := goodIn_r _ [33, 34, 1, 2, 25, 26, 27, 23, 28, 4, 29, 35, 36, 37, 38, 39, 40, 41, 3, 42, 43, 44, 45, 46, 47, 48, 49, 50, 51, 52, 53, 54, 55, 20, 21, 22, 24, 56, 57, 58, 59, 60, 61, 62, 63, 64, 65, 8, 66, 67, 68, 69, 70, 71, 72, 73, 74, 11, 75, 76, 77, 78, 79, 80, 81, 82, 83, 84, 12, 14, 85, 13, 86, 87, 88, 89, 90, 91, 92, 93, 94, 101, 102, 103, 104, 105, 106, 107, 108, 109, 95, 96, 97, 98, 99, 100] (by decide +kernel) (by decide +kernel)
set_option maxRecDepth 20000 in
theorem gX4_readInto_X4_readClause : GoodIn wsX4_readInto (wsV RX4 36 RX4 yX4_readClause wsX4_readClause) := goodIn_app (goodIn_of _ (by decide +kernel)) ggX4_readInto_X4_readClause
theorem dX4_readInto_0 : decode cX4_readInto 0 = .ok (.aload_n 0, 1) := by decide +kernel
theorem dX4_readInto_1 : decode cX4_readInto 1 = .ok (.iconst 0, 1) := by decide +kernel
theorem dX4_readInto_2 : decode cX4_readInto 2 = .ok (.putfield 22, 3) := by decide +kernel
theorem dX4_readInto_5 : decode cX4_readInto 5 = .ok (.aload_n 0, 1) := by decide +kernel
theorem dX4_readInto_6 : decode cX4_readInto 6 = .ok (.iconst 0, 1) := by decide +kernel
theorem dX4_readInto_7 : decode cX4_readInto 7 = .ok (.putfield 25, 3) := by decide +kernel
theorem dX4_readInto_10 : decode cX4_readInto 10 = .ok (.aload_n 0, 1) := by decide +kernel
theorem dX4_readInto_11 : decode cX4_readInto 11 = .ok (.iconst (-1), 1) := by decide +kernel
theorem dX4_readInto_12 : decode cX4_readInto 12 = .ok (.putfield 15, 3) := by decide +kernel
theorem dX4_readInto_15 : decode cX4_readInto 15 = .ok (.aload_n 1, 1) := by decide +kernel
theorem dX4_readInto_16 : decode cX4_readInto 16 = .ok (.invokevirtual 28, 3) := by decide +kernel
theorem dX4_readInto_19 : decode cX4_readInto 19 = .ok (.aload_n 0, 1) := by decide +kernel
theorem dX4_readInto_20 : decode cX4_readInto 20 = .ok (.invokevirtual 33, 3) := by decide +kernel
theorem dX4_readInto_23 : decode cX4_readInto 23 = .ok (.iconst 0, 1) := by decide +kernel
theorem dX4_readInto_24 : decode cX4_readInto 24 = .ok (.istore_n 2, 1) := by decide +kernel
theorem dX4_readInto_25 : decode cX4_readInto 25 = .ok (.iload_n 2, 1) := by decide +kernel
theorem dX4_readInto_26 : decode cX4_readInto 26 = .ok (.sipush 240, 3) := by decide +kernel
theorem dX4_readInto_29 : decode cX4_readInto 29 = .ok (.if_icmp .ge 36, 3) := by decide +kernel
theorem dX4_readInto_32 : decode cX4_readInto 32 = .ok (.aload_n 0, 1) := by decide +kernel
theorem dX4_readInto_33 : decode cX4_readInto 33 = .ok (.getfield 22, 3) := by decide +kernel
theorem dX4_readInto_36 : decode cX4_readInto 36 = .ok (.aload_n 0, 1) := by decide +kernel
theorem dX4_readInto_37 : decode cX4_readInto 37 = .ok (.getfield 19, 3) := by decide +kernel
theorem dX4_readInto_40 : decode cX4_readInto 40 = .ok (.if_icmp .ge 25, 3) := by decide +kernel
theorem dX4_readInto_43 : decode cX4_readInto 43 = .ok (.aload_n 0, 1) := by decide +kernel
theorem dX4_readInto_44 : decode cX4_readInto 44 = .ok (.getfield 25, 3) := by decide +kernel
theorem dX4_readInto_47 : decode cX4_readInto 47 = .ok (.ifCond .ne 18, 3) := by decide +kernel
theorem dX4_readInto_50 : decode cX4_readInto 50 = .ok (.aload_n 0, 1) := by decide +kernel
theorem dX4_readInto_51 : decode cX4_readInto 51 = .ok (.aload_n 1, 1) := by decide +kernel
theorem dX4_readInto_52 : decode cX4_readInto 52 = .ok (.invokevirtual 36, 3) := by decide +kernel
theorem dX4_readInto_55 : decode cX4_readInto 55 = .ok (.aload_n 0, 1) := by decide +kernel
theorem dX4_readInto_56 : decode cX4_readInto 56 = .ok (.invokevirtual 33, 3) := by decide +kernel
theorem dX4_readInto_59 : decode cX4_readInto 59 = .ok (.iinc 2 1, 3) := by decide +kernel
theorem dX4_readInto_62 : decode cX4_readInto 62 = .ok (.goto (-37), 3) := by decide +kernel
theorem dX4_readInto_65 : decode cX4_readInto 65 = .ok (.aload_n 0, 1) := by decide +kernel
theorem dX4_readInto_66 : decode cX4_readInto 66 = .ok (.getfield 25, 3) := by decide +kernel
theorem dX4_readInto_69 : decode cX4_readInto 69 = .ok (.ifCond .ne 7, 3) := by decide +kernel
theorem dX4_readInto_72 : decode cX4_readInto 72 = .ok (.iconst 1, 1) := by decide +kernel
theorem dX4_readInto_73 : decode cX4_readInto 73 = .ok (.goto 4, 3) := by decide +kernel
theorem dX4_readInto_76 : decode cX4_readInto 76 = .ok (.iconst 0, 1) := by decide +kernel
theorem dX4_readInto_77 : decode cX4_readInto 77 = .ok (.ireturn, 1) := by decide +kernel
set_option maxRecDepth 20000 in
theorem ggX4_readClause_X4_letterHere : GoodIn wsX4_readClause wsX4_letterHere := goodIn_r _ [8, 2, 9, 10, 90, 91, 92, 93, 94, 95] (by decide +kernel) (by decide +kernel)
set_option maxRecDepth 20000 in
theorem gX4_readClause_X4_letterHere : GoodIn wsX4_readClause (wsV RX4 40 RX4 yX4_letterHere wsX4_letterHere) := goodIn_app (goodIn_of _ (by decide +kernel)) ggX4_readClause_X4_letterHere
set_option maxRecDepth 20000 in
theorem ggX4_readClause_X4_isWord : GoodIn wsX4_readClause wsX4_isWord := goodIn_r _ [13] (by decide +kernel) (by decide +kernel)
set_option maxRecDepth 20000 in
theorem gX4_readClause_X4_isWord : GoodIn wsX4_readClause (va_wsS RX4 44 yX4_isWord wsX4_isWord) := goodIn_app (goodIn_of _ (by decide +kernel)) ggX4_readClause_X4_isWord
set_option maxRecDepth 20000 in
theorem ggX4_readClause_X4_setFault : GoodIn wsX4_readClause wsX4_setFault := goodIn_r _ [17, 3, 18, 90, 91, 92, 93, 94, 95] (by decide +kernel) (by decide +kernel)
set_option maxRecDepth 20000 in
theorem gX4_readClause_X4_setFault : GoodIn wsX4_readClause (wsV RX4 51 RX4 yX4_setFault wsX4_setFault) := goodIn_app (goodIn_of _ (by decide +kernel)) ggX4_readClause_X4_setFault
set_option maxRecDepth 20000 in
theorem ggX4_readClause_X4_isOneTooMany : GoodIn wsX4_readClause wsX4_isOneTooMany := goodIn_r _ [21, 1, 22, 23, 81, 82, 83, 84, 85, 86, 87, 88, 89] (by decide +kernel) (by decide +kernel)
set_option maxRecDepth 20000 in
theorem gX4_readClause_X4_isOneTooMany : GoodIn wsX4_readClause (va_wsS RX4 55 yX4_isOneTooMany wsX4_isOneTooMany) := goodIn_app (goodIn_of _ (by decide +kernel)) ggX4_readClause_X4_isOneTooMany
set_option maxRecDepth 20000 in
theorem ggX4_readClause_X4_readColours : GoodIn wsX4_readClause wsX4_readColours := goodIn_r _ [27, 1, 28, 29, 30, 7, 31, 2, 32, 9, 33, 34, 35, 36, 4, 5, 6, 8, 10, 37, 38, 39, 14, 15, 16, 17, 3, 18, 81, 82, 83, 84, 85, 86, 87, 88, 89, 90, 91, 92, 93, 94, 95] (by decide +kernel) (by decide +kernel)
set_option maxRecDepth 20000 in
theorem gX4_readClause_X4_readColours : GoodIn wsX4_readClause (wsV RX4 59 RX4 yX4_readColours wsX4_readColours) := goodIn_app (goodIn_of _ (by decide +kernel)) ggX4_readClause_X4_readColours
set_option maxRecDepth 20000 in
theorem ggX4_readClause_X4_readCard : GoodIn wsX4_readClause wsX4_readCard := goodIn_r _ [43, 1, 22, 28, 29, 30, 7, 31, 2, 32, 9, 33, 34, 35, 36, 4, 5, 6, 8, 10, 37, 38, 39, 14, 15, 16, 17, 3, 18, 44, 45, 46, 47, 48, 49, 50, 51, 52, 53, 54, 55, 56, 57, 58, 81, 82, 83, 84, 85, 86, 87, 88, 89, 90, 91, 92, 93, 94, 95] (by decide +kernel) (by decide +kernel)
set_option maxRecDepth 20000 in
theorem gX4_readClause_X4_readCard : GoodIn wsX4_readClause (wsV RX4 62 RX4 yX4_readCard wsX4_readCard) := goodIn_app (goodIn_of _ (by decide +kernel)) ggX4_readClause_X4_readCard
set_option maxRecDepth 20000 in
theorem ggX4_readClause_X4_readPack : GoodIn wsX4_readClause wsX4_readPack := goodIn_r _ [62, 22, 63, 32, 28, 29, 30, 7, 31, 2, 9, 33, 34, 35, 36, 4, 5, 6, 8, 10, 37, 38, 39, 14, 15, 16, 17, 3, 18, 64, 65, 66, 47, 67, 68, 57, 69, 70, 71, 81, 82, 83, 84, 85, 86, 87, 88, 89, 90, 91, 92, 93, 94, 95] (by decide +kernel) (by decide +kernel)
set_option maxRecDepth 20000 in
theorem gX4_readClause_X4_readPack : GoodIn wsX4_readClause (wsV RX4 65 RX4 yX4_readPack wsX4_readPack) := goodIn_app (goodIn_of _ (by decide +kernel)) ggX4_readClause_X4_readPack
set_option maxRecDepth 20000 in
theorem ggX4_readClause_X4_readYarn : GoodIn wsX4_readClause wsX4_readYarn := goodIn_r _ [75, 1, 76, 28, 29, 30, 7, 31, 2, 32, 9, 33, 34, 35, 36, 4, 5, 6, 8, 10, 37, 38, 39, 14, 15, 16, 17, 3, 18, 81, 82, 83, 84, 85, 86, 87, 88, 89, 90, 91, 92, 93, 94, 95] (by decide +kernel) (by decide +kernel)
set_option maxRecDepth 20000 in
theorem gX4_readClause_X4_readYarn : GoodIn wsX4_readClause (wsV RX4 68 RX4 yX4_readYarn wsX4_readYarn) := goodIn_app (goodIn_of _ (by decide +kernel)) ggX4_readClause_X4_readYarn
set_option maxRecDepth 20000 in
theorem ggX4_readClause_X4_readEnd : GoodIn wsX4_readClause wsX4_readEnd := goodIn_r _ [80, 2, 33, 34, 35, 7, 36, 9, 4, 5, 6, 8, 10, 14, 15, 16, 17, 3, 18, 90, 91, 92, 93, 94, 95] (by decide +kernel) (by decide +kernel)
set_option maxRecDepth 20000 in
theorem gX4_readClause_X4_readEnd : GoodIn wsX4_readClause (wsV RX4 71 RX4 yX4_readEnd wsX4_readEnd) := goodIn_app (goodIn_of _ (by decide +kernel)) ggX4_readClause_X4_readEnd
theorem dX4_readClause_0 : decode cX4_readClause 0 = .ok (.aload_n 0, 1) := by decide +kernel
theorem dX4_readClause_1 : decode cX4_readClause 1 = .ok (.invokevirtual 40, 3) := by decide +kernel
theorem dX4_readClause_4 : decode cX4_readClause 4 = .ok (.istore_n 2, 1) := by decide +kernel
theorem dX4_readClause_5 : decode cX4_readClause 5 = .ok (.iload_n 2, 1) := by decide +kernel
theorem dX4_readClause_6 : decode cX4_readClause 6 = .ok (.invokestatic 44, 3) := by decide +kernel
theorem dX4_readClause_9 : decode cX4_readClause 9 = .ok (.ifCond .eq 16, 3) := by decide +kernel
theorem dX4_readClause_12 : decode cX4_readClause 12 = .ok (.aload_n 1, 1) := by decide +kernel
theorem dX4_readClause_13 : decode cX4_readClause 13 = .ok (.getfield 48, 3) := by decide +kernel
theorem dX4_readClause_16 : decode cX4_readClause 16 = .ok (.ifCond .ne 19, 3) := by decide +kernel
theorem dX4_readClause_19 : decode cX4_readClause 19 = .ok (.iload_n 2, 1) := by decide +kernel
theorem dX4_readClause_20 : decode cX4_readClause 20 = .ok (.bipush 108, 2) := by decide +kernel
theorem dX4_readClause_22 : decode cX4_readClause 22 = .ok (.if_icmp .eq 13, 3) := by decide +kernel
theorem dX4_readClause_25 : decode cX4_readClause 25 = .ok (.aload_n 0, 1) := by decide +kernel
theorem dX4_readClause_26 : decode cX4_readClause 26 = .ok (.iconst 1, 1) := by decide +kernel
theorem dX4_readClause_27 : decode cX4_readClause 27 = .ok (.aload_n 0, 1) := by decide +kernel
theorem dX4_readClause_28 : decode cX4_readClause 28 = .ok (.getfield 22, 3) := by decide +kernel
theorem dX4_readClause_31 : decode cX4_readClause 31 = .ok (.invokevirtual 51, 3) := by decide +kernel
theorem dX4_readClause_34 : decode cX4_readClause 34 = .ok (.return_, 1) := by decide +kernel
theorem dX4_readClause_35 : decode cX4_readClause 35 = .ok (.iload_n 2, 1) := by decide +kernel
theorem dX4_readClause_36 : decode cX4_readClause 36 = .ok (.aload_n 1, 1) := by decide +kernel
theorem dX4_readClause_37 : decode cX4_readClause 37 = .ok (.invokestatic 55, 3) := by decide +kernel
theorem dX4_readClause_40 : decode cX4_readClause 40 = .ok (.ifCond .eq 13, 3) := by decide +kernel
theorem dX4_readClause_43 : decode cX4_readClause 43 = .ok (.aload_n 0, 1) := by decide +kernel
theorem dX4_readClause_44 : decode cX4_readClause 44 = .ok (.iconst 3, 1) := by decide +kernel
theorem dX4_readClause_45 : decode cX4_readClause 45 = .ok (.aload_n 0, 1) := by decide +kernel
theorem dX4_readClause_46 : decode cX4_readClause 46 = .ok (.getfield 22, 3) := by decide +kernel
theorem dX4_readClause_49 : decode cX4_readClause 49 = .ok (.invokevirtual 51, 3) := by decide +kernel
theorem dX4_readClause_52 : decode cX4_readClause 52 = .ok (.return_, 1) := by decide +kernel
theorem dX4_readClause_53 : decode cX4_readClause 53 = .ok (.aload_n 0, 1) := by decide +kernel
theorem dX4_readClause_54 : decode cX4_readClause 54 = .ok (.dup, 1) := by decide +kernel
theorem dX4_readClause_55 : decode cX4_readClause 55 = .ok (.getfield 22, 3) := by decide +kernel
theorem dX4_readClause_58 : decode cX4_readClause 58 = .ok (.iconst 1, 1) := by decide +kernel
theorem dX4_readClause_59 : decode cX4_readClause 59 = .ok (.iadd, 1) := by decide +kernel
theorem dX4_readClause_60 : decode cX4_readClause 60 = .ok (.putfield 22, 3) := by decide +kernel
theorem dX4_readClause_63 : decode cX4_readClause 63 = .ok (.iload_n 2, 1) := by decide +kernel
theorem dX4_readClause_64 : decode cX4_readClause 64 = .ok (.lookupswitch 60 #[(99, 44), (107, 52), (108, 36)], 36) := by decide +kernel
theorem dX4_readClause_100 : decode cX4_readClause 100 = .ok (.aload_n 0, 1) := by decide +kernel
theorem dX4_readClause_101 : decode cX4_readClause 101 = .ok (.aload_n 1, 1) := by decide +kernel
theorem dX4_readClause_102 : decode cX4_readClause 102 = .ok (.invokevirtual 59, 3) := by decide +kernel
theorem dX4_readClause_105 : decode cX4_readClause 105 = .ok (.goto 24, 3) := by decide +kernel
theorem dX4_readClause_108 : decode cX4_readClause 108 = .ok (.aload_n 0, 1) := by decide +kernel
theorem dX4_readClause_109 : decode cX4_readClause 109 = .ok (.aload_n 1, 1) := by decide +kernel
theorem dX4_readClause_110 : decode cX4_readClause 110 = .ok (.invokevirtual 62, 3) := by decide +kernel
theorem dX4_readClause_113 : decode cX4_readClause 113 = .ok (.goto 16, 3) := by decide +kernel
theorem dX4_readClause_116 : decode cX4_readClause 116 = .ok (.aload_n 0, 1) := by decide +kernel
theorem dX4_readClause_117 : decode cX4_readClause 117 = .ok (.aload_n 1, 1) := by decide +kernel
theorem dX4_readClause_118 : decode cX4_readClause 118 = .ok (.invokevirtual 65, 3) := by decide +kernel
theorem dX4_readClause_121 : decode cX4_readClause 121 = .ok (.goto 8, 3) := by decide +kernel
theorem dX4_readClause_124 : decode cX4_readClause 124 = .ok (.aload_n 0, 1) := by decide +kernel
theorem dX4_readClause_125 : decode cX4_readClause 125 = .ok (.aload_n 1, 1) := by decide +kernel
theorem dX4_readClause_126 : decode cX4_readClause 126 = .ok (.invokevirtual 68, 3) := by decide +kernel
theorem dX4_readClause_129 : decode cX4_readClause 129 = .ok (.aload_n 0, 1) := by decide +kernel
theorem dX4_readClause_130 : decode cX4_readClause 130 = .ok (.getfield 25, 3) := by decide +kernel
theorem dX4_readClause_133 : decode cX4_readClause 133 = .ok (.ifCond .ne 7, 3) := by decide +kernel
theorem dX4_readClause_136 : decode cX4_readClause 136 = .ok (.aload_n 0, 1) := by decide +kernel
theorem dX4_readClause_137 : decode cX4_readClause 137 = .ok (.invokevirtual 71, 3) := by decide +kernel
theorem dX4_readClause_140 : decode cX4_readClause 140 = .ok (.return_, 1) := by decide +kernel
theorem dX4_isWord_0 : decode cX4_isWord 0 = .ok (.iload_n 0, 1) := by decide +kernel
theorem dX4_isWord_1 : decode cX4_isWord 1 = .ok (.bipush 108, 2) := by decide +kernel
theorem dX4_isWord_3 : decode cX4_isWord 3 = .ok (.if_icmp .eq 21, 3) := by decide +kernel
theorem dX4_isWord_6 : decode cX4_isWord 6 = .ok (.iload_n 0, 1) := by decide +kernel
theorem dX4_isWord_7 : decode cX4_isWord 7 = .ok (.bipush 99, 2) := by decide +kernel
theorem dX4_isWord_9 : decode cX4_isWord 9 = .ok (.if_icmp .eq 15, 3) := by decide +kernel
theorem dX4_isWord_12 : decode cX4_isWord 12 = .ok (.iload_n 0, 1) := by decide +kernel
theorem dX4_isWord_13 : decode cX4_isWord 13 = .ok (.bipush 107, 2) := by decide +kernel
theorem dX4_isWord_15 : decode cX4_isWord 15 = .ok (.if_icmp .eq 9, 3) := by decide +kernel
theorem dX4_isWord_18 : decode cX4_isWord 18 = .ok (.iload_n 0, 1) := by decide +kernel
theorem dX4_isWord_19 : decode cX4_isWord 19 = .ok (.bipush 121, 2) := by decide +kernel
theorem dX4_isWord_21 : decode cX4_isWord 21 = .ok (.if_icmp .ne 7, 3) := by decide +kernel
theorem dX4_isWord_24 : decode cX4_isWord 24 = .ok (.iconst 1, 1) := by decide +kernel
theorem dX4_isWord_25 : decode cX4_isWord 25 = .ok (.goto 4, 3) := by decide +kernel
theorem dX4_isWord_28 : decode cX4_isWord 28 = .ok (.iconst 0, 1) := by decide +kernel
theorem dX4_isWord_29 : decode cX4_isWord 29 = .ok (.ireturn, 1) := by decide +kernel
theorem dX4_isOneTooMany_0 : decode cX4_isOneTooMany 0 = .ok (.iload_n 0, 1) := by decide +kernel
theorem dX4_isOneTooMany_1 : decode cX4_isOneTooMany 1 = .ok (.bipush 108, 2) := by decide +kernel
theorem dX4_isOneTooMany_3 : decode cX4_isOneTooMany 3 = .ok (.if_icmp .ne 10, 3) := by decide +kernel
theorem dX4_isOneTooMany_6 : decode cX4_isOneTooMany 6 = .ok (.aload_n 1, 1) := by decide +kernel
theorem dX4_isOneTooMany_7 : decode cX4_isOneTooMany 7 = .ok (.getfield 48, 3) := by decide +kernel
theorem dX4_isOneTooMany_10 : decode cX4_isOneTooMany 10 = .ok (.ifCond .gt 32, 3) := by decide +kernel
theorem dX4_isOneTooMany_13 : decode cX4_isOneTooMany 13 = .ok (.iload_n 0, 1) := by decide +kernel
theorem dX4_isOneTooMany_14 : decode cX4_isOneTooMany 14 = .ok (.bipush 99, 2) := by decide +kernel
theorem dX4_isOneTooMany_16 : decode cX4_isOneTooMany 16 = .ok (.if_icmp .ne 12, 3) := by decide +kernel
theorem dX4_isOneTooMany_19 : decode cX4_isOneTooMany 19 = .ok (.aload_n 1, 1) := by decide +kernel
theorem dX4_isOneTooMany_20 : decode cX4_isOneTooMany 20 = .ok (.getfield 74, 3) := by decide +kernel
theorem dX4_isOneTooMany_23 : decode cX4_isOneTooMany 23 = .ok (.bipush 8, 2) := by decide +kernel
theorem dX4_isOneTooMany_25 : decode cX4_isOneTooMany 25 = .ok (.if_icmp .ge 17, 3) := by decide +kernel
theorem dX4_isOneTooMany_28 : decode cX4_isOneTooMany 28 = .ok (.iload_n 0, 1) := by decide +kernel
theorem dX4_isOneTooMany_29 : decode cX4_isOneTooMany 29 = .ok (.bipush 107, 2) := by decide +kernel
theorem dX4_isOneTooMany_31 : decode cX4_isOneTooMany 31 = .ok (.if_icmp .ne 15, 3) := by decide +kernel
theorem dX4_isOneTooMany_34 : decode cX4_isOneTooMany 34 = .ok (.aload_n 1, 1) := by decide +kernel
theorem dX4_isOneTooMany_35 : decode cX4_isOneTooMany 35 = .ok (.getfield 77, 3) := by decide +kernel
theorem dX4_isOneTooMany_38 : decode cX4_isOneTooMany 38 = .ok (.iconst 4, 1) := by decide +kernel
theorem dX4_isOneTooMany_39 : decode cX4_isOneTooMany 39 = .ok (.if_icmp .lt 7, 3) := by decide +kernel
theorem dX4_isOneTooMany_42 : decode cX4_isOneTooMany 42 = .ok (.iconst 1, 1) := by decide +kernel
theorem dX4_isOneTooMany_43 : decode cX4_isOneTooMany 43 = .ok (.goto 4, 3) := by decide +kernel
theorem dX4_isOneTooMany_46 : decode cX4_isOneTooMany 46 = .ok (.iconst 0, 1) := by decide +kernel
theorem dX4_isOneTooMany_47 : decode cX4_isOneTooMany 47 = .ok (.ireturn, 1) := by decide +kernel
set_option maxRecDepth 20000 in
theorem ggX4_readColours_X4_readNumber : GoodIn wsX4_readColours wsX4_readNumber := goodIn_r _ [6, 7, 8, 9, 10, 11, 12, 5, 13, 14, 15, 16, 17, 18, 19, 20, 21, 22, 23, 24, 25, 26, 27, 37, 38, 39, 40, 41, 42] (by decide +kernel) (by decide +kernel)
set_option maxRecDepth 20000 in
theorem gX4_readColours_X4_readNumber : GoodIn wsX4_readColours (wsV RX4 80 RX4 yX4_readNumber wsX4_readNumber) := goodIn_app (goodIn_of _ (by decide +kernel)) ggX4_readColours_X4_readNumber
theorem dX4_readColours_0 : decode cX4_readColours 0 = .ok (.aload_n 0, 1) := by decide +kernel
theorem dX4_readColours_1 : decode cX4_readColours 1 = .ok (.iconst 1, 1) := by decide +kernel
theorem dX4_readColours_2 : decode cX4_readColours 2 = .ok (.bipush 8, 2) := by decide +kernel
theorem dX4_readColours_4 : decode cX4_readColours 4 = .ok (.invokevirtual 80, 3) := by decide +kernel
theorem dX4_readColours_7 : decode cX4_readColours 7 = .ok (.istore_n 2, 1) := by decide +kernel
theorem dX4_readColours_8 : decode cX4_readColours 8 = .ok (.iload_n 2, 1) := by decide +kernel
theorem dX4_readColours_9 : decode cX4_readColours 9 = .ok (.iconst (-1), 1) := by decide +kernel
theorem dX4_readColours_10 : decode cX4_readColours 10 = .ok (.if_icmp .eq 8, 3) := by decide +kernel
theorem dX4_readColours_13 : decode cX4_readColours 13 = .ok (.aload_n 1, 1) := by decide +kernel
theorem dX4_readColours_14 : decode cX4_readColours 14 = .ok (.iload_n 2, 1) := by decide +kernel
theorem dX4_readColours_15 : decode cX4_readColours 15 = .ok (.putfield 48, 3) := by decide +kernel
theorem dX4_readColours_18 : decode cX4_readColours 18 = .ok (.return_, 1) := by decide +kernel
set_option maxRecDepth 20000 in
theorem ggX4_readCard_X4_readNumber : GoodIn wsX4_readCard wsX4_readNumber := goodIn_r _ [7, 8, 9, 10, 11, 12, 13, 6, 14, 15, 16, 17, 18, 19, 20, 21, 22, 23, 24, 25, 26, 27, 28, 53, 54, 55, 56, 57, 58] (by decide +kernel) (by decide +kernel)
set_option maxRecDepth 20000 in
theorem gX4_readCard_X4_readNumber : GoodIn wsX4_readCard (wsV RX4 80 RX4 yX4_readNumber wsX4_readNumber) := goodIn_app (goodIn_of _ (by decide +kernel)) ggX4_readCard_X4_readNumber
set_option maxRecDepth 20000 in
theorem ggX4_readCard_X5_threadHole : GoodIn wsX4_readCard wsX5_threadHole := goodIn_r _ [33, 34, 35, 36, 32, 37, 44, 45, 46, 47, 48, 49, 50, 51, 52] (by decide +kernel) (by decide +kernel)
set_option maxRecDepth 20000 in
theorem gX4_readCard_X5_threadHole : GoodIn wsX4_readCard (wsV RX4 84 RX5 yX5_threadHole wsX5_threadHole) := goodIn_app (goodIn_of _ (by decide +kernel)) ggX4_readCard_X5_threadHole
set_option maxRecDepth 20000 in
theorem ggX4_readCard_X5_addCard : GoodIn wsX4_readCard wsX5_addCard := goodIn_r _ [41, 42, 43, 44, 45, 46, 47, 48, 49, 50, 51, 52] (by decide +kernel) (by decide +kernel)
set_option maxRecDepth 20000 in
theorem gX4_readCard_X5_addCard : GoodIn wsX4_readCard (wsV RX4 88 RX5 yX5_addCard wsX5_addCard) := goodIn_app (goodIn_of _ (by decide +kernel)) ggX4_readCard_X5_addCard
theorem dX4_readCard_0 : decode cX4_readCard 0 = .ok (.iconst 0, 1) := by decide +kernel
theorem dX4_readCard_1 : decode cX4_readCard 1 = .ok (.istore_n 2, 1) := by decide +kernel
theorem dX4_readCard_2 : decode cX4_readCard 2 = .ok (.iload_n 2, 1) := by decide +kernel
theorem dX4_readCard_3 : decode cX4_readCard 3 = .ok (.iconst 4, 1) := by decide +kernel
theorem dX4_readCard_4 : decode cX4_readCard 4 = .ok (.if_icmp .ge 37, 3) := by decide +kernel
theorem dX4_readCard_7 : decode cX4_readCard 7 = .ok (.aload_n 0, 1) := by decide +kernel
theorem dX4_readCard_8 : decode cX4_readCard 8 = .ok (.iconst 0, 1) := by decide +kernel
theorem dX4_readCard_9 : decode cX4_readCard 9 = .ok (.aload_n 1, 1) := by decide +kernel
theorem dX4_readCard_10 : decode cX4_readCard 10 = .ok (.getfield 48, 3) := by decide +kernel
theorem dX4_readCard_13 : decode cX4_readCard 13 = .ok (.iconst 1, 1) := by decide +kernel
theorem dX4_readCard_14 : decode cX4_readCard 14 = .ok (.isub, 1) := by decide +kernel
theorem dX4_readCard_15 : decode cX4_readCard 15 = .ok (.invokevirtual 80, 3) := by decide +kernel
theorem dX4_readCard_18 : decode cX4_readCard 18 = .ok (.istore_n 3, 1) := by decide +kernel
theorem dX4_readCard_19 : decode cX4_readCard 19 = .ok (.iload_n 3, 1) := by decide +kernel
theorem dX4_readCard_20 : decode cX4_readCard 20 = .ok (.iconst (-1), 1) := by decide +kernel
theorem dX4_readCard_21 : decode cX4_readCard 21 = .ok (.if_icmp .ne 4, 3) := by decide +kernel
theorem dX4_readCard_24 : decode cX4_readCard 24 = .ok (.return_, 1) := by decide +kernel
theorem dX4_readCard_25 : decode cX4_readCard 25 = .ok (.aload_n 1, 1) := by decide +kernel
theorem dX4_readCard_26 : decode cX4_readCard 26 = .ok (.aload_n 1, 1) := by decide +kernel
theorem dX4_readCard_27 : decode cX4_readCard 27 = .ok (.getfield 74, 3) := by decide +kernel
theorem dX4_readCard_30 : decode cX4_readCard 30 = .ok (.iload_n 2, 1) := by decide +kernel
theorem dX4_readCard_31 : decode cX4_readCard 31 = .ok (.iload_n 3, 1) := by decide +kernel
theorem dX4_readCard_32 : decode cX4_readCard 32 = .ok (.invokevirtual 84, 3) := by decide +kernel
theorem dX4_readCard_35 : decode cX4_readCard 35 = .ok (.iinc 2 1, 3) := by decide +kernel
theorem dX4_readCard_38 : decode cX4_readCard 38 = .ok (.goto (-36), 3) := by decide +kernel
theorem dX4_readCard_41 : decode cX4_readCard 41 = .ok (.aload_n 0, 1) := by decide +kernel
theorem dX4_readCard_42 : decode cX4_readCard 42 = .ok (.iconst 0, 1) := by decide +kernel
theorem dX4_readCard_43 : decode cX4_readCard 43 = .ok (.iconst 1, 1) := by decide +kernel
theorem dX4_readCard_44 : decode cX4_readCard 44 = .ok (.invokevirtual 80, 3) := by decide +kernel
theorem dX4_readCard_47 : decode cX4_readCard 47 = .ok (.istore_n 2, 1) := by decide +kernel
theorem dX4_readCard_48 : decode cX4_readCard 48 = .ok (.iload_n 2, 1) := by decide +kernel
theorem dX4_readCard_49 : decode cX4_readCard 49 = .ok (.iconst (-1), 1) := by decide +kernel
theorem dX4_readCard_50 : decode cX4_readCard 50 = .ok (.if_icmp .eq 8, 3) := by decide +kernel
theorem dX4_readCard_53 : decode cX4_readCard 53 = .ok (.aload_n 1, 1) := by decide +kernel
theorem dX4_readCard_54 : decode cX4_readCard 54 = .ok (.iload_n 2, 1) := by decide +kernel
theorem dX4_readCard_55 : decode cX4_readCard 55 = .ok (.invokevirtual 88, 3) := by decide +kernel
theorem dX4_readCard_58 : decode cX4_readCard 58 = .ok (.return_, 1) := by decide +kernel
set_option maxRecDepth 20000 in
theorem ggX4_readPack_X4_readNumber : GoodIn wsX4_readPack wsX4_readNumber := goodIn_r _ [8, 9, 3, 10, 11, 12, 13, 7, 14, 15, 16, 17, 18, 19, 20, 21, 22, 23, 24, 25, 26, 27, 28, 48, 49, 50, 51, 52, 53] (by decide +kernel) (by decide +kernel)
set_option maxRecDepth 20000 in
theorem gX4_readPack_X4_readNumber : GoodIn wsX4_readPack (wsV RX4 80 RX4 yX4_readNumber wsX4_readNumber) := goodIn_app (goodIn_of _ (by decide +kernel)) ggX4_readPack_X4_readNumber
set_option maxRecDepth 20000 in
theorem ggX4_readPack_X4_setFault : GoodIn wsX4_readPack wsX4_setFault := goodIn_r _ [26, 27, 28, 48, 49, 50, 51, 52, 53] (by decide +kernel) (by decide +kernel)
set_option maxRecDepth 20000 in
theorem gX4_readPack_X4_setFault : GoodIn wsX4_readPack (wsV RX4 51 RX4 yX4_setFault wsX4_setFault) := goodIn_app (goodIn_of _ (by decide +kernel)) ggX4_readPack_X4_setFault
set_option maxRecDepth 20000 in
theorem ggX4_readPack_X5_addPack : GoodIn wsX4_readPack wsX5_addPack := goodIn_r _ [33, 34, 35, 36, 37, 38, 39, 40, 41, 42, 43, 44, 45, 46, 47] (by decide +kernel) (by decide +kernel)
set_option maxRecDepth 20000 in
theorem gX4_readPack_X5_addPack : GoodIn wsX4_readPack (wsV RX4 98 RX5 yX5_addPack wsX5_addPack) := goodIn_app (goodIn_of _ (by decide +kernel)) ggX4_readPack_X5_addPack
theorem dX4_readPack_0 : decode cX4_readPack 0 = .ok (.aload_n 0, 1) := by decide +kernel
theorem dX4_readPack_1 : decode cX4_readPack 1 = .ok (.iconst 1, 1) := by decide +kernel
theorem dX4_readPack_2 : decode cX4_readPack 2 = .ok (.iconst 1, 1) := by decide +kernel
theorem dX4_readPack_3 : decode cX4_readPack 3 = .ok (.aload_n 1, 1) := by decide +kernel
theorem dX4_readPack_4 : decode cX4_readPack 4 = .ok (.getfield 74, 3) := by decide +kernel
theorem dX4_readPack_7 : decode cX4_readPack 7 = .ok (.ishl, 1) := by decide +kernel
theorem dX4_readPack_8 : decode cX4_readPack 8 = .ok (.iconst 1, 1) := by decide +kernel
theorem dX4_readPack_9 : decode cX4_readPack 9 = .ok (.isub, 1) := by decide +kernel
theorem dX4_readPack_10 : decode cX4_readPack 10 = .ok (.invokevirtual 80, 3) := by decide +kernel
theorem dX4_readPack_13 : decode cX4_readPack 13 = .ok (.istore_n 2, 1) := by decide +kernel
theorem dX4_readPack_14 : decode cX4_readPack 14 = .ok (.iload_n 2, 1) := by decide +kernel
theorem dX4_readPack_15 : decode cX4_readPack 15 = .ok (.iconst (-1), 1) := by decide +kernel
theorem dX4_readPack_16 : decode cX4_readPack 16 = .ok (.if_icmp .ne 4, 3) := by decide +kernel
theorem dX4_readPack_19 : decode cX4_readPack 19 = .ok (.return_, 1) := by decide +kernel
theorem dX4_readPack_20 : decode cX4_readPack 20 = .ok (.iload_n 2, 1) := by decide +kernel
theorem dX4_readPack_21 : decode cX4_readPack 21 = .ok (.aload_n 1, 1) := by decide +kernel
theorem dX4_readPack_22 : decode cX4_readPack 22 = .ok (.getfield 92, 3) := by decide +kernel
theorem dX4_readPack_25 : decode cX4_readPack 25 = .ok (.iand, 1) := by decide +kernel
theorem dX4_readPack_26 : decode cX4_readPack 26 = .ok (.ifCond .eq 13, 3) := by decide +kernel
theorem dX4_readPack_29 : decode cX4_readPack 29 = .ok (.aload_n 0, 1) := by decide +kernel
theorem dX4_readPack_30 : decode cX4_readPack 30 = .ok (.iconst 4, 1) := by decide +kernel
theorem dX4_readPack_31 : decode cX4_readPack 31 = .ok (.aload_n 0, 1) := by decide +kernel
theorem dX4_readPack_32 : decode cX4_readPack 32 = .ok (.getfield 95, 3) := by decide +kernel
theorem dX4_readPack_35 : decode cX4_readPack 35 = .ok (.invokevirtual 51, 3) := by decide +kernel
theorem dX4_readPack_38 : decode cX4_readPack 38 = .ok (.return_, 1) := by decide +kernel
theorem dX4_readPack_39 : decode cX4_readPack 39 = .ok (.aload_n 1, 1) := by decide +kernel
theorem dX4_readPack_40 : decode cX4_readPack 40 = .ok (.iload_n 2, 1) := by decide +kernel
theorem dX4_readPack_41 : decode cX4_readPack 41 = .ok (.invokevirtual 98, 3) := by decide +kernel
theorem dX4_readPack_44 : decode cX4_readPack 44 = .ok (.return_, 1) := by decide +kernel
set_option maxRecDepth 20000 in
theorem ggX4_readYarn_X4_readNumber : GoodIn wsX4_readYarn wsX4_readNumber := goodIn_r _ [7, 8, 9, 10, 11, 12, 13, 6, 14, 15, 16, 17, 18, 19, 20, 21, 22, 23, 24, 25, 26, 27, 28, 38, 39, 40, 41, 42, 43] (by decide +kernel) (by decide +kernel)
set_option maxRecDepth 20000 in
theorem gX4_readYarn_X4_readNumber : GoodIn wsX4_readYarn (wsV RX4 80 RX4 yX4_readNumber wsX4_readNumber) := goodIn_app (goodIn_of _ (by decide +kernel)) ggX4_readYarn_X4_readNumber
theorem dX4_readYarn_0 : decode cX4_readYarn 0 = .ok (.aload_n 0, 1) := by decide +kernel
theorem dX4_readYarn_1 : decode cX4_readYarn 1 = .ok (.iconst 0, 1) := by decide +kernel
theorem dX4_readYarn_2 : decode cX4_readYarn 2 = .ok (.aload_n 1, 1) := by decide +kernel
theorem dX4_readYarn_3 : decode cX4_readYarn 3 = .ok (.getfield 48, 3) := by decide +kernel
theorem dX4_readYarn_6 : decode cX4_readYarn 6 = .ok (.iconst 1, 1) := by decide +kernel
theorem dX4_readYarn_7 : decode cX4_readYarn 7 = .ok (.isub, 1) := by decide +kernel
theorem dX4_readYarn_8 : decode cX4_readYarn 8 = .ok (.invokevirtual 80, 3) := by decide +kernel
theorem dX4_readYarn_11 : decode cX4_readYarn 11 = .ok (.istore_n 2, 1) := by decide +kernel
theorem dX4_readYarn_12 : decode cX4_readYarn 12 = .ok (.iload_n 2, 1) := by decide +kernel
theorem dX4_readYarn_13 : decode cX4_readYarn 13 = .ok (.iconst (-1), 1) := by decide +kernel
theorem dX4_readYarn_14 : decode cX4_readYarn 14 = .ok (.if_icmp .ne 4, 3) := by decide +kernel
theorem dX4_readYarn_17 : decode cX4_readYarn 17 = .ok (.return_, 1) := by decide +kernel
theorem dX4_readYarn_18 : decode cX4_readYarn 18 = .ok (.aload_n 0, 1) := by decide +kernel
theorem dX4_readYarn_19 : decode cX4_readYarn 19 = .ok (.iconst 0, 1) := by decide +kernel
theorem dX4_readYarn_20 : decode cX4_readYarn 20 = .ok (.sipush 999, 3) := by decide +kernel
theorem dX4_readYarn_23 : decode cX4_readYarn 23 = .ok (.invokevirtual 80, 3) := by decide +kernel
theorem dX4_readYarn_26 : decode cX4_readYarn 26 = .ok (.istore_n 3, 1) := by decide +kernel
theorem dX4_readYarn_27 : decode cX4_readYarn 27 = .ok (.iload_n 3, 1) := by decide +kernel
theorem dX4_readYarn_28 : decode cX4_readYarn 28 = .ok (.iconst (-1), 1) := by decide +kernel
theorem dX4_readYarn_29 : decode cX4_readYarn 29 = .ok (.if_icmp .eq 16, 3) := by decide +kernel
theorem dX4_readYarn_32 : decode cX4_readYarn 32 = .ok (.iload_n 2, 1) := by decide +kernel
theorem dX4_readYarn_33 : decode cX4_readYarn 33 = .ok (.bipush 8, 2) := by decide +kernel
theorem dX4_readYarn_35 : decode cX4_readYarn 35 = .ok (.if_icmp .ge 10, 3) := by decide +kernel
theorem dX4_readYarn_38 : decode cX4_readYarn 38 = .ok (.aload_n 1, 1) := by decide +kernel
theorem dX4_readYarn_39 : decode cX4_readYarn 39 = .ok (.getfield 101, 3) := by decide +kernel
theorem dX4_readYarn_42 : decode cX4_readYarn 42 = .ok (.iload_n 2, 1) := by decide +kernel
theorem dX4_readYarn_43 : decode cX4_readYarn 43 = .ok (.iload_n 3, 1) := by decide +kernel
theorem dX4_readYarn_44 : decode cX4_readYarn 44 = .ok (.iastore, 1) := by decide +kernel
theorem dX4_readYarn_45 : decode cX4_readYarn 45 = .ok (.return_, 1) := by decide +kernel
set_option maxRecDepth 20000 in
theorem ggX4_readEnd_X4_skipBlanks : GoodIn wsX4_readEnd wsX4_skipBlanks := goodIn_r _ [6, 1, 7, 8, 9, 10, 5, 11, 12, 19, 20, 21, 22, 23, 24] (by decide +kernel) (by decide +kernel)
set_option maxRecDepth 20000 in
theorem gX4_readEnd_X4_skipBlanks : GoodIn wsX4_readEnd (wsV RX4 33 RX4 yX4_skipBlanks wsX4_skipBlanks) := goodIn_app (goodIn_of _ (by decide +kernel)) ggX4_readEnd_X4_skipBlanks
set_option maxRecDepth 20000 in
theorem ggX4_readEnd_X4_letterHere : GoodIn wsX4_readEnd wsX4_letterHere := goodIn_r _ [11, 1, 7, 12, 19, 20, 21, 22, 23, 24] (by decide +kernel) (by decide +kernel)
set_option maxRecDepth 20000 in
theorem gX4_readEnd_X4_letterHere : GoodIn wsX4_readEnd (wsV RX4 40 RX4 yX4_letterHere wsX4_letterHere) := goodIn_app (goodIn_of _ (by decide +kernel)) ggX4_readEnd_X4_letterHere
set_option maxRecDepth 20000 in
theorem ggX4_readEnd_X4_setFault : GoodIn wsX4_readEnd wsX4_setFault := goodIn_r _ [16, 17, 18, 19, 20, 21, 22, 23, 24] (by decide +kernel) (by decide +kernel)
set_option maxRecDepth 20000 in
theorem gX4_readEnd_X4_setFault : GoodIn wsX4_readEnd (wsV RX4 51 RX4 yX4_setFault wsX4_setFault) := goodIn_app (goodIn_of _ (by decide +kernel)) ggX4_readEnd_X4_setFault
theorem dX4_readEnd_0 : decode cX4_readEnd 0 = .ok (.aload_n 0, 1) := by decide +kernel
theorem dX4_readEnd_1 : decode cX4_readEnd 1 = .ok (.invokevirtual 33, 3) := by decide +kernel
theorem dX4_readEnd_4 : decode cX4_readEnd 4 = .ok (.aload_n 0, 1) := by decide +kernel
theorem dX4_readEnd_5 : decode cX4_readEnd 5 = .ok (.invokevirtual 40, 3) := by decide +kernel
theorem dX4_readEnd_8 : decode cX4_readEnd 8 = .ok (.bipush 59, 2) := by decide +kernel
theorem dX4_readEnd_10 : decode cX4_readEnd 10 = .ok (.if_icmp .eq 13, 3) := by decide +kernel
theorem dX4_readEnd_13 : decode cX4_readEnd 13 = .ok (.aload_n 0, 1) := by decide +kernel
theorem dX4_readEnd_14 : decode cX4_readEnd 14 = .ok (.iconst 1, 1) := by decide +kernel
theorem dX4_readEnd_15 : decode cX4_readEnd 15 = .ok (.aload_n 0, 1) := by decide +kernel
theorem dX4_readEnd_16 : decode cX4_readEnd 16 = .ok (.getfield 22, 3) := by decide +kernel
theorem dX4_readEnd_19 : decode cX4_readEnd 19 = .ok (.invokevirtual 51, 3) := by decide +kernel
theorem dX4_readEnd_22 : decode cX4_readEnd 22 = .ok (.return_, 1) := by decide +kernel
theorem dX4_readEnd_23 : decode cX4_readEnd 23 = .ok (.aload_n 0, 1) := by decide +kernel
theorem dX4_readEnd_24 : decode cX4_readEnd 24 = .ok (.dup, 1) := by decide +kernel
theorem dX4_readEnd_25 : decode cX4_readEnd 25 = .ok (.getfield 22, 3) := by decide +kernel
theorem dX4_readEnd_28 : decode cX4_readEnd 28 = .ok (.iconst 1, 1) := by decide +kernel
theorem dX4_readEnd_29 : decode cX4_readEnd 29 = .ok (.iadd, 1) := by decide +kernel
theorem dX4_readEnd_30 : decode cX4_readEnd 30 = .ok (.putfield 22, 3) := by decide +kernel
theorem dX4_readEnd_33 : decode cX4_readEnd 33 = .ok (.return_, 1) := by decide +kernel
set_option maxRecDepth 20000 in
theorem ggX4_readNumber_X4_skipBlanks : GoodIn wsX4_readNumber wsX4_skipBlanks := goodIn_r _ [8, 1, 3, 9, 10, 11, 7, 12, 13, 23, 24, 25, 26, 27, 28] (by decide +kernel) (by decide +kernel)
set_option maxRecDepth 20000 in
theorem gX4_readNumber_X4_skipBlanks : GoodIn wsX4_readNumber (wsV RX4 33 RX4 yX4_skipBlanks wsX4_skipBlanks) := goodIn_app (goodIn_of _ (by decide +kernel)) ggX4_readNumber_X4_skipBlanks
set_option maxRecDepth 20000 in
theorem ggX4_readNumber_X4_letterHere : GoodIn wsX4_readNumber wsX4_letterHere := goodIn_r _ [12, 1, 3, 13, 23, 24, 25, 26, 27, 28] (by decide +kernel) (by decide +kernel)
set_option maxRecDepth 20000 in
theorem gX4_readNumber_X4_letterHere : GoodIn wsX4_readNumber (wsV RX4 40 RX4 yX4_letterHere wsX4_letterHere) := goodIn_app (goodIn_of _ (by decide +kernel)) ggX4_readNumber_X4_letterHere
set_option maxRecDepth 20000 in
theorem ggX4_readNumber_X4_isFigure : GoodIn wsX4_readNumber wsX4_isFigure := goodIn_r _ [16] (by decide +kernel) (by decide +kernel)
set_option maxRecDepth 20000 in
theorem gX4_readNumber_X4_isFigure : GoodIn wsX4_readNumber (va_wsS RX4 104 yX4_isFigure wsX4_isFigure) := goodIn_app (goodIn_of _ (by decide +kernel)) ggX4_readNumber_X4_isFigure
set_option maxRecDepth 20000 in
theorem ggX4_readNumber_X4_setFault : GoodIn wsX4_readNumber wsX4_setFault := goodIn_r _ [20, 21, 22, 23, 24, 25, 26, 27, 28] (by decide +kernel) (by decide +kernel)
set_option maxRecDepth 20000 in
theorem gX4_readNumber_X4_setFault : GoodIn wsX4_readNumber (wsV RX4 51 RX4 yX4_setFault wsX4_setFault) := goodIn_app (goodIn_of _ (by decide +kernel)) ggX4_readNumber_X4_setFault
theorem dX4_readNumber_0 : decode cX4_readNumber 0 = .ok (.aload_n 0, 1) := by decide +kernel
theorem dX4_readNumber_1 : decode cX4_readNumber 1 = .ok (.invokevirtual 33, 3) := by decide +kernel
theorem dX4_readNumber_4 : decode cX4_readNumber 4 = .ok (.aload_n 0, 1) := by decide +kernel
theorem dX4_readNumber_5 : decode cX4_readNumber 5 = .ok (.invokevirtual 40, 3) := by decide +kernel
theorem dX4_readNumber_8 : decode cX4_readNumber 8 = .ok (.invokestatic 104, 3) := by decide +kernel
theorem dX4_readNumber_11 : decode cX4_readNumber 11 = .ok (.ifCond .ne 14, 3) := by decide +kernel
theorem dX4_readNumber_14 : decode cX4_readNumber 14 = .ok (.aload_n 0, 1) := by decide +kernel
theorem dX4_readNumber_15 : decode cX4_readNumber 15 = .ok (.iconst 1, 1) := by decide +kernel
theorem dX4_readNumber_16 : decode cX4_readNumber 16 = .ok (.aload_n 0, 1) := by decide +kernel
theorem dX4_readNumber_17 : decode cX4_readNumber 17 = .ok (.getfield 22, 3) := by decide +kernel
theorem dX4_readNumber_20 : decode cX4_readNumber 20 = .ok (.invokevirtual 51, 3) := by decide +kernel
theorem dX4_readNumber_23 : decode cX4_readNumber 23 = .ok (.iconst (-1), 1) := by decide +kernel
theorem dX4_readNumber_24 : decode cX4_readNumber 24 = .ok (.ireturn, 1) := by decide +kernel
theorem dX4_readNumber_25 : decode cX4_readNumber 25 = .ok (.aload_n 0, 1) := by decide +kernel
theorem dX4_readNumber_26 : decode cX4_readNumber 26 = .ok (.aload_n 0, 1) := by decide +kernel
theorem dX4_readNumber_27 : decode cX4_readNumber 27 = .ok (.getfield 22, 3) := by decide +kernel
theorem dX4_readNumber_30 : decode cX4_readNumber 30 = .ok (.putfield 95, 3) := by decide +kernel
theorem dX4_readNumber_33 : decode cX4_readNumber 33 = .ok (.iconst 0, 1) := by decide +kernel
theorem dX4_readNumber_34 : decode cX4_readNumber 34 = .ok (.istore_n 3, 1) := by decide +kernel
theorem dX4_readNumber_35 : decode cX4_readNumber 35 = .ok (.aload_n 0, 1) := by decide +kernel
theorem dX4_readNumber_36 : decode cX4_readNumber 36 = .ok (.getfield 22, 3) := by decide +kernel
theorem dX4_readNumber_39 : decode cX4_readNumber 39 = .ok (.aload_n 0, 1) := by decide +kernel
theorem dX4_readNumber_40 : decode cX4_readNumber 40 = .ok (.getfield 19, 3) := by decide +kernel
theorem dX4_readNumber_43 : decode cX4_readNumber 43 = .ok (.if_icmp .ge 52, 3) := by decide +kernel
theorem dX4_readNumber_46 : decode cX4_readNumber 46 = .ok (.aload_n 0, 1) := by decide +kernel
theorem dX4_readNumber_47 : decode cX4_readNumber 47 = .ok (.invokevirtual 40, 3) := by decide +kernel
theorem dX4_readNumber_50 : decode cX4_readNumber 50 = .ok (.invokestatic 104, 3) := by decide +kernel
theorem dX4_readNumber_53 : decode cX4_readNumber 53 = .ok (.ifCond .eq 42, 3) := by decide +kernel
theorem dX4_readNumber_56 : decode cX4_readNumber 56 = .ok (.aload_n 0, 1) := by decide +kernel
theorem dX4_readNumber_57 : decode cX4_readNumber 57 = .ok (.getfield 22, 3) := by decide +kernel
theorem dX4_readNumber_60 : decode cX4_readNumber 60 = .ok (.aload_n 0, 1) := by decide +kernel
theorem dX4_readNumber_61 : decode cX4_readNumber 61 = .ok (.getfield 95, 3) := by decide +kernel
theorem dX4_readNumber_64 : decode cX4_readNumber 64 = .ok (.isub, 1) := by decide +kernel
theorem dX4_readNumber_65 : decode cX4_readNumber 65 = .ok (.iconst 3, 1) := by decide +kernel
theorem dX4_readNumber_66 : decode cX4_readNumber 66 = .ok (.if_icmp .ge 16, 3) := by decide +kernel
theorem dX4_readNumber_69 : decode cX4_readNumber 69 = .ok (.iload_n 3, 1) := by decide +kernel
theorem dX4_readNumber_70 : decode cX4_readNumber 70 = .ok (.bipush 10, 2) := by decide +kernel
theorem dX4_readNumber_72 : decode cX4_readNumber 72 = .ok (.imul, 1) := by decide +kernel
theorem dX4_readNumber_73 : decode cX4_readNumber 73 = .ok (.aload_n 0, 1) := by decide +kernel
theorem dX4_readNumber_74 : decode cX4_readNumber 74 = .ok (.invokevirtual 40, 3) := by decide +kernel
theorem dX4_readNumber_77 : decode cX4_readNumber 77 = .ok (.iadd, 1) := by decide +kernel
theorem dX4_readNumber_78 : decode cX4_readNumber 78 = .ok (.bipush 48, 2) := by decide +kernel
theorem dX4_readNumber_80 : decode cX4_readNumber 80 = .ok (.isub, 1) := by decide +kernel
theorem dX4_readNumber_81 : decode cX4_readNumber 81 = .ok (.istore_n 3, 1) := by decide +kernel
theorem dX4_readNumber_82 : decode cX4_readNumber 82 = .ok (.aload_n 0, 1) := by decide +kernel
theorem dX4_readNumber_83 : decode cX4_readNumber 83 = .ok (.dup, 1) := by decide +kernel
theorem dX4_readNumber_84 : decode cX4_readNumber 84 = .ok (.getfield 22, 3) := by decide +kernel
theorem dX4_readNumber_87 : decode cX4_readNumber 87 = .ok (.iconst 1, 1) := by decide +kernel
theorem dX4_readNumber_88 : decode cX4_readNumber 88 = .ok (.iadd, 1) := by decide +kernel
theorem dX4_readNumber_89 : decode cX4_readNumber 89 = .ok (.putfield 22, 3) := by decide +kernel
theorem dX4_readNumber_92 : decode cX4_readNumber 92 = .ok (.goto (-57), 3) := by decide +kernel
theorem dX4_readNumber_95 : decode cX4_readNumber 95 = .ok (.aload_n 0, 1) := by decide +kernel
theorem dX4_readNumber_96 : decode cX4_readNumber 96 = .ok (.getfield 22, 3) := by decide +kernel
theorem dX4_readNumber_99 : decode cX4_readNumber 99 = .ok (.aload_n 0, 1) := by decide +kernel
theorem dX4_readNumber_100 : decode cX4_readNumber 100 = .ok (.getfield 95, 3) := by decide +kernel
theorem dX4_readNumber_103 : decode cX4_readNumber 103 = .ok (.isub, 1) := by decide +kernel
theorem dX4_readNumber_104 : decode cX4_readNumber 104 = .ok (.iconst 3, 1) := by decide +kernel
theorem dX4_readNumber_105 : decode cX4_readNumber 105 = .ok (.if_icmp .gt 13, 3) := by decide +kernel
theorem dX4_readNumber_108 : decode cX4_readNumber 108 = .ok (.iload_n 3, 1) := by decide +kernel
theorem dX4_readNumber_109 : decode cX4_readNumber 109 = .ok (.iload_n 1, 1) := by decide +kernel
theorem dX4_readNumber_110 : decode cX4_readNumber 110 = .ok (.if_icmp .lt 8, 3) := by decide +kernel
theorem dX4_readNumber_113 : decode cX4_readNumber 113 = .ok (.iload_n 3, 1) := by decide +kernel
theorem dX4_readNumber_114 : decode cX4_readNumber 114 = .ok (.iload_n 2, 1) := by decide +kernel
theorem dX4_readNumber_115 : decode cX4_readNumber 115 = .ok (.if_icmp .le 14, 3) := by decide +kernel
theorem dX4_readNumber_118 : decode cX4_readNumber 118 = .ok (.aload_n 0, 1) := by decide +kernel
theorem dX4_readNumber_119 : decode cX4_readNumber 119 = .ok (.iconst 2, 1) := by decide +kernel
theorem dX4_readNumber_120 : decode cX4_readNumber 120 = .ok (.aload_n 0, 1) := by decide +kernel
theorem dX4_readNumber_121 : decode cX4_readNumber 121 = .ok (.getfield 95, 3) := by decide +kernel
theorem dX4_readNumber_124 : decode cX4_readNumber 124 = .ok (.invokevirtual 51, 3) := by decide +kernel
theorem dX4_readNumber_127 : decode cX4_readNumber 127 = .ok (.iconst (-1), 1) := by decide +kernel
theorem dX4_readNumber_128 : decode cX4_readNumber 128 = .ok (.ireturn, 1) := by decide +kernel
theorem dX4_readNumber_129 : decode cX4_readNumber 129 = .ok (.iload_n 3, 1) := by decide +kernel
theorem dX4_readNumber_130 : decode cX4_readNumber 130 = .ok (.ireturn, 1) := by decide +kernel
theorem dX4_isFigure_0 : decode cX4_isFigure 0 = .ok (.iload_n 0, 1) := by decide +kernel
theorem dX4_isFigure_1 : decode cX4_isFigure 1 = .ok (.bipush 48, 2) := by decide +kernel
theorem dX4_isFigure_3 : decode cX4_isFigure 3 = .ok (.if_icmp .lt 13, 3) := by decide +kernel
theorem dX4_isFigure_6 : decode cX4_isFigure 6 = .ok (.iload_n 0, 1) := by decide +kernel
theorem dX4_isFigure_7 : decode cX4_isFigure 7 = .ok (.bipush 57, 2) := by decide +kernel
theorem dX4_isFigure_9 : decode cX4_isFigure 9 = .ok (.if_icmp .gt 7, 3) := by decide +kernel
theorem dX4_isFigure_12 : decode cX4_isFigure 12 = .ok (.iconst 1, 1) := by decide +kernel
theorem dX4_isFigure_13 : decode cX4_isFigure 13 = .ok (.goto 4, 3) := by decide +kernel
theorem dX4_isFigure_16 : decode cX4_isFigure 16 = .ok (.iconst 0, 1) := by decide +kernel
theorem dX4_isFigure_17 : decode cX4_isFigure 17 = .ok (.ireturn, 1) := by decide +kernel
set_option maxRecDepth 20000 in
theorem ggX4_skipBlanks_X4_letterHere : GoodIn wsX4_skipBlanks wsX4_letterHere := goodIn_r _ [7, 1, 2, 8, 9, 10, 11, 12, 13, 14] (by decide +kernel) (by decide +kernel)
set_option maxRecDepth 20000 in
theorem gX4_skipBlanks_X4_letterHere : GoodIn wsX4_skipBlanks (wsV RX4 40 RX4 yX4_letterHere wsX4_letterHere) := goodIn_app (goodIn_of _ (by decide +kernel)) ggX4_skipBlanks_X4_letterHere
theorem dX4_skipBlanks_0 : decode cX4_skipBlanks 0 = .ok (.aload_n 0, 1) := by decide +kernel
theorem dX4_skipBlanks_1 : decode cX4_skipBlanks 1 = .ok (.getfield 22, 3) := by decide +kernel
theorem dX4_skipBlanks_4 : decode cX4_skipBlanks 4 = .ok (.aload_n 0, 1) := by decide +kernel
theorem dX4_skipBlanks_5 : decode cX4_skipBlanks 5 = .ok (.getfield 19, 3) := by decide +kernel
theorem dX4_skipBlanks_8 : decode cX4_skipBlanks 8 = .ok (.if_icmp .ge 25, 3) := by decide +kernel
theorem dX4_skipBlanks_11 : decode cX4_skipBlanks 11 = .ok (.aload_n 0, 1) := by decide +kernel
theorem dX4_skipBlanks_12 : decode cX4_skipBlanks 12 = .ok (.invokevirtual 40, 3) := by decide +kernel
theorem dX4_skipBlanks_15 : decode cX4_skipBlanks 15 = .ok (.bipush 32, 2) := by decide +kernel
theorem dX4_skipBlanks_17 : decode cX4_skipBlanks 17 = .ok (.if_icmp .ne 16, 3) := by decide +kernel
theorem dX4_skipBlanks_20 : decode cX4_skipBlanks 20 = .ok (.aload_n 0, 1) := by decide +kernel
theorem dX4_skipBlanks_21 : decode cX4_skipBlanks 21 = .ok (.dup, 1) := by decide +kernel
theorem dX4_skipBlanks_22 : decode cX4_skipBlanks 22 = .ok (.getfield 22, 3) := by decide +kernel
theorem dX4_skipBlanks_25 : decode cX4_skipBlanks 25 = .ok (.iconst 1, 1) := by decide +kernel
theorem dX4_skipBlanks_26 : decode cX4_skipBlanks 26 = .ok (.iadd, 1) := by decide +kernel
theorem dX4_skipBlanks_27 : decode cX4_skipBlanks 27 = .ok (.putfield 22, 3) := by decide +kernel
theorem dX4_skipBlanks_30 : decode cX4_skipBlanks 30 = .ok (.goto (-30), 3) := by decide +kernel
theorem dX4_skipBlanks_33 : decode cX4_skipBlanks 33 = .ok (.return_, 1) := by decide +kernel
theorem dX4_letterHere_0 : decode cX4_letterHere 0 = .ok (.aload_n 0, 1) := by decide +kernel
theorem dX4_letterHere_1 : decode cX4_letterHere 1 = .ok (.getfield 22, 3) := by decide +kernel
theorem dX4_letterHere_4 : decode cX4_letterHere 4 = .ok (.ifCond .lt 36, 3) := by decide +kernel
theorem dX4_letterHere_7 : decode cX4_letterHere 7 = .ok (.aload_n 0, 1) := by decide +kernel
theorem dX4_letterHere_8 : decode cX4_letterHere 8 = .ok (.getfield 22, 3) := by decide +kernel
theorem dX4_letterHere_11 : decode cX4_letterHere 11 = .ok (.aload_n 0, 1) := by decide +kernel
theorem dX4_letterHere_12 : decode cX4_letterHere 12 = .ok (.getfield 19, 3) := by decide +kernel
theorem dX4_letterHere_15 : decode cX4_letterHere 15 = .ok (.if_icmp .ge 25, 3) := by decide +kernel
theorem dX4_letterHere_18 : decode cX4_letterHere 18 = .ok (.aload_n 0, 1) := by decide +kernel
theorem dX4_letterHere_19 : decode cX4_letterHere 19 = .ok (.getfield 22, 3) := by decide +kernel
theorem dX4_letterHere_22 : decode cX4_letterHere 22 = .ok (.sipush 240, 3) := by decide +kernel
theorem dX4_letterHere_25 : decode cX4_letterHere 25 = .ok (.if_icmp .ge 15, 3) := by decide +kernel
theorem dX4_letterHere_28 : decode cX4_letterHere 28 = .ok (.aload_n 0, 1) := by decide +kernel
theorem dX4_letterHere_29 : decode cX4_letterHere 29 = .ok (.getfield 9, 3) := by decide +kernel
theorem dX4_letterHere_32 : decode cX4_letterHere 32 = .ok (.aload_n 0, 1) := by decide +kernel
theorem dX4_letterHere_33 : decode cX4_letterHere 33 = .ok (.getfield 22, 3) := by decide +kernel
theorem dX4_letterHere_36 : decode cX4_letterHere 36 = .ok (.iaload, 1) := by decide +kernel
theorem dX4_letterHere_37 : decode cX4_letterHere 37 = .ok (.goto 4, 3) := by decide +kernel
theorem dX4_letterHere_40 : decode cX4_letterHere 40 = .ok (.iconst (-1), 1) := by decide +kernel
theorem dX4_letterHere_41 : decode cX4_letterHere 41 = .ok (.ireturn, 1) := by decide +kernel
theorem dX4_setFault_0 : decode cX4_setFault 0 = .ok (.aload_n 0, 1) := by decide +kernel
theorem dX4_setFault_1 : decode cX4_setFault 1 = .ok (.iload_n 1, 1) := by decide +kernel
theorem dX4_setFault_2 : decode cX4_setFault 2 = .ok (.putfield 25, 3) := by decide +kernel
theorem dX4_setFault_5 : decode cX4_setFault 5 = .ok (.aload_n 0, 1) := by decide +kernel
theorem dX4_setFault_6 : decode cX4_setFault 6 = .ok (.iload_n 2, 1) := by decide +kernel
theorem dX4_setFault_7 : decode cX4_setFault 7 = .ok (.putfield 15, 3) := by decide +kernel
theorem dX4_setFault_10 : decode cX4_setFault 10 = .ok (.return_, 1) := by decide +kernel
theorem dX5_init_0 : decode cX5_init 0 = .ok (.aload_n 0, 1) := by decide +kernel
theorem dX5_init_1 : decode cX5_init 1 = .ok (.invokespecial 3, 3) := by decide +kernel
theorem dX5_init_4 : decode cX5_init 4 = .ok (.aload_n 0, 1) := by decide +kernel
theorem dX5_init_5 : decode cX5_init 5 = .ok (.bipush 32, 2) := by decide +kernel
theorem dX5_init_7 : decode cX5_init 7 = .ok (.newarray .int, 2) := by decide +kernel
theorem dX5_init_9 : decode cX5_init 9 = .ok (.putfield 9, 3) := by decide +kernel
theorem dX5_init_12 : decode cX5_init 12 = .ok (.aload_n 0, 1) := by decide +kernel
theorem dX5_init_13 : decode cX5_init 13 = .ok (.bipush 8, 2) := by decide +kernel
theorem dX5_init_15 : decode cX5_init 15 = .ok (.newarray .int, 2) := by decide +kernel
theorem dX5_init_17 : decode cX5_init 17 = .ok (.putfield 15, 3) := by decide +kernel
theorem dX5_init_20 : decode cX5_init 20 = .ok (.aload_n 0, 1) := by decide +kernel
theorem dX5_init_21 : decode cX5_init 21 = .ok (.bipush 8, 2) := by decide +kernel
theorem dX5_init_23 : decode cX5_init 23 = .ok (.newarray .int, 2) := by decide +kernel
theorem dX5_init_25 : decode cX5_init 25 = .ok (.putfield 18, 3) := by decide +kernel
theorem dX5_init_28 : decode cX5_init 28 = .ok (.aload_n 0, 1) := by decide +kernel
theorem dX5_init_29 : decode cX5_init 29 = .ok (.iconst 4, 1) := by decide +kernel
theorem dX5_init_30 : decode cX5_init 30 = .ok (.newarray .int, 2) := by decide +kernel
theorem dX5_init_32 : decode cX5_init 32 = .ok (.putfield 21, 3) := by decide +kernel
theorem dX5_init_35 : decode cX5_init 35 = .ok (.aload_n 0, 1) := by decide +kernel
theorem dX5_init_36 : decode cX5_init 36 = .ok (.bipush 8, 2) := by decide +kernel
theorem dX5_init_38 : decode cX5_init 38 = .ok (.newarray .int, 2) := by decide +kernel
theorem dX5_init_40 : decode cX5_init 40 = .ok (.putfield 24, 3) := by decide +kernel
theorem dX5_init_43 : decode cX5_init 43 = .ok (.return_, 1) := by decide +kernel
set_option maxRecDepth 20000 in
theorem ggX5_clear_J7_fill_53178 : GoodIn wsX5_clear wsJ7_fill_53178 := goodIn_r _ [10] (by decide +kernel) (by decide +kernel)
set_option maxRecDepth 20000 in
theorem gX5_clear_J7_fill_53178 : GoodIn wsX5_clear (va_wsS RX5 40 yJ7_fill_53178 wsJ7_fill_53178) := goodIn_app (goodIn_of _ (by decide +kernel)) ggX5_clear_J7_fill_53178
theorem dX5_clear_0 : decode cX5_clear 0 = .ok (.aload_n 0, 1) := by decide +kernel
theorem dX5_clear_1 : decode cX5_clear 1 = .ok (.iconst 0, 1) := by decide +kernel
theorem dX5_clear_2 : decode cX5_clear 2 = .ok (.putfield 27, 3) := by decide +kernel
theorem dX5_clear_5 : decode cX5_clear 5 = .ok (.aload_n 0, 1) := by decide +kernel
theorem dX5_clear_6 : decode cX5_clear 6 = .ok (.iconst 0, 1) := by decide +kernel
theorem dX5_clear_7 : decode cX5_clear 7 = .ok (.putfield 31, 3) := by decide +kernel
theorem dX5_clear_10 : decode cX5_clear 10 = .ok (.aload_n 0, 1) := by decide +kernel
theorem dX5_clear_11 : decode cX5_clear 11 = .ok (.iconst 0, 1) := by decide +kernel
theorem dX5_clear_12 : decode cX5_clear 12 = .ok (.putfield 34, 3) := by decide +kernel
theorem dX5_clear_15 : decode cX5_clear 15 = .ok (.aload_n 0, 1) := by decide +kernel
theorem dX5_clear_16 : decode cX5_clear 16 = .ok (.iconst 0, 1) := by decide +kernel
theorem dX5_clear_17 : decode cX5_clear 17 = .ok (.putfield 37, 3) := by decide +kernel
theorem dX5_clear_20 : decode cX5_clear 20 = .ok (.aload_n 0, 1) := by decide +kernel
theorem dX5_clear_21 : decode cX5_clear 21 = .ok (.getfield 18, 3) := by decide +kernel
theorem dX5_clear_24 : decode cX5_clear 24 = .ok (.iconst (-1), 1) := by decide +kernel
theorem dX5_clear_25 : decode cX5_clear 25 = .ok (.invokestatic 40, 3) := by decide +kernel
theorem dX5_clear_28 : decode cX5_clear 28 = .ok (.aload_n 0, 1) := by decide +kernel
theorem dX5_clear_29 : decode cX5_clear 29 = .ok (.getfield 24, 3) := by decide +kernel
theorem dX5_clear_32 : decode cX5_clear 32 = .ok (.sipush 500, 3) := by decide +kernel
theorem dX5_clear_35 : decode cX5_clear 35 = .ok (.invokestatic 40, 3) := by decide +kernel
theorem dX5_clear_38 : decode cX5_clear 38 = .ok (.return_, 1) := by decide +kernel
theorem dX5_isMade_0 : decode cX5_isMade 0 = .ok (.aload_n 0, 1) := by decide +kernel
theorem dX5_isMade_1 : decode cX5_isMade 1 = .ok (.getfield 27, 3) := by decide +kernel
theorem dX5_isMade_4 : decode cX5_isMade 4 = .ok (.ifCond .le 7, 3) := by decide +kernel
theorem dX5_isMade_7 : decode cX5_isMade 7 = .ok (.iconst 1, 1) := by decide +kernel
theorem dX5_isMade_8 : decode cX5_isMade 8 = .ok (.goto 4, 3) := by decide +kernel
theorem dX5_isMade_11 : decode cX5_isMade 11 = .ok (.iconst 0, 1) := by decide +kernel
theorem dX5_isMade_12 : decode cX5_isMade 12 = .ok (.ireturn, 1) := by decide +kernel
theorem dX5_hasColour_0 : decode cX5_hasColour 0 = .ok (.iload_n 1, 1) := by decide +kernel
theorem dX5_hasColour_1 : decode cX5_hasColour 1 = .ok (.ifCond .lt 15, 3) := by decide +kernel
theorem dX5_hasColour_4 : decode cX5_hasColour 4 = .ok (.iload_n 1, 1) := by decide +kernel
theorem dX5_hasColour_5 : decode cX5_hasColour 5 = .ok (.aload_n 0, 1) := by decide +kernel
theorem dX5_hasColour_6 : decode cX5_hasColour 6 = .ok (.getfield 27, 3) := by decide +kernel
theorem dX5_hasColour_9 : decode cX5_hasColour 9 = .ok (.if_icmp .ge 7, 3) := by decide +kernel
theorem dX5_hasColour_12 : decode cX5_hasColour 12 = .ok (.iconst 1, 1) := by decide +kernel
theorem dX5_hasColour_13 : decode cX5_hasColour 13 = .ok (.goto 4, 3) := by decide +kernel
theorem dX5_hasColour_16 : decode cX5_hasColour 16 = .ok (.iconst 0, 1) := by decide +kernel
theorem dX5_hasColour_17 : decode cX5_hasColour 17 = .ok (.ireturn, 1) := by decide +kernel
theorem dX5_hasCard_0 : decode cX5_hasCard 0 = .ok (.iload_n 1, 1) := by decide +kernel
theorem dX5_hasCard_1 : decode cX5_hasCard 1 = .ok (.ifCond .lt 15, 3) := by decide +kernel
theorem dX5_hasCard_4 : decode cX5_hasCard 4 = .ok (.iload_n 1, 1) := by decide +kernel
theorem dX5_hasCard_5 : decode cX5_hasCard 5 = .ok (.aload_n 0, 1) := by decide +kernel
theorem dX5_hasCard_6 : decode cX5_hasCard 6 = .ok (.getfield 31, 3) := by decide +kernel
theorem dX5_hasCard_9 : decode cX5_hasCard 9 = .ok (.if_icmp .ge 7, 3) := by decide +kernel
theorem dX5_hasCard_12 : decode cX5_hasCard 12 = .ok (.iconst 1, 1) := by decide +kernel
theorem dX5_hasCard_13 : decode cX5_hasCard 13 = .ok (.goto 4, 3) := by decide +kernel
theorem dX5_hasCard_16 : decode cX5_hasCard 16 = .ok (.iconst 0, 1) := by decide +kernel
theorem dX5_hasCard_17 : decode cX5_hasCard 17 = .ok (.ireturn, 1) := by decide +kernel
theorem dX5_hasPack_0 : decode cX5_hasPack 0 = .ok (.iload_n 1, 1) := by decide +kernel
theorem dX5_hasPack_1 : decode cX5_hasPack 1 = .ok (.ifCond .lt 15, 3) := by decide +kernel
theorem dX5_hasPack_4 : decode cX5_hasPack 4 = .ok (.iload_n 1, 1) := by decide +kernel
theorem dX5_hasPack_5 : decode cX5_hasPack 5 = .ok (.aload_n 0, 1) := by decide +kernel
theorem dX5_hasPack_6 : decode cX5_hasPack 6 = .ok (.getfield 34, 3) := by decide +kernel
theorem dX5_hasPack_9 : decode cX5_hasPack 9 = .ok (.if_icmp .ge 7, 3) := by decide +kernel
theorem dX5_hasPack_12 : decode cX5_hasPack 12 = .ok (.iconst 1, 1) := by decide +kernel
theorem dX5_hasPack_13 : decode cX5_hasPack 13 = .ok (.goto 4, 3) := by decide +kernel
theorem dX5_hasPack_16 : decode cX5_hasPack 16 = .ok (.iconst 0, 1) := by decide +kernel
theorem dX5_hasPack_17 : decode cX5_hasPack 17 = .ok (.ireturn, 1) := by decide +kernel
theorem dX5_hasCards_0 : decode cX5_hasCards 0 = .ok (.iload_n 1, 1) := by decide +kernel
theorem dX5_hasCards_1 : decode cX5_hasCards 1 = .ok (.ifCond .lt 17, 3) := by decide +kernel
theorem dX5_hasCards_4 : decode cX5_hasCards 4 = .ok (.iload_n 1, 1) := by decide +kernel
theorem dX5_hasCards_5 : decode cX5_hasCards 5 = .ok (.iconst 1, 1) := by decide +kernel
theorem dX5_hasCards_6 : decode cX5_hasCards 6 = .ok (.aload_n 0, 1) := by decide +kernel
theorem dX5_hasCards_7 : decode cX5_hasCards 7 = .ok (.getfield 31, 3) := by decide +kernel
theorem dX5_hasCards_10 : decode cX5_hasCards 10 = .ok (.ishl, 1) := by decide +kernel
theorem dX5_hasCards_11 : decode cX5_hasCards 11 = .ok (.if_icmp .ge 7, 3) := by decide +kernel
theorem dX5_hasCards_14 : decode cX5_hasCards 14 = .ok (.iconst 1, 1) := by decide +kernel
theorem dX5_hasCards_15 : decode cX5_hasCards 15 = .ok (.goto 4, 3) := by decide +kernel
theorem dX5_hasCards_18 : decode cX5_hasCards 18 = .ok (.iconst 0, 1) := by decide +kernel
theorem dX5_hasCards_19 : decode cX5_hasCards 19 = .ok (.ireturn, 1) := by decide +kernel
theorem dX5_takesMoves_0 : decode cX5_takesMoves 0 = .ok (.iconst 1, 1) := by decide +kernel
theorem dX5_takesMoves_1 : decode cX5_takesMoves 1 = .ok (.istore_n 2, 1) := by decide +kernel
theorem dX5_takesMoves_2 : decode cX5_takesMoves 2 = .ok (.iconst 0, 1) := by decide +kernel
theorem dX5_takesMoves_3 : decode cX5_takesMoves 3 = .ok (.istore_n 3, 1) := by decide +kernel
theorem dX5_takesMoves_4 : decode cX5_takesMoves 4 = .ok (.iload_n 3, 1) := by decide +kernel
theorem dX5_takesMoves_5 : decode cX5_takesMoves 5 = .ok (.aload_n 0, 1) := by decide +kernel
theorem dX5_takesMoves_6 : decode cX5_takesMoves 6 = .ok (.getfield 34, 3) := by decide +kernel
theorem dX5_takesMoves_9 : decode cX5_takesMoves 9 = .ok (.if_icmp .ge 13, 3) := by decide +kernel
theorem dX5_takesMoves_12 : decode cX5_takesMoves 12 = .ok (.iload_n 2, 1) := by decide +kernel
theorem dX5_takesMoves_13 : decode cX5_takesMoves 13 = .ok (.iconst 3, 1) := by decide +kernel
theorem dX5_takesMoves_14 : decode cX5_takesMoves 14 = .ok (.imul, 1) := by decide +kernel
theorem dX5_takesMoves_15 : decode cX5_takesMoves 15 = .ok (.istore_n 2, 1) := by decide +kernel
theorem dX5_takesMoves_16 : decode cX5_takesMoves 16 = .ok (.iinc 3 1, 3) := by decide +kernel
theorem dX5_takesMoves_19 : decode cX5_takesMoves 19 = .ok (.goto (-15), 3) := by decide +kernel
theorem dX5_takesMoves_22 : decode cX5_takesMoves 22 = .ok (.iload_n 1, 1) := by decide +kernel
theorem dX5_takesMoves_23 : decode cX5_takesMoves 23 = .ok (.ifCond .lt 12, 3) := by decide +kernel
theorem dX5_takesMoves_26 : decode cX5_takesMoves 26 = .ok (.iload_n 1, 1) := by decide +kernel
theorem dX5_takesMoves_27 : decode cX5_takesMoves 27 = .ok (.iload_n 2, 1) := by decide +kernel
theorem dX5_takesMoves_28 : decode cX5_takesMoves 28 = .ok (.if_icmp .ge 7, 3) := by decide +kernel
theorem dX5_takesMoves_31 : decode cX5_takesMoves 31 = .ok (.iconst 1, 1) := by decide +kernel
theorem dX5_takesMoves_32 : decode cX5_takesMoves 32 = .ok (.goto 4, 3) := by decide +kernel
theorem dX5_takesMoves_35 : decode cX5_takesMoves 35 = .ok (.iconst 0, 1) := by decide +kernel
theorem dX5_takesMoves_36 : decode cX5_takesMoves 36 = .ok (.ireturn, 1) := by decide +kernel
theorem dX5_addCard_0 : decode cX5_addCard 0 = .ok (.aload_n 0, 1) := by decide +kernel
theorem dX5_addCard_1 : decode cX5_addCard 1 = .ok (.getfield 31, 3) := by decide +kernel
theorem dX5_addCard_4 : decode cX5_addCard 4 = .ok (.bipush 8, 2) := by decide +kernel
theorem dX5_addCard_6 : decode cX5_addCard 6 = .ok (.if_icmp .ge 23, 3) := by decide +kernel
theorem dX5_addCard_9 : decode cX5_addCard 9 = .ok (.aload_n 0, 1) := by decide +kernel
theorem dX5_addCard_10 : decode cX5_addCard 10 = .ok (.getfield 15, 3) := by decide +kernel
theorem dX5_addCard_13 : decode cX5_addCard 13 = .ok (.aload_n 0, 1) := by decide +kernel
theorem dX5_addCard_14 : decode cX5_addCard 14 = .ok (.getfield 31, 3) := by decide +kernel
theorem dX5_addCard_17 : decode cX5_addCard 17 = .ok (.iload_n 1, 1) := by decide +kernel
theorem dX5_addCard_18 : decode cX5_addCard 18 = .ok (.iastore, 1) := by decide +kernel
theorem dX5_addCard_19 : decode cX5_addCard 19 = .ok (.aload_n 0, 1) := by decide +kernel
theorem dX5_addCard_20 : decode cX5_addCard 20 = .ok (.dup, 1) := by decide +kernel
theorem dX5_addCard_21 : decode cX5_addCard 21 = .ok (.getfield 31, 3) := by decide +kernel
theorem dX5_addCard_24 : decode cX5_addCard 24 = .ok (.iconst 1, 1) := by decide +kernel
theorem dX5_addCard_25 : decode cX5_addCard 25 = .ok (.iadd, 1) := by decide +kernel
theorem dX5_addCard_26 : decode cX5_addCard 26 = .ok (.putfield 31, 3) := by decide +kernel
theorem dX5_addCard_29 : decode cX5_addCard 29 = .ok (.return_, 1) := by decide +kernel
theorem dX5_addPack_0 : decode cX5_addPack 0 = .ok (.aload_n 0, 1) := by decide +kernel
theorem dX5_addPack_1 : decode cX5_addPack 1 = .ok (.getfield 34, 3) := by decide +kernel
theorem dX5_addPack_4 : decode cX5_addPack 4 = .ok (.iconst 4, 1) := by decide +kernel
theorem dX5_addPack_5 : decode cX5_addPack 5 = .ok (.if_icmp .lt 4, 3) := by decide +kernel
theorem dX5_addPack_8 : decode cX5_addPack 8 = .ok (.return_, 1) := by decide +kernel
theorem dX5_addPack_9 : decode cX5_addPack 9 = .ok (.iconst 0, 1) := by decide +kernel
theorem dX5_addPack_10 : decode cX5_addPack 10 = .ok (.istore_n 2, 1) := by decide +kernel
theorem dX5_addPack_11 : decode cX5_addPack 11 = .ok (.iload_n 2, 1) := by decide +kernel
theorem dX5_addPack_12 : decode cX5_addPack 12 = .ok (.aload_n 0, 1) := by decide +kernel
theorem dX5_addPack_13 : decode cX5_addPack 13 = .ok (.getfield 31, 3) := by decide +kernel
theorem dX5_addPack_16 : decode cX5_addPack 16 = .ok (.if_icmp .ge 28, 3) := by decide +kernel
theorem dX5_addPack_19 : decode cX5_addPack 19 = .ok (.iload_n 1, 1) := by decide +kernel
theorem dX5_addPack_20 : decode cX5_addPack 20 = .ok (.iload_n 2, 1) := by decide +kernel
theorem dX5_addPack_21 : decode cX5_addPack 21 = .ok (.ishr, 1) := by decide +kernel
theorem dX5_addPack_22 : decode cX5_addPack 22 = .ok (.iconst 1, 1) := by decide +kernel
theorem dX5_addPack_23 : decode cX5_addPack 23 = .ok (.iand, 1) := by decide +kernel
theorem dX5_addPack_24 : decode cX5_addPack 24 = .ok (.iconst 1, 1) := by decide +kernel
theorem dX5_addPack_25 : decode cX5_addPack 25 = .ok (.if_icmp .ne 13, 3) := by decide +kernel
theorem dX5_addPack_28 : decode cX5_addPack 28 = .ok (.aload_n 0, 1) := by decide +kernel
theorem dX5_addPack_29 : decode cX5_addPack 29 = .ok (.getfield 18, 3) := by decide +kernel
theorem dX5_addPack_32 : decode cX5_addPack 32 = .ok (.iload_n 2, 1) := by decide +kernel
theorem dX5_addPack_33 : decode cX5_addPack 33 = .ok (.aload_n 0, 1) := by decide +kernel
theorem dX5_addPack_34 : decode cX5_addPack 34 = .ok (.getfield 34, 3) := by decide +kernel
theorem dX5_addPack_37 : decode cX5_addPack 37 = .ok (.iastore, 1) := by decide +kernel
theorem dX5_addPack_38 : decode cX5_addPack 38 = .ok (.iinc 2 1, 3) := by decide +kernel
theorem dX5_addPack_41 : decode cX5_addPack 41 = .ok (.goto (-30), 3) := by decide +kernel
theorem dX5_addPack_44 : decode cX5_addPack 44 = .ok (.aload_n 0, 1) := by decide +kernel
theorem dX5_addPack_45 : decode cX5_addPack 45 = .ok (.getfield 21, 3) := by decide +kernel
theorem dX5_addPack_48 : decode cX5_addPack 48 = .ok (.aload_n 0, 1) := by decide +kernel
theorem dX5_addPack_49 : decode cX5_addPack 49 = .ok (.getfield 34, 3) := by decide +kernel
theorem dX5_addPack_52 : decode cX5_addPack 52 = .ok (.iload_n 1, 1) := by decide +kernel
theorem dX5_addPack_53 : decode cX5_addPack 53 = .ok (.iastore, 1) := by decide +kernel
theorem dX5_addPack_54 : decode cX5_addPack 54 = .ok (.aload_n 0, 1) := by decide +kernel
theorem dX5_addPack_55 : decode cX5_addPack 55 = .ok (.dup, 1) := by decide +kernel
theorem dX5_addPack_56 : decode cX5_addPack 56 = .ok (.getfield 37, 3) := by decide +kernel
theorem dX5_addPack_59 : decode cX5_addPack 59 = .ok (.iload_n 1, 1) := by decide +kernel
theorem dX5_addPack_60 : decode cX5_addPack 60 = .ok (.ior, 1) := by decide +kernel
theorem dX5_addPack_61 : decode cX5_addPack 61 = .ok (.putfield 37, 3) := by decide +kernel
theorem dX5_addPack_64 : decode cX5_addPack 64 = .ok (.aload_n 0, 1) := by decide +kernel
theorem dX5_addPack_65 : decode cX5_addPack 65 = .ok (.dup, 1) := by decide +kernel
theorem dX5_addPack_66 : decode cX5_addPack 66 = .ok (.getfield 34, 3) := by decide +kernel
theorem dX5_addPack_69 : decode cX5_addPack 69 = .ok (.iconst 1, 1) := by decide +kernel
theorem dX5_addPack_70 : decode cX5_addPack 70 = .ok (.iadd, 1) := by decide +kernel
theorem dX5_addPack_71 : decode cX5_addPack 71 = .ok (.putfield 34, 3) := by decide +kernel
theorem dX5_addPack_74 : decode cX5_addPack 74 = .ok (.return_, 1) := by decide +kernel
set_option maxRecDepth 20000 in
theorem ggX5_threadHole_X5_indexOf : GoodIn wsX5_threadHole wsX5_indexOf := goodIn_r _ [5] (by decide +kernel) (by decide +kernel)
set_option maxRecDepth 20000 in
theorem gX5_threadHole_X5_indexOf : GoodIn wsX5_threadHole (va_wsS RX5 46 yX5_indexOf wsX5_indexOf) := goodIn_app (goodIn_of _ (by decide +kernel)) ggX5_threadHole_X5_indexOf
theorem dX5_threadHole_0 : decode cX5_threadHole 0 = .ok (.aload_n 0, 1) := by decide +kernel
theorem dX5_threadHole_1 : decode cX5_threadHole 1 = .ok (.getfield 9, 3) := by decide +kernel
theorem dX5_threadHole_4 : decode cX5_threadHole 4 = .ok (.iload_n 1, 1) := by decide +kernel
theorem dX5_threadHole_5 : decode cX5_threadHole 5 = .ok (.iload_n 2, 1) := by decide +kernel
theorem dX5_threadHole_6 : decode cX5_threadHole 6 = .ok (.invokestatic 46, 3) := by decide +kernel
theorem dX5_threadHole_9 : decode cX5_threadHole 9 = .ok (.iload_n 3, 1) := by decide +kernel
theorem dX5_threadHole_10 : decode cX5_threadHole 10 = .ok (.iastore, 1) := by decide +kernel
theorem dX5_threadHole_11 : decode cX5_threadHole 11 = .ok (.return_, 1) := by decide +kernel
set_option maxRecDepth 20000 in
theorem ggX5_colourAt_X5_indexOf : GoodIn wsX5_colourAt wsX5_indexOf := goodIn_r _ [5] (by decide +kernel) (by decide +kernel)
set_option maxRecDepth 20000 in
theorem gX5_colourAt_X5_indexOf : GoodIn wsX5_colourAt (va_wsS RX5 46 yX5_indexOf wsX5_indexOf) := goodIn_app (goodIn_of _ (by decide +kernel)) ggX5_colourAt_X5_indexOf
theorem dX5_colourAt_0 : decode cX5_colourAt 0 = .ok (.aload_n 0, 1) := by decide +kernel
theorem dX5_colourAt_1 : decode cX5_colourAt 1 = .ok (.getfield 9, 3) := by decide +kernel
theorem dX5_colourAt_4 : decode cX5_colourAt 4 = .ok (.iload_n 1, 1) := by decide +kernel
theorem dX5_colourAt_5 : decode cX5_colourAt 5 = .ok (.iload_n 2, 1) := by decide +kernel
theorem dX5_colourAt_6 : decode cX5_colourAt 6 = .ok (.invokestatic 46, 3) := by decide +kernel
theorem dX5_colourAt_9 : decode cX5_colourAt 9 = .ok (.iaload, 1) := by decide +kernel
theorem dX5_colourAt_10 : decode cX5_colourAt 10 = .ok (.ireturn, 1) := by decide +kernel
theorem dX5_indexOf_0 : decode cX5_indexOf 0 = .ok (.iload_n 0, 1) := by decide +kernel
theorem dX5_indexOf_1 : decode cX5_indexOf 1 = .ok (.bipush 7, 2) := by decide +kernel
theorem dX5_indexOf_3 : decode cX5_indexOf 3 = .ok (.iand, 1) := by decide +kernel
theorem dX5_indexOf_4 : decode cX5_indexOf 4 = .ok (.iconst 4, 1) := by decide +kernel
theorem dX5_indexOf_5 : decode cX5_indexOf 5 = .ok (.imul, 1) := by decide +kernel
theorem dX5_indexOf_6 : decode cX5_indexOf 6 = .ok (.iload_n 1, 1) := by decide +kernel
theorem dX5_indexOf_7 : decode cX5_indexOf 7 = .ok (.iconst 3, 1) := by decide +kernel
theorem dX5_indexOf_8 : decode cX5_indexOf 8 = .ok (.iand, 1) := by decide +kernel
theorem dX5_indexOf_9 : decode cX5_indexOf 9 = .ok (.iadd, 1) := by decide +kernel
theorem dX5_indexOf_10 : decode cX5_indexOf 10 = .ok (.ireturn, 1) := by decide +kernel
theorem dX5_moveOf_0 : decode cX5_moveOf 0 = .ok (.aload_n 0, 1) := by decide +kernel
theorem dX5_moveOf_1 : decode cX5_moveOf 1 = .ok (.getfield 18, 3) := by decide +kernel
theorem dX5_moveOf_4 : decode cX5_moveOf 4 = .ok (.iload_n 1, 1) := by decide +kernel
theorem dX5_moveOf_5 : decode cX5_moveOf 5 = .ok (.bipush 7, 2) := by decide +kernel
theorem dX5_moveOf_7 : decode cX5_moveOf 7 = .ok (.iand, 1) := by decide +kernel
theorem dX5_moveOf_8 : decode cX5_moveOf 8 = .ok (.iaload, 1) := by decide +kernel
theorem dX5_moveOf_9 : decode cX5_moveOf 9 = .ok (.istore_n 3, 1) := by decide +kernel
theorem dX5_moveOf_10 : decode cX5_moveOf 10 = .ok (.iload_n 3, 1) := by decide +kernel
theorem dX5_moveOf_11 : decode cX5_moveOf 11 = .ok (.iconst (-1), 1) := by decide +kernel
theorem dX5_moveOf_12 : decode cX5_moveOf 12 = .ok (.if_icmp .ne 5, 3) := by decide +kernel
theorem dX5_moveOf_15 : decode cX5_moveOf 15 = .ok (.iconst 0, 1) := by decide +kernel
theorem dX5_moveOf_16 : decode cX5_moveOf 16 = .ok (.ireturn, 1) := by decide +kernel
theorem dX5_moveOf_17 : decode cX5_moveOf 17 = .ok (.iload_n 2, 1) := by decide +kernel
theorem dX5_moveOf_18 : decode cX5_moveOf 18 = .ok (.istore 4, 2) := by decide +kernel
theorem dX5_moveOf_20 : decode cX5_moveOf 20 = .ok (.iconst 0, 1) := by decide +kernel
theorem dX5_moveOf_21 : decode cX5_moveOf 21 = .ok (.istore 5, 2) := by decide +kernel
theorem dX5_moveOf_23 : decode cX5_moveOf 23 = .ok (.iload 5, 2) := by decide +kernel
theorem dX5_moveOf_25 : decode cX5_moveOf 25 = .ok (.iload_n 3, 1) := by decide +kernel
theorem dX5_moveOf_26 : decode cX5_moveOf 26 = .ok (.if_icmp .ge 15, 3) := by decide +kernel
theorem dX5_moveOf_29 : decode cX5_moveOf 29 = .ok (.iload 4, 2) := by decide +kernel
theorem dX5_moveOf_31 : decode cX5_moveOf 31 = .ok (.iconst 3, 1) := by decide +kernel
theorem dX5_moveOf_32 : decode cX5_moveOf 32 = .ok (.idiv, 1) := by decide +kernel
theorem dX5_moveOf_33 : decode cX5_moveOf 33 = .ok (.istore 4, 2) := by decide +kernel
theorem dX5_moveOf_35 : decode cX5_moveOf 35 = .ok (.iinc 5 1, 3) := by decide +kernel
theorem dX5_moveOf_38 : decode cX5_moveOf 38 = .ok (.goto (-15), 3) := by decide +kernel
theorem dX5_moveOf_41 : decode cX5_moveOf 41 = .ok (.iload 4, 2) := by decide +kernel
theorem dX5_moveOf_43 : decode cX5_moveOf 43 = .ok (.iconst 3, 1) := by decide +kernel
theorem dX5_moveOf_44 : decode cX5_moveOf 44 = .ok (.irem, 1) := by decide +kernel
theorem dX5_moveOf_45 : decode cX5_moveOf 45 = .ok (.ireturn, 1) := by decide +kernel
theorem dX5_isInPack_0 : decode cX5_isInPack 0 = .ok (.aload_n 0, 1) := by decide +kernel
theorem dX5_isInPack_1 : decode cX5_isInPack 1 = .ok (.getfield 18, 3) := by decide +kernel
theorem dX5_isInPack_4 : decode cX5_isInPack 4 = .ok (.iload_n 1, 1) := by decide +kernel
theorem dX5_isInPack_5 : decode cX5_isInPack 5 = .ok (.bipush 7, 2) := by decide +kernel
theorem dX5_isInPack_7 : decode cX5_isInPack 7 = .ok (.iand, 1) := by decide +kernel
theorem dX5_isInPack_8 : decode cX5_isInPack 8 = .ok (.iaload, 1) := by decide +kernel
theorem dX5_isInPack_9 : decode cX5_isInPack 9 = .ok (.iload_n 2, 1) := by decide +kernel
theorem dX5_isInPack_10 : decode cX5_isInPack 10 = .ok (.if_icmp .ne 7, 3) := by decide +kernel
theorem dX5_isInPack_13 : decode cX5_isInPack 13 = .ok (.iconst 1, 1) := by decide +kernel
theorem dX5_isInPack_14 : decode cX5_isInPack 14 = .ok (.goto 4, 3) := by decide +kernel
theorem dX5_isInPack_17 : decode cX5_isInPack 17 = .ok (.iconst 0, 1) := by decide +kernel
theorem dX5_isInPack_18 : decode cX5_isInPack 18 = .ok (.ireturn, 1) := by decide +kernel
set_option maxRecDepth 20000 in
theorem ggX5_isSameAfter_X5_colourAt : GoodIn wsX5_isSameAfter wsX5_colourAt := goodIn_r _ [6, 7, 8, 9, 5, 10, 11, 12, 13, 14, 15, 16, 17, 18, 19] (by decide +kernel) (by decide +kernel)
set_option maxRecDepth 20000 in
theorem gX5_isSameAfter_X5_colourAt : GoodIn wsX5_isSameAfter (wsV RX5 50 RX5 yX5_colourAt wsX5_colourAt) := goodIn_app (goodIn_of _ (by decide +kernel)) ggX5_isSameAfter_X5_colourAt
theorem dX5_isSameAfter_0 : decode cX5_isSameAfter 0 = .ok (.iconst 0, 1) := by decide +kernel
theorem dX5_isSameAfter_1 : decode cX5_isSameAfter 1 = .ok (.istore_n 2, 1) := by decide +kernel
theorem dX5_isSameAfter_2 : decode cX5_isSameAfter 2 = .ok (.iload_n 2, 1) := by decide +kernel
theorem dX5_isSameAfter_3 : decode cX5_isSameAfter 3 = .ok (.aload_n 0, 1) := by decide +kernel
theorem dX5_isSameAfter_4 : decode cX5_isSameAfter 4 = .ok (.getfield 31, 3) := by decide +kernel
theorem dX5_isSameAfter_7 : decode cX5_isSameAfter 7 = .ok (.if_icmp .ge 41, 3) := by decide +kernel
theorem dX5_isSameAfter_10 : decode cX5_isSameAfter 10 = .ok (.iconst 0, 1) := by decide +kernel
theorem dX5_isSameAfter_11 : decode cX5_isSameAfter 11 = .ok (.istore_n 3, 1) := by decide +kernel
theorem dX5_isSameAfter_12 : decode cX5_isSameAfter 12 = .ok (.iload_n 3, 1) := by decide +kernel
theorem dX5_isSameAfter_13 : decode cX5_isSameAfter 13 = .ok (.iconst 4, 1) := by decide +kernel
theorem dX5_isSameAfter_14 : decode cX5_isSameAfter 14 = .ok (.if_icmp .ge 28, 3) := by decide +kernel
theorem dX5_isSameAfter_17 : decode cX5_isSameAfter 17 = .ok (.aload_n 0, 1) := by decide +kernel
theorem dX5_isSameAfter_18 : decode cX5_isSameAfter 18 = .ok (.iload_n 2, 1) := by decide +kernel
theorem dX5_isSameAfter_19 : decode cX5_isSameAfter 19 = .ok (.iload_n 3, 1) := by decide +kernel
theorem dX5_isSameAfter_20 : decode cX5_isSameAfter 20 = .ok (.invokevirtual 50, 3) := by decide +kernel
theorem dX5_isSameAfter_23 : decode cX5_isSameAfter 23 = .ok (.aload_n 0, 1) := by decide +kernel
theorem dX5_isSameAfter_24 : decode cX5_isSameAfter 24 = .ok (.iload_n 2, 1) := by decide +kernel
theorem dX5_isSameAfter_25 : decode cX5_isSameAfter 25 = .ok (.iload_n 3, 1) := by decide +kernel
theorem dX5_isSameAfter_26 : decode cX5_isSameAfter 26 = .ok (.iload_n 1, 1) := by decide +kernel
theorem dX5_isSameAfter_27 : decode cX5_isSameAfter 27 = .ok (.iadd, 1) := by decide +kernel
theorem dX5_isSameAfter_28 : decode cX5_isSameAfter 28 = .ok (.invokevirtual 50, 3) := by decide +kernel
theorem dX5_isSameAfter_31 : decode cX5_isSameAfter 31 = .ok (.if_icmp .eq 5, 3) := by decide +kernel
theorem dX5_isSameAfter_34 : decode cX5_isSameAfter 34 = .ok (.iconst 0, 1) := by decide +kernel
theorem dX5_isSameAfter_35 : decode cX5_isSameAfter 35 = .ok (.ireturn, 1) := by decide +kernel
theorem dX5_isSameAfter_36 : decode cX5_isSameAfter 36 = .ok (.iinc 3 1, 3) := by decide +kernel
theorem dX5_isSameAfter_39 : decode cX5_isSameAfter 39 = .ok (.goto (-27), 3) := by decide +kernel
theorem dX5_isSameAfter_42 : decode cX5_isSameAfter 42 = .ok (.iinc 2 1, 3) := by decide +kernel
theorem dX5_isSameAfter_45 : decode cX5_isSameAfter 45 = .ok (.goto (-43), 3) := by decide +kernel
theorem dX5_isSameAfter_48 : decode cX5_isSameAfter 48 = .ok (.iconst 1, 1) := by decide +kernel
theorem dX5_isSameAfter_49 : decode cX5_isSameAfter 49 = .ok (.ireturn, 1) := by decide +kernel
theorem dX5_shareOf_0 : decode cX5_shareOf 0 = .ok (.aload_n 0, 1) := by decide +kernel
theorem dX5_shareOf_1 : decode cX5_shareOf 1 = .ok (.getfield 31, 3) := by decide +kernel
theorem dX5_shareOf_4 : decode cX5_shareOf 4 = .ok (.ifCond .ne 5, 3) := by decide +kernel
theorem dX5_shareOf_7 : decode cX5_shareOf 7 = .ok (.iconst 0, 1) := by decide +kernel
theorem dX5_shareOf_8 : decode cX5_shareOf 8 = .ok (.ireturn, 1) := by decide +kernel
theorem dX5_shareOf_9 : decode cX5_shareOf 9 = .ok (.iconst 0, 1) := by decide +kernel
theorem dX5_shareOf_10 : decode cX5_shareOf 10 = .ok (.istore_n 3, 1) := by decide +kernel
theorem dX5_shareOf_11 : decode cX5_shareOf 11 = .ok (.iconst 0, 1) := by decide +kernel
theorem dX5_shareOf_12 : decode cX5_shareOf 12 = .ok (.istore 4, 2) := by decide +kernel
theorem dX5_shareOf_14 : decode cX5_shareOf 14 = .ok (.iload 4, 2) := by decide +kernel
theorem dX5_shareOf_16 : decode cX5_shareOf 16 = .ok (.aload_n 0, 1) := by decide +kernel
theorem dX5_shareOf_17 : decode cX5_shareOf 17 = .ok (.getfield 31, 3) := by decide +kernel
theorem dX5_shareOf_20 : decode cX5_shareOf 20 = .ok (.iconst 4, 1) := by decide +kernel
theorem dX5_shareOf_21 : decode cX5_shareOf 21 = .ok (.imul, 1) := by decide +kernel
theorem dX5_shareOf_22 : decode cX5_shareOf 22 = .ok (.if_icmp .ge 23, 3) := by decide +kernel
theorem dX5_shareOf_25 : decode cX5_shareOf 25 = .ok (.aload_n 0, 1) := by decide +kernel
theorem dX5_shareOf_26 : decode cX5_shareOf 26 = .ok (.getfield 9, 3) := by decide +kernel
theorem dX5_shareOf_29 : decode cX5_shareOf 29 = .ok (.iload 4, 2) := by decide +kernel
theorem dX5_shareOf_31 : decode cX5_shareOf 31 = .ok (.iaload, 1) := by decide +kernel
theorem dX5_shareOf_32 : decode cX5_shareOf 32 = .ok (.iload_n 2, 1) := by decide +kernel
theorem dX5_shareOf_33 : decode cX5_shareOf 33 = .ok (.if_icmp .ne 6, 3) := by decide +kernel
theorem dX5_shareOf_36 : decode cX5_shareOf 36 = .ok (.iinc 3 1, 3) := by decide +kernel
theorem dX5_shareOf_39 : decode cX5_shareOf 39 = .ok (.iinc 4 1, 3) := by decide +kernel
theorem dX5_shareOf_42 : decode cX5_shareOf 42 = .ok (.goto (-28), 3) := by decide +kernel
theorem dX5_shareOf_45 : decode cX5_shareOf 45 = .ok (.iload_n 1, 1) := by decide +kernel
theorem dX5_shareOf_46 : decode cX5_shareOf 46 = .ok (.iload_n 3, 1) := by decide +kernel
theorem dX5_shareOf_47 : decode cX5_shareOf 47 = .ok (.imul, 1) := by decide +kernel
theorem dX5_shareOf_48 : decode cX5_shareOf 48 = .ok (.aload_n 0, 1) := by decide +kernel
theorem dX5_shareOf_49 : decode cX5_shareOf 49 = .ok (.getfield 31, 3) := by decide +kernel
theorem dX5_shareOf_52 : decode cX5_shareOf 52 = .ok (.iconst 4, 1) := by decide +kernel
theorem dX5_shareOf_53 : decode cX5_shareOf 53 = .ok (.imul, 1) := by decide +kernel
theorem dX5_shareOf_54 : decode cX5_shareOf 54 = .ok (.idiv, 1) := by decide +kernel
theorem dX5_shareOf_55 : decode cX5_shareOf 55 = .ok (.ireturn, 1) := by decide +kernel
set_option maxRecDepth 20000 in
theorem ggX5_countLeftOver_X5_shareOf : GoodIn wsX5_countLeftOver wsX5_shareOf := goodIn_r _ [6, 7, 8, 9, 10, 11, 12, 13, 14, 15, 16, 17] (by decide +kernel) (by decide +kernel)
set_option maxRecDepth 20000 in
theorem gX5_countLeftOver_X5_shareOf : GoodIn wsX5_countLeftOver (wsV RX5 53 RX5 yX5_shareOf wsX5_shareOf) := goodIn_app (goodIn_of _ (by decide +kernel)) ggX5_countLeftOver_X5_shareOf
theorem dX5_countLeftOver_0 : decode cX5_countLeftOver 0 = .ok (.iload_n 1, 1) := by decide +kernel
theorem dX5_countLeftOver_1 : decode cX5_countLeftOver 1 = .ok (.istore_n 2, 1) := by decide +kernel
theorem dX5_countLeftOver_2 : decode cX5_countLeftOver 2 = .ok (.iconst 0, 1) := by decide +kernel
theorem dX5_countLeftOver_3 : decode cX5_countLeftOver 3 = .ok (.istore_n 3, 1) := by decide +kernel
theorem dX5_countLeftOver_4 : decode cX5_countLeftOver 4 = .ok (.iload_n 3, 1) := by decide +kernel
theorem dX5_countLeftOver_5 : decode cX5_countLeftOver 5 = .ok (.aload_n 0, 1) := by decide +kernel
theorem dX5_countLeftOver_6 : decode cX5_countLeftOver 6 = .ok (.getfield 27, 3) := by decide +kernel
theorem dX5_countLeftOver_9 : decode cX5_countLeftOver 9 = .ok (.if_icmp .ge 18, 3) := by decide +kernel
theorem dX5_countLeftOver_12 : decode cX5_countLeftOver 12 = .ok (.iload_n 2, 1) := by decide +kernel
theorem dX5_countLeftOver_13 : decode cX5_countLeftOver 13 = .ok (.aload_n 0, 1) := by decide +kernel
theorem dX5_countLeftOver_14 : decode cX5_countLeftOver 14 = .ok (.iload_n 1, 1) := by decide +kernel
theorem dX5_countLeftOver_15 : decode cX5_countLeftOver 15 = .ok (.iload_n 3, 1) := by decide +kernel
theorem dX5_countLeftOver_16 : decode cX5_countLeftOver 16 = .ok (.invokevirtual 53, 3) := by decide +kernel
theorem dX5_countLeftOver_19 : decode cX5_countLeftOver 19 = .ok (.isub, 1) := by decide +kernel
theorem dX5_countLeftOver_20 : decode cX5_countLeftOver 20 = .ok (.istore_n 2, 1) := by decide +kernel
theorem dX5_countLeftOver_21 : decode cX5_countLeftOver 21 = .ok (.iinc 3 1, 3) := by decide +kernel
theorem dX5_countLeftOver_24 : decode cX5_countLeftOver 24 = .ok (.goto (-20), 3) := by decide +kernel
theorem dX5_countLeftOver_27 : decode cX5_countLeftOver 27 = .ok (.iload_n 2, 1) := by decide +kernel
theorem dX5_countLeftOver_28 : decode cX5_countLeftOver 28 = .ok (.ireturn, 1) := by decide +kernel
set_option maxRecDepth 20000 in
theorem ggX6_firstCardOf_X5_isInPack : GoodIn wsX6_firstCardOf wsX5_isInPack := goodIn_r _ [6, 7, 8, 9, 10, 11, 12, 13, 14, 15, 16] (by decide +kernel) (by decide +kernel)
set_option maxRecDepth 20000 in
theorem gX6_firstCardOf_X5_isInPack : GoodIn wsX6_firstCardOf (wsV RX6 15 RX5 yX5_isInPack wsX5_isInPack) := goodIn_app (goodIn_of _ (by decide +kernel)) ggX6_firstCardOf_X5_isInPack
theorem dX6_firstCardOf_0 : decode cX6_firstCardOf 0 = .ok (.iconst 0, 1) := by decide +kernel
theorem dX6_firstCardOf_1 : decode cX6_firstCardOf 1 = .ok (.istore_n 2, 1) := by decide +kernel
theorem dX6_firstCardOf_2 : decode cX6_firstCardOf 2 = .ok (.iload_n 2, 1) := by decide +kernel
theorem dX6_firstCardOf_3 : decode cX6_firstCardOf 3 = .ok (.aload_n 0, 1) := by decide +kernel
theorem dX6_firstCardOf_4 : decode cX6_firstCardOf 4 = .ok (.getfield 9, 3) := by decide +kernel
theorem dX6_firstCardOf_7 : decode cX6_firstCardOf 7 = .ok (.if_icmp .ge 20, 3) := by decide +kernel
theorem dX6_firstCardOf_10 : decode cX6_firstCardOf 10 = .ok (.aload_n 0, 1) := by decide +kernel
theorem dX6_firstCardOf_11 : decode cX6_firstCardOf 11 = .ok (.iload_n 2, 1) := by decide +kernel
theorem dX6_firstCardOf_12 : decode cX6_firstCardOf 12 = .ok (.iload_n 1, 1) := by decide +kernel
theorem dX6_firstCardOf_13 : decode cX6_firstCardOf 13 = .ok (.invokevirtual 15, 3) := by decide +kernel
theorem dX6_firstCardOf_16 : decode cX6_firstCardOf 16 = .ok (.ifCond .eq 5, 3) := by decide +kernel
theorem dX6_firstCardOf_19 : decode cX6_firstCardOf 19 = .ok (.iload_n 2, 1) := by decide +kernel
theorem dX6_firstCardOf_20 : decode cX6_firstCardOf 20 = .ok (.ireturn, 1) := by decide +kernel
theorem dX6_firstCardOf_21 : decode cX6_firstCardOf 21 = .ok (.iinc 2 1, 3) := by decide +kernel
theorem dX6_firstCardOf_24 : decode cX6_firstCardOf 24 = .ok (.goto (-22), 3) := by decide +kernel
theorem dX6_firstCardOf_27 : decode cX6_firstCardOf 27 = .ok (.iconst 0, 1) := by decide +kernel
theorem dX6_firstCardOf_28 : decode cX6_firstCardOf 28 = .ok (.ireturn, 1) := by decide +kernel
set_option maxRecDepth 20000 in
theorem ggX6_twistOf_X6_firstCardOf : GoodIn wsX6_twistOf wsX6_firstCardOf := goodIn_r _ [5, 6, 7, 8, 9, 10, 11, 12, 22, 23, 24, 25, 26, 27, 28, 29, 30] (by decide +kernel) (by decide +kernel)
set_option maxRecDepth 20000 in
theorem gX6_twistOf_X6_firstCardOf : GoodIn wsX6_twistOf (va_wsS RX6 25 yX6_firstCardOf wsX6_firstCardOf) := goodIn_app (goodIn_of _ (by decide +kernel)) ggX6_twistOf_X6_firstCardOf
theorem dX6_twistOf_0 : decode cX6_twistOf 0 = .ok (.aload_n 0, 1) := by decide +kernel
theorem dX6_twistOf_1 : decode cX6_twistOf 1 = .ok (.getfield 19, 3) := by decide +kernel
theorem dX6_twistOf_4 : decode cX6_twistOf 4 = .ok (.aload_n 1, 1) := by decide +kernel
theorem dX6_twistOf_5 : decode cX6_twistOf 5 = .ok (.iload_n 2, 1) := by decide +kernel
theorem dX6_twistOf_6 : decode cX6_twistOf 6 = .ok (.invokestatic 25, 3) := by decide +kernel
theorem dX6_twistOf_9 : decode cX6_twistOf 9 = .ok (.bipush 7, 2) := by decide +kernel
theorem dX6_twistOf_11 : decode cX6_twistOf 11 = .ok (.iand, 1) := by decide +kernel
theorem dX6_twistOf_12 : decode cX6_twistOf 12 = .ok (.iaload, 1) := by decide +kernel
theorem dX6_twistOf_13 : decode cX6_twistOf 13 = .ok (.ireturn, 1) := by decide +kernel
set_option maxRecDepth 20000 in
theorem ggX6_standOf_X6_firstCardOf : GoodIn wsX6_standOf wsX6_firstCardOf := goodIn_r _ [5, 6, 7, 8, 9, 10, 11, 12, 22, 23, 24, 25, 26, 27, 28, 29, 30] (by decide +kernel) (by decide +kernel)
set_option maxRecDepth 20000 in
theorem gX6_standOf_X6_firstCardOf : GoodIn wsX6_standOf (va_wsS RX6 25 yX6_firstCardOf wsX6_firstCardOf) := goodIn_app (goodIn_of _ (by decide +kernel)) ggX6_standOf_X6_firstCardOf
theorem dX6_standOf_0 : decode cX6_standOf 0 = .ok (.aload_n 0, 1) := by decide +kernel
theorem dX6_standOf_1 : decode cX6_standOf 1 = .ok (.getfield 31, 3) := by decide +kernel
theorem dX6_standOf_4 : decode cX6_standOf 4 = .ok (.aload_n 1, 1) := by decide +kernel
theorem dX6_standOf_5 : decode cX6_standOf 5 = .ok (.iload_n 2, 1) := by decide +kernel
theorem dX6_standOf_6 : decode cX6_standOf 6 = .ok (.invokestatic 25, 3) := by decide +kernel
theorem dX6_standOf_9 : decode cX6_standOf 9 = .ok (.bipush 7, 2) := by decide +kernel
theorem dX6_standOf_11 : decode cX6_standOf 11 = .ok (.iand, 1) := by decide +kernel
theorem dX6_standOf_12 : decode cX6_standOf 12 = .ok (.iaload, 1) := by decide +kernel
theorem dX6_standOf_13 : decode cX6_standOf 13 = .ok (.ireturn, 1) := by decide +kernel
set_option maxRecDepth 20000 in
theorem ggX6_countUntwist_X6_twistOf : GoodIn wsX6_countUntwist wsX6_twistOf := goodIn_r _ [12, 13, 14, 15, 11, 16, 17, 18, 19, 20, 21, 22, 23, 33, 34, 35, 36, 37, 38, 39, 40, 41, 24, 25, 26, 27, 28, 29, 30, 31, 32] (by decide +kernel) (by decide +kernel)
set_option maxRecDepth 20000 in
theorem gX6_countUntwist_X6_twistOf : GoodIn wsX6_countUntwist (va_wsS RX6 37 yX6_twistOf wsX6_twistOf) := goodIn_app (goodIn_of _ (by decide +kernel)) ggX6_countUntwist_X6_twistOf
theorem dX6_countUntwist_0 : decode cX6_countUntwist 0 = .ok (.iconst 0, 1) := by decide +kernel
theorem dX6_countUntwist_1 : decode cX6_countUntwist 1 = .ok (.istore_n 2, 1) := by decide +kernel
theorem dX6_countUntwist_2 : decode cX6_countUntwist 2 = .ok (.iconst 0, 1) := by decide +kernel
theorem dX6_countUntwist_3 : decode cX6_countUntwist 3 = .ok (.istore_n 3, 1) := by decide +kernel
theorem dX6_countUntwist_4 : decode cX6_countUntwist 4 = .ok (.iload_n 3, 1) := by decide +kernel
theorem dX6_countUntwist_5 : decode cX6_countUntwist 5 = .ok (.aload_n 1, 1) := by decide +kernel
theorem dX6_countUntwist_6 : decode cX6_countUntwist 6 = .ok (.getfield 34, 3) := by decide +kernel
theorem dX6_countUntwist_9 : decode cX6_countUntwist 9 = .ok (.if_icmp .ge 23, 3) := by decide +kernel
theorem dX6_countUntwist_12 : decode cX6_countUntwist 12 = .ok (.iload_n 2, 1) := by decide +kernel
theorem dX6_countUntwist_13 : decode cX6_countUntwist 13 = .ok (.aload_n 0, 1) := by decide +kernel
theorem dX6_countUntwist_14 : decode cX6_countUntwist 14 = .ok (.aload_n 1, 1) := by decide +kernel
theorem dX6_countUntwist_15 : decode cX6_countUntwist 15 = .ok (.iload_n 3, 1) := by decide +kernel
theorem dX6_countUntwist_16 : decode cX6_countUntwist 16 = .ok (.invokestatic 37, 3) := by decide +kernel
theorem dX6_countUntwist_19 : decode cX6_countUntwist 19 = .ok (.invokestatic 41, 3) := by decide +kernel
theorem dX6_countUntwist_22 : decode cX6_countUntwist 22 = .ok (.invokestatic 47, 3) := by decide +kernel
theorem dX6_countUntwist_25 : decode cX6_countUntwist 25 = .ok (.istore_n 2, 1) := by decide +kernel
theorem dX6_countUntwist_26 : decode cX6_countUntwist 26 = .ok (.iinc 3 1, 3) := by decide +kernel
theorem dX6_countUntwist_29 : decode cX6_countUntwist 29 = .ok (.goto (-25), 3) := by decide +kernel
theorem dX6_countUntwist_32 : decode cX6_countUntwist 32 = .ok (.iload_n 2, 1) := by decide +kernel
theorem dX6_countUntwist_33 : decode cX6_countUntwist 33 = .ok (.ireturn, 1) := by decide +kernel
set_option maxRecDepth 20000 in
theorem ggX6_firstUntwist_X6_twistOf : GoodIn wsX6_firstUntwist wsX6_twistOf := goodIn_r _ [5, 6, 7, 8, 4, 9, 10, 11, 12, 13, 14, 15, 16, 26, 27, 28, 29, 30, 31, 32, 33, 34, 17, 18, 19, 20, 21, 22, 23, 24, 25] (by decide +kernel) (by decide +kernel)
set_option maxRecDepth 20000 in
theorem gX6_firstUntwist_X6_twistOf : GoodIn wsX6_firstUntwist (va_wsS RX6 37 yX6_twistOf wsX6_twistOf) := goodIn_app (goodIn_of _ (by decide +kernel)) ggX6_firstUntwist_X6_twistOf
theorem dX6_firstUntwist_0 : decode cX6_firstUntwist 0 = .ok (.iconst 0, 1) := by decide +kernel
theorem dX6_firstUntwist_1 : decode cX6_firstUntwist 1 = .ok (.istore_n 2, 1) := by decide +kernel
theorem dX6_firstUntwist_2 : decode cX6_firstUntwist 2 = .ok (.aload_n 1, 1) := by decide +kernel
theorem dX6_firstUntwist_3 : decode cX6_firstUntwist 3 = .ok (.getfield 34, 3) := by decide +kernel
theorem dX6_firstUntwist_6 : decode cX6_firstUntwist 6 = .ok (.iconst 1, 1) := by decide +kernel
theorem dX6_firstUntwist_7 : decode cX6_firstUntwist 7 = .ok (.isub, 1) := by decide +kernel
theorem dX6_firstUntwist_8 : decode cX6_firstUntwist 8 = .ok (.istore_n 3, 1) := by decide +kernel
theorem dX6_firstUntwist_9 : decode cX6_firstUntwist 9 = .ok (.iload_n 3, 1) := by decide +kernel
theorem dX6_firstUntwist_10 : decode cX6_firstUntwist 10 = .ok (.ifCond .lt 45, 3) := by decide +kernel
theorem dX6_firstUntwist_13 : decode cX6_firstUntwist 13 = .ok (.aload_n 0, 1) := by decide +kernel
theorem dX6_firstUntwist_14 : decode cX6_firstUntwist 14 = .ok (.aload_n 1, 1) := by decide +kernel
theorem dX6_firstUntwist_15 : decode cX6_firstUntwist 15 = .ok (.iload_n 3, 1) := by decide +kernel
theorem dX6_firstUntwist_16 : decode cX6_firstUntwist 16 = .ok (.invokestatic 37, 3) := by decide +kernel
theorem dX6_firstUntwist_19 : decode cX6_firstUntwist 19 = .ok (.istore 4, 2) := by decide +kernel
theorem dX6_firstUntwist_21 : decode cX6_firstUntwist 21 = .ok (.iload 4, 2) := by decide +kernel
theorem dX6_firstUntwist_23 : decode cX6_firstUntwist 23 = .ok (.ifCond .ne 7, 3) := by decide +kernel
theorem dX6_firstUntwist_26 : decode cX6_firstUntwist 26 = .ok (.iconst 0, 1) := by decide +kernel
theorem dX6_firstUntwist_27 : decode cX6_firstUntwist 27 = .ok (.goto 13, 3) := by decide +kernel
theorem dX6_firstUntwist_30 : decode cX6_firstUntwist 30 = .ok (.iload 4, 2) := by decide +kernel
theorem dX6_firstUntwist_32 : decode cX6_firstUntwist 32 = .ok (.ifCond .le 7, 3) := by decide +kernel
theorem dX6_firstUntwist_35 : decode cX6_firstUntwist 35 = .ok (.iconst 2, 1) := by decide +kernel
theorem dX6_firstUntwist_36 : decode cX6_firstUntwist 36 = .ok (.goto 4, 3) := by decide +kernel
theorem dX6_firstUntwist_39 : decode cX6_firstUntwist 39 = .ok (.iconst 1, 1) := by decide +kernel
theorem dX6_firstUntwist_40 : decode cX6_firstUntwist 40 = .ok (.istore 5, 2) := by decide +kernel
theorem dX6_firstUntwist_42 : decode cX6_firstUntwist 42 = .ok (.iload_n 2, 1) := by decide +kernel
theorem dX6_firstUntwist_43 : decode cX6_firstUntwist 43 = .ok (.iconst 3, 1) := by decide +kernel
theorem dX6_firstUntwist_44 : decode cX6_firstUntwist 44 = .ok (.imul, 1) := by decide +kernel
theorem dX6_firstUntwist_45 : decode cX6_firstUntwist 45 = .ok (.iload 5, 2) := by decide +kernel
theorem dX6_firstUntwist_47 : decode cX6_firstUntwist 47 = .ok (.iadd, 1) := by decide +kernel
theorem dX6_firstUntwist_48 : decode cX6_firstUntwist 48 = .ok (.istore_n 2, 1) := by decide +kernel
theorem dX6_firstUntwist_49 : decode cX6_firstUntwist 49 = .ok (.iinc 3 (-1), 3) := by decide +kernel
theorem dX6_firstUntwist_52 : decode cX6_firstUntwist 52 = .ok (.goto (-43), 3) := by decide +kernel
theorem dX6_firstUntwist_55 : decode cX6_firstUntwist 55 = .ok (.iload_n 2, 1) := by decide +kernel
theorem dX6_firstUntwist_56 : decode cX6_firstUntwist 56 = .ok (.ireturn, 1) := by decide +kernel
set_option maxRecDepth 20000 in
theorem ggX6_packsStandAlike_X6_standOf : GoodIn wsX6_packsStandAlike wsX6_standOf := goodIn_r _ [7, 3, 8, 9, 6, 10, 1, 11, 12, 13, 14, 15, 16, 26, 27, 28, 29, 30, 31, 32, 33, 34, 17, 18, 19, 20, 21, 22, 23, 24, 25] (by decide +kernel) (by decide +kernel)
set_option maxRecDepth 20000 in
theorem gX6_packsStandAlike_X6_standOf : GoodIn wsX6_packsStandAlike (va_wsS RX6 54 yX6_standOf wsX6_standOf) := goodIn_app (goodIn_of _ (by decide +kernel)) ggX6_packsStandAlike_X6_standOf
theorem dX6_packsStandAlike_0 : decode cX6_packsStandAlike 0 = .ok (.iconst 0, 1) := by decide +kernel
theorem dX6_packsStandAlike_1 : decode cX6_packsStandAlike 1 = .ok (.istore_n 2, 1) := by decide +kernel
theorem dX6_packsStandAlike_2 : decode cX6_packsStandAlike 2 = .ok (.iload_n 2, 1) := by decide +kernel
theorem dX6_packsStandAlike_3 : decode cX6_packsStandAlike 3 = .ok (.aload_n 1, 1) := by decide +kernel
theorem dX6_packsStandAlike_4 : decode cX6_packsStandAlike 4 = .ok (.getfield 9, 3) := by decide +kernel
theorem dX6_packsStandAlike_7 : decode cX6_packsStandAlike 7 = .ok (.if_icmp .ge 44, 3) := by decide +kernel
theorem dX6_packsStandAlike_10 : decode cX6_packsStandAlike 10 = .ok (.iload_n 2, 1) := by decide +kernel
theorem dX6_packsStandAlike_11 : decode cX6_packsStandAlike 11 = .ok (.bipush 8, 2) := by decide +kernel
theorem dX6_packsStandAlike_13 : decode cX6_packsStandAlike 13 = .ok (.if_icmp .ge 38, 3) := by decide +kernel
theorem dX6_packsStandAlike_16 : decode cX6_packsStandAlike 16 = .ok (.aload_n 1, 1) := by decide +kernel
theorem dX6_packsStandAlike_17 : decode cX6_packsStandAlike 17 = .ok (.getfield 51, 3) := by decide +kernel
theorem dX6_packsStandAlike_20 : decode cX6_packsStandAlike 20 = .ok (.iload_n 2, 1) := by decide +kernel
theorem dX6_packsStandAlike_21 : decode cX6_packsStandAlike 21 = .ok (.iaload, 1) := by decide +kernel
theorem dX6_packsStandAlike_22 : decode cX6_packsStandAlike 22 = .ok (.istore_n 3, 1) := by decide +kernel
theorem dX6_packsStandAlike_23 : decode cX6_packsStandAlike 23 = .ok (.iload_n 3, 1) := by decide +kernel
theorem dX6_packsStandAlike_24 : decode cX6_packsStandAlike 24 = .ok (.iconst (-1), 1) := by decide +kernel
theorem dX6_packsStandAlike_25 : decode cX6_packsStandAlike 25 = .ok (.if_icmp .eq 20, 3) := by decide +kernel
theorem dX6_packsStandAlike_28 : decode cX6_packsStandAlike 28 = .ok (.aload_n 0, 1) := by decide +kernel
theorem dX6_packsStandAlike_29 : decode cX6_packsStandAlike 29 = .ok (.getfield 31, 3) := by decide +kernel
theorem dX6_packsStandAlike_32 : decode cX6_packsStandAlike 32 = .ok (.iload_n 2, 1) := by decide +kernel
theorem dX6_packsStandAlike_33 : decode cX6_packsStandAlike 33 = .ok (.iaload, 1) := by decide +kernel
theorem dX6_packsStandAlike_34 : decode cX6_packsStandAlike 34 = .ok (.aload_n 0, 1) := by decide +kernel
theorem dX6_packsStandAlike_35 : decode cX6_packsStandAlike 35 = .ok (.aload_n 1, 1) := by decide +kernel
theorem dX6_packsStandAlike_36 : decode cX6_packsStandAlike 36 = .ok (.iload_n 3, 1) := by decide +kernel
theorem dX6_packsStandAlike_37 : decode cX6_packsStandAlike 37 = .ok (.invokestatic 54, 3) := by decide +kernel
theorem dX6_packsStandAlike_40 : decode cX6_packsStandAlike 40 = .ok (.if_icmp .eq 5, 3) := by decide +kernel
theorem dX6_packsStandAlike_43 : decode cX6_packsStandAlike 43 = .ok (.iconst 0, 1) := by decide +kernel
theorem dX6_packsStandAlike_44 : decode cX6_packsStandAlike 44 = .ok (.ireturn, 1) := by decide +kernel
theorem dX6_packsStandAlike_45 : decode cX6_packsStandAlike 45 = .ok (.iinc 2 1, 3) := by decide +kernel
theorem dX6_packsStandAlike_48 : decode cX6_packsStandAlike 48 = .ok (.goto (-46), 3) := by decide +kernel
theorem dX6_packsStandAlike_51 : decode cX6_packsStandAlike 51 = .ok (.iconst 1, 1) := by decide +kernel
theorem dX6_packsStandAlike_52 : decode cX6_packsStandAlike 52 = .ok (.ireturn, 1) := by decide +kernel
set_option maxRecDepth 20000 in
theorem ggX6_countHome_X6_standOf : GoodIn wsX6_countHome wsX6_standOf := goodIn_r _ [12, 13, 14, 15, 11, 16, 17, 18, 19, 20, 21, 22, 23, 33, 34, 35, 36, 37, 38, 39, 40, 41, 24, 25, 26, 27, 28, 29, 30, 31, 32] (by decide +kernel) (by decide +kernel)
set_option maxRecDepth 20000 in
theorem gX6_countHome_X6_standOf : GoodIn wsX6_countHome (va_wsS RX6 54 yX6_standOf wsX6_standOf) := goodIn_app (goodIn_of _ (by decide +kernel)) ggX6_countHome_X6_standOf
theorem dX6_countHome_0 : decode cX6_countHome 0 = .ok (.iconst 0, 1) := by decide +kernel
theorem dX6_countHome_1 : decode cX6_countHome 1 = .ok (.istore_n 2, 1) := by decide +kernel
theorem dX6_countHome_2 : decode cX6_countHome 2 = .ok (.iconst 0, 1) := by decide +kernel
theorem dX6_countHome_3 : decode cX6_countHome 3 = .ok (.istore_n 3, 1) := by decide +kernel
theorem dX6_countHome_4 : decode cX6_countHome 4 = .ok (.iload_n 3, 1) := by decide +kernel
theorem dX6_countHome_5 : decode cX6_countHome 5 = .ok (.aload_n 1, 1) := by decide +kernel
theorem dX6_countHome_6 : decode cX6_countHome 6 = .ok (.getfield 34, 3) := by decide +kernel
theorem dX6_countHome_9 : decode cX6_countHome 9 = .ok (.if_icmp .ge 31, 3) := by decide +kernel
theorem dX6_countHome_12 : decode cX6_countHome 12 = .ok (.aload_n 0, 1) := by decide +kernel
theorem dX6_countHome_13 : decode cX6_countHome 13 = .ok (.aload_n 1, 1) := by decide +kernel
theorem dX6_countHome_14 : decode cX6_countHome 14 = .ok (.iload_n 3, 1) := by decide +kernel
theorem dX6_countHome_15 : decode cX6_countHome 15 = .ok (.invokestatic 54, 3) := by decide +kernel
theorem dX6_countHome_18 : decode cX6_countHome 18 = .ok (.istore 4, 2) := by decide +kernel
theorem dX6_countHome_20 : decode cX6_countHome 20 = .ok (.iload_n 2, 1) := by decide +kernel
theorem dX6_countHome_21 : decode cX6_countHome 21 = .ok (.iload 4, 2) := by decide +kernel
theorem dX6_countHome_23 : decode cX6_countHome 23 = .ok (.iconst 4, 1) := by decide +kernel
theorem dX6_countHome_24 : decode cX6_countHome 24 = .ok (.iload 4, 2) := by decide +kernel
theorem dX6_countHome_26 : decode cX6_countHome 26 = .ok (.isub, 1) := by decide +kernel
theorem dX6_countHome_27 : decode cX6_countHome 27 = .ok (.invokestatic 57, 3) := by decide +kernel
theorem dX6_countHome_30 : decode cX6_countHome 30 = .ok (.invokestatic 47, 3) := by decide +kernel
theorem dX6_countHome_33 : decode cX6_countHome 33 = .ok (.istore_n 2, 1) := by decide +kernel
theorem dX6_countHome_34 : decode cX6_countHome 34 = .ok (.iinc 3 1, 3) := by decide +kernel
theorem dX6_countHome_37 : decode cX6_countHome 37 = .ok (.goto (-33), 3) := by decide +kernel
theorem dX6_countHome_40 : decode cX6_countHome 40 = .ok (.iload_n 2, 1) := by decide +kernel
theorem dX6_countHome_41 : decode cX6_countHome 41 = .ok (.ireturn, 1) := by decide +kernel
set_option maxRecDepth 20000 in
theorem ggX6_firstHome_X6_standOf : GoodIn wsX6_firstHome wsX6_standOf := goodIn_r _ [5, 6, 7, 8, 4, 9, 10, 11, 12, 13, 14, 15, 16, 26, 27, 28, 29, 30, 31, 32, 33, 34, 17, 18, 19, 20, 21, 22, 23, 24, 25] (by decide +kernel) (by decide +kernel)
set_option maxRecDepth 20000 in
theorem gX6_firstHome_X6_standOf : GoodIn wsX6_firstHome (va_wsS RX6 54 yX6_standOf wsX6_standOf) := goodIn_app (goodIn_of _ (by decide +kernel)) ggX6_firstHome_X6_standOf
theorem dX6_firstHome_0 : decode cX6_firstHome 0 = .ok (.iconst 0, 1) := by decide +kernel
theorem dX6_firstHome_1 : decode cX6_firstHome 1 = .ok (.istore_n 2, 1) := by decide +kernel
theorem dX6_firstHome_2 : decode cX6_firstHome 2 = .ok (.aload_n 1, 1) := by decide +kernel
theorem dX6_firstHome_3 : decode cX6_firstHome 3 = .ok (.getfield 34, 3) := by decide +kernel
theorem dX6_firstHome_6 : decode cX6_firstHome 6 = .ok (.iconst 1, 1) := by decide +kernel
theorem dX6_firstHome_7 : decode cX6_firstHome 7 = .ok (.isub, 1) := by decide +kernel
theorem dX6_firstHome_8 : decode cX6_firstHome 8 = .ok (.istore_n 3, 1) := by decide +kernel
theorem dX6_firstHome_9 : decode cX6_firstHome 9 = .ok (.iload_n 3, 1) := by decide +kernel
theorem dX6_firstHome_10 : decode cX6_firstHome 10 = .ok (.ifCond .lt 46, 3) := by decide +kernel
theorem dX6_firstHome_13 : decode cX6_firstHome 13 = .ok (.aload_n 0, 1) := by decide +kernel
theorem dX6_firstHome_14 : decode cX6_firstHome 14 = .ok (.aload_n 1, 1) := by decide +kernel
theorem dX6_firstHome_15 : decode cX6_firstHome 15 = .ok (.iload_n 3, 1) := by decide +kernel
theorem dX6_firstHome_16 : decode cX6_firstHome 16 = .ok (.invokestatic 54, 3) := by decide +kernel
theorem dX6_firstHome_19 : decode cX6_firstHome 19 = .ok (.istore 4, 2) := by decide +kernel
theorem dX6_firstHome_21 : decode cX6_firstHome 21 = .ok (.iload 4, 2) := by decide +kernel
theorem dX6_firstHome_23 : decode cX6_firstHome 23 = .ok (.ifCond .ne 7, 3) := by decide +kernel
theorem dX6_firstHome_26 : decode cX6_firstHome 26 = .ok (.iconst 0, 1) := by decide +kernel
theorem dX6_firstHome_27 : decode cX6_firstHome 27 = .ok (.goto 14, 3) := by decide +kernel
theorem dX6_firstHome_30 : decode cX6_firstHome 30 = .ok (.iload 4, 2) := by decide +kernel
theorem dX6_firstHome_32 : decode cX6_firstHome 32 = .ok (.iconst 1, 1) := by decide +kernel
theorem dX6_firstHome_33 : decode cX6_firstHome 33 = .ok (.if_icmp .ne 7, 3) := by decide +kernel
theorem dX6_firstHome_36 : decode cX6_firstHome 36 = .ok (.iconst 2, 1) := by decide +kernel
theorem dX6_firstHome_37 : decode cX6_firstHome 37 = .ok (.goto 4, 3) := by decide +kernel
theorem dX6_firstHome_40 : decode cX6_firstHome 40 = .ok (.iconst 1, 1) := by decide +kernel
theorem dX6_firstHome_41 : decode cX6_firstHome 41 = .ok (.istore 5, 2) := by decide +kernel
theorem dX6_firstHome_43 : decode cX6_firstHome 43 = .ok (.iload_n 2, 1) := by decide +kernel
theorem dX6_firstHome_44 : decode cX6_firstHome 44 = .ok (.iconst 3, 1) := by decide +kernel
theorem dX6_firstHome_45 : decode cX6_firstHome 45 = .ok (.imul, 1) := by decide +kernel
theorem dX6_firstHome_46 : decode cX6_firstHome 46 = .ok (.iload 5, 2) := by decide +kernel
theorem dX6_firstHome_48 : decode cX6_firstHome 48 = .ok (.iadd, 1) := by decide +kernel
theorem dX6_firstHome_49 : decode cX6_firstHome 49 = .ok (.istore_n 2, 1) := by decide +kernel
theorem dX6_firstHome_50 : decode cX6_firstHome 50 = .ok (.iinc 3 (-1), 3) := by decide +kernel
theorem dX6_firstHome_53 : decode cX6_firstHome 53 = .ok (.goto (-44), 3) := by decide +kernel
theorem dX6_firstHome_56 : decode cX6_firstHome 56 = .ok (.iload_n 2, 1) := by decide +kernel
theorem dX6_firstHome_57 : decode cX6_firstHome 57 = .ok (.ireturn, 1) := by decide +kernel
set_option maxRecDepth 20000 in
theorem ggX6_countTogether_X6_showNow : GoodIn wsX6_countTogether wsX6_showNow := goodIn_r _ [11, 12, 13, 30, 31, 32, 33, 34, 35, 36, 37, 38, 39, 40, 41, 42, 43, 44, 45, 46, 47] (by decide +kernel) (by decide +kernel)
set_option maxRecDepth 20000 in
theorem gX6_countTogether_X6_showNow : GoodIn wsX6_countTogether (va_wsS RX6 63 yX6_showNow wsX6_showNow) := goodIn_app (goodIn_of _ (by decide +kernel)) ggX6_countTogether_X6_showNow
set_option maxRecDepth 20000 in
theorem ggX6_countTogether_X6_countForPack : GoodIn wsX6_countTogether wsX6_countForPack := goodIn_r _ [16, 8, 9, 10, 11, 12, 13, 17, 18, 19, 20, 21, 22, 23, 24, 25, 26, 27, 28, 29, 30, 31, 32, 33, 34, 35, 36, 37, 38, 39, 40, 41, 42, 43, 44, 45, 46, 47] (by decide +kernel) (by decide +kernel)
set_option maxRecDepth 20000 in
theorem gX6_countTogether_X6_countForPack : GoodIn wsX6_countTogether (va_wsS RX6 70 yX6_countForPack wsX6_countForPack) := goodIn_app (goodIn_of _ (by decide +kernel)) ggX6_countTogether_X6_countForPack
theorem dX6_countTogether_0 : decode cX6_countTogether 0 = .ok (.aload_n 0, 1) := by decide +kernel
theorem dX6_countTogether_1 : decode cX6_countTogether 1 = .ok (.aload_n 1, 1) := by decide +kernel
theorem dX6_countTogether_2 : decode cX6_countTogether 2 = .ok (.iload_n 2, 1) := by decide +kernel
theorem dX6_countTogether_3 : decode cX6_countTogether 3 = .ok (.aload_n 1, 1) := by decide +kernel
theorem dX6_countTogether_4 : decode cX6_countTogether 4 = .ok (.getfield 60, 3) := by decide +kernel
theorem dX6_countTogether_7 : decode cX6_countTogether 7 = .ok (.iconst (-1), 1) := by decide +kernel
theorem dX6_countTogether_8 : decode cX6_countTogether 8 = .ok (.ixor, 1) := by decide +kernel
theorem dX6_countTogether_9 : decode cX6_countTogether 9 = .ok (.iand, 1) := by decide +kernel
theorem dX6_countTogether_10 : decode cX6_countTogether 10 = .ok (.iload_n 3, 1) := by decide +kernel
theorem dX6_countTogether_11 : decode cX6_countTogether 11 = .ok (.invokestatic 63, 3) := by decide +kernel
theorem dX6_countTogether_14 : decode cX6_countTogether 14 = .ok (.ifCond .eq 7, 3) := by decide +kernel
theorem dX6_countTogether_17 : decode cX6_countTogether 17 = .ok (.iconst 0, 1) := by decide +kernel
theorem dX6_countTogether_18 : decode cX6_countTogether 18 = .ok (.goto 6, 3) := by decide +kernel
theorem dX6_countTogether_21 : decode cX6_countTogether 21 = .ok (.sipush 1000, 3) := by decide +kernel
theorem dX6_countTogether_24 : decode cX6_countTogether 24 = .ok (.istore 4, 2) := by decide +kernel
theorem dX6_countTogether_26 : decode cX6_countTogether 26 = .ok (.iconst 0, 1) := by decide +kernel
theorem dX6_countTogether_27 : decode cX6_countTogether 27 = .ok (.istore 5, 2) := by decide +kernel
theorem dX6_countTogether_29 : decode cX6_countTogether 29 = .ok (.iload 5, 2) := by decide +kernel
theorem dX6_countTogether_31 : decode cX6_countTogether 31 = .ok (.aload_n 1, 1) := by decide +kernel
theorem dX6_countTogether_32 : decode cX6_countTogether 32 = .ok (.getfield 34, 3) := by decide +kernel
theorem dX6_countTogether_35 : decode cX6_countTogether 35 = .ok (.if_icmp .ge 37, 3) := by decide +kernel
theorem dX6_countTogether_38 : decode cX6_countTogether 38 = .ok (.iload 5, 2) := by decide +kernel
theorem dX6_countTogether_40 : decode cX6_countTogether 40 = .ok (.iconst 4, 1) := by decide +kernel
theorem dX6_countTogether_41 : decode cX6_countTogether 41 = .ok (.if_icmp .ge 31, 3) := by decide +kernel
theorem dX6_countTogether_44 : decode cX6_countTogether 44 = .ok (.iload 4, 2) := by decide +kernel
theorem dX6_countTogether_46 : decode cX6_countTogether 46 = .ok (.aload_n 0, 1) := by decide +kernel
theorem dX6_countTogether_47 : decode cX6_countTogether 47 = .ok (.aload_n 1, 1) := by decide +kernel
theorem dX6_countTogether_48 : decode cX6_countTogether 48 = .ok (.iload_n 2, 1) := by decide +kernel
theorem dX6_countTogether_49 : decode cX6_countTogether 49 = .ok (.aload_n 1, 1) := by decide +kernel
theorem dX6_countTogether_50 : decode cX6_countTogether 50 = .ok (.getfield 67, 3) := by decide +kernel
theorem dX6_countTogether_53 : decode cX6_countTogether 53 = .ok (.iload 5, 2) := by decide +kernel
theorem dX6_countTogether_55 : decode cX6_countTogether 55 = .ok (.iaload, 1) := by decide +kernel
theorem dX6_countTogether_56 : decode cX6_countTogether 56 = .ok (.iand, 1) := by decide +kernel
theorem dX6_countTogether_57 : decode cX6_countTogether 57 = .ok (.iload_n 3, 1) := by decide +kernel
theorem dX6_countTogether_58 : decode cX6_countTogether 58 = .ok (.invokestatic 70, 3) := by decide +kernel
theorem dX6_countTogether_61 : decode cX6_countTogether 61 = .ok (.invokestatic 47, 3) := by decide +kernel
theorem dX6_countTogether_64 : decode cX6_countTogether 64 = .ok (.istore 4, 2) := by decide +kernel
theorem dX6_countTogether_66 : decode cX6_countTogether 66 = .ok (.iinc 5 1, 3) := by decide +kernel
theorem dX6_countTogether_69 : decode cX6_countTogether 69 = .ok (.goto (-40), 3) := by decide +kernel
theorem dX6_countTogether_72 : decode cX6_countTogether 72 = .ok (.iload 4, 2) := by decide +kernel
theorem dX6_countTogether_74 : decode cX6_countTogether 74 = .ok (.sipush 1000, 3) := by decide +kernel
theorem dX6_countTogether_77 : decode cX6_countTogether 77 = .ok (.if_icmp .ne 7, 3) := by decide +kernel
theorem dX6_countTogether_80 : decode cX6_countTogether 80 = .ok (.iconst (-1), 1) := by decide +kernel
theorem dX6_countTogether_81 : decode cX6_countTogether 81 = .ok (.goto 5, 3) := by decide +kernel
theorem dX6_countTogether_84 : decode cX6_countTogether 84 = .ok (.iload 4, 2) := by decide +kernel
theorem dX6_countTogether_86 : decode cX6_countTogether 86 = .ok (.ireturn, 1) := by decide +kernel
set_option maxRecDepth 20000 in
theorem ggX6_firstTogether_X6_countForPack : GoodIn wsX6_firstTogether wsX6_countForPack := goodIn_r _ [10, 11, 12, 9, 13, 14, 15, 16, 17, 18, 19, 20, 21, 22, 23, 24, 25, 26, 27, 28, 29, 30, 31, 32, 33, 34, 35, 36, 37, 38, 39, 40, 41, 42, 43, 44, 45, 46] (by decide +kernel) (by decide +kernel)
set_option maxRecDepth 20000 in
theorem gX6_firstTogether_X6_countForPack : GoodIn wsX6_firstTogether (va_wsS RX6 70 yX6_countForPack wsX6_countForPack) := goodIn_app (goodIn_of _ (by decide +kernel)) ggX6_firstTogether_X6_countForPack
set_option maxRecDepth 20000 in
theorem ggX6_firstTogether_X6_showAhead : GoodIn wsX6_firstTogether wsX6_showAhead := goodIn_r _ [18, 14, 19, 20, 21, 22, 23, 24, 25, 26, 27, 28, 29, 30, 31, 32, 33, 34, 35, 36, 37, 38, 39, 40, 41, 42, 43, 44, 45, 46] (by decide +kernel) (by decide +kernel)
set_option maxRecDepth 20000 in
theorem gX6_firstTogether_X6_showAhead : GoodIn wsX6_firstTogether (va_wsS RX6 74 yX6_showAhead wsX6_showAhead) := goodIn_app (goodIn_of _ (by decide +kernel)) ggX6_firstTogether_X6_showAhead
theorem dX6_firstTogether_0 : decode cX6_firstTogether 0 = .ok (.iconst 0, 1) := by decide +kernel
theorem dX6_firstTogether_1 : decode cX6_firstTogether 1 = .ok (.istore 5, 2) := by decide +kernel
theorem dX6_firstTogether_3 : decode cX6_firstTogether 3 = .ok (.aload_n 1, 1) := by decide +kernel
theorem dX6_firstTogether_4 : decode cX6_firstTogether 4 = .ok (.getfield 34, 3) := by decide +kernel
theorem dX6_firstTogether_7 : decode cX6_firstTogether 7 = .ok (.iconst 4, 1) := by decide +kernel
theorem dX6_firstTogether_8 : decode cX6_firstTogether 8 = .ok (.invokestatic 57, 3) := by decide +kernel
theorem dX6_firstTogether_11 : decode cX6_firstTogether 11 = .ok (.iconst 1, 1) := by decide +kernel
theorem dX6_firstTogether_12 : decode cX6_firstTogether 12 = .ok (.isub, 1) := by decide +kernel
theorem dX6_firstTogether_13 : decode cX6_firstTogether 13 = .ok (.istore 6, 2) := by decide +kernel
theorem dX6_firstTogether_15 : decode cX6_firstTogether 15 = .ok (.iload 6, 2) := by decide +kernel
theorem dX6_firstTogether_17 : decode cX6_firstTogether 17 = .ok (.ifCond .lt 72, 3) := by decide +kernel
theorem dX6_firstTogether_20 : decode cX6_firstTogether 20 = .ok (.iload_n 2, 1) := by decide +kernel
theorem dX6_firstTogether_21 : decode cX6_firstTogether 21 = .ok (.aload_n 1, 1) := by decide +kernel
theorem dX6_firstTogether_22 : decode cX6_firstTogether 22 = .ok (.getfield 67, 3) := by decide +kernel
theorem dX6_firstTogether_25 : decode cX6_firstTogether 25 = .ok (.iload 6, 2) := by decide +kernel
theorem dX6_firstTogether_27 : decode cX6_firstTogether 27 = .ok (.iaload, 1) := by decide +kernel
theorem dX6_firstTogether_28 : decode cX6_firstTogether 28 = .ok (.iand, 1) := by decide +kernel
theorem dX6_firstTogether_29 : decode cX6_firstTogether 29 = .ok (.istore 7, 2) := by decide +kernel
theorem dX6_firstTogether_31 : decode cX6_firstTogether 31 = .ok (.iconst 0, 1) := by decide +kernel
theorem dX6_firstTogether_32 : decode cX6_firstTogether 32 = .ok (.istore 8, 2) := by decide +kernel
theorem dX6_firstTogether_34 : decode cX6_firstTogether 34 = .ok (.aload_n 0, 1) := by decide +kernel
theorem dX6_firstTogether_35 : decode cX6_firstTogether 35 = .ok (.aload_n 1, 1) := by decide +kernel
theorem dX6_firstTogether_36 : decode cX6_firstTogether 36 = .ok (.iload 7, 2) := by decide +kernel
theorem dX6_firstTogether_38 : decode cX6_firstTogether 38 = .ok (.iload_n 3, 1) := by decide +kernel
theorem dX6_firstTogether_39 : decode cX6_firstTogether 39 = .ok (.invokestatic 70, 3) := by decide +kernel
theorem dX6_firstTogether_42 : decode cX6_firstTogether 42 = .ok (.iload 4, 2) := by decide +kernel
theorem dX6_firstTogether_44 : decode cX6_firstTogether 44 = .ok (.if_icmp .ne 30, 3) := by decide +kernel
theorem dX6_firstTogether_47 : decode cX6_firstTogether 47 = .ok (.iload 4, 2) := by decide +kernel
theorem dX6_firstTogether_49 : decode cX6_firstTogether 49 = .ok (.ifCond .le 25, 3) := by decide +kernel
theorem dX6_firstTogether_52 : decode cX6_firstTogether 52 = .ok (.aload_n 0, 1) := by decide +kernel
theorem dX6_firstTogether_53 : decode cX6_firstTogether 53 = .ok (.aload_n 1, 1) := by decide +kernel
theorem dX6_firstTogether_54 : decode cX6_firstTogether 54 = .ok (.iload 7, 2) := by decide +kernel
theorem dX6_firstTogether_56 : decode cX6_firstTogether 56 = .ok (.iload_n 3, 1) := by decide +kernel
theorem dX6_firstTogether_57 : decode cX6_firstTogether 57 = .ok (.iload 4, 2) := by decide +kernel
theorem dX6_firstTogether_59 : decode cX6_firstTogether 59 = .ok (.iconst 1, 1) := by decide +kernel
theorem dX6_firstTogether_60 : decode cX6_firstTogether 60 = .ok (.isub, 1) := by decide +kernel
theorem dX6_firstTogether_61 : decode cX6_firstTogether 61 = .ok (.invokestatic 74, 3) := by decide +kernel
theorem dX6_firstTogether_64 : decode cX6_firstTogether 64 = .ok (.ifCond .eq 7, 3) := by decide +kernel
theorem dX6_firstTogether_67 : decode cX6_firstTogether 67 = .ok (.iconst 1, 1) := by decide +kernel
theorem dX6_firstTogether_68 : decode cX6_firstTogether 68 = .ok (.goto 4, 3) := by decide +kernel
theorem dX6_firstTogether_71 : decode cX6_firstTogether 71 = .ok (.iconst 2, 1) := by decide +kernel
theorem dX6_firstTogether_72 : decode cX6_firstTogether 72 = .ok (.istore 8, 2) := by decide +kernel
theorem dX6_firstTogether_74 : decode cX6_firstTogether 74 = .ok (.iload 5, 2) := by decide +kernel
theorem dX6_firstTogether_76 : decode cX6_firstTogether 76 = .ok (.iconst 3, 1) := by decide +kernel
theorem dX6_firstTogether_77 : decode cX6_firstTogether 77 = .ok (.imul, 1) := by decide +kernel
theorem dX6_firstTogether_78 : decode cX6_firstTogether 78 = .ok (.iload 8, 2) := by decide +kernel
theorem dX6_firstTogether_80 : decode cX6_firstTogether 80 = .ok (.iadd, 1) := by decide +kernel
theorem dX6_firstTogether_81 : decode cX6_firstTogether 81 = .ok (.istore 5, 2) := by decide +kernel
theorem dX6_firstTogether_83 : decode cX6_firstTogether 83 = .ok (.iinc 6 (-1), 3) := by decide +kernel
theorem dX6_firstTogether_86 : decode cX6_firstTogether 86 = .ok (.goto (-71), 3) := by decide +kernel
theorem dX6_firstTogether_89 : decode cX6_firstTogether 89 = .ok (.iload 5, 2) := by decide +kernel
theorem dX6_firstTogether_91 : decode cX6_firstTogether 91 = .ok (.ireturn, 1) := by decide +kernel
set_option maxRecDepth 20000 in
theorem ggX6_countForPack_X6_showNow : GoodIn wsX6_countForPack wsX6_showNow := goodIn_r _ [4, 5, 6, 20, 21, 22, 23, 24, 25, 26, 27, 28, 29, 30, 31, 32, 33, 34, 35, 36, 37] (by decide +kernel) (by decide +kernel)
set_option maxRecDepth 20000 in
theorem gX6_countForPack_X6_showNow : GoodIn wsX6_countForPack (va_wsS RX6 63 yX6_showNow wsX6_showNow) := goodIn_app (goodIn_of _ (by decide +kernel)) ggX6_countForPack_X6_showNow
set_option maxRecDepth 20000 in
theorem ggX6_countForPack_X6_showAhead : GoodIn wsX6_countForPack wsX6_showAhead := goodIn_r _ [9, 5, 10, 11, 12, 13, 14, 15, 16, 17, 18, 19, 20, 21, 22, 23, 24, 25, 26, 27, 28, 29, 30, 31, 32, 33, 34, 35, 36, 37] (by decide +kernel) (by decide +kernel)
set_option maxRecDepth 20000 in
theorem gX6_countForPack_X6_showAhead : GoodIn wsX6_countForPack (va_wsS RX6 74 yX6_showAhead wsX6_showAhead) := goodIn_app (goodIn_of _ (by decide +kernel)) ggX6_countForPack_X6_showAhead
theorem dX6_countForPack_0 : decode cX6_countForPack 0 = .ok (.aload_n 0, 1) := by decide +kernel
theorem dX6_countForPack_1 : decode cX6_countForPack 1 = .ok (.aload_n 1, 1) := by decide +kernel
theorem dX6_countForPack_2 : decode cX6_countForPack 2 = .ok (.iload_n 2, 1) := by decide +kernel
theorem dX6_countForPack_3 : decode cX6_countForPack 3 = .ok (.iload_n 3, 1) := by decide +kernel
theorem dX6_countForPack_4 : decode cX6_countForPack 4 = .ok (.invokestatic 63, 3) := by decide +kernel
theorem dX6_countForPack_7 : decode cX6_countForPack 7 = .ok (.ifCond .eq 5, 3) := by decide +kernel
theorem dX6_countForPack_10 : decode cX6_countForPack 10 = .ok (.iconst 0, 1) := by decide +kernel
theorem dX6_countForPack_11 : decode cX6_countForPack 11 = .ok (.ireturn, 1) := by decide +kernel
theorem dX6_countForPack_12 : decode cX6_countForPack 12 = .ok (.iconst 1, 1) := by decide +kernel
theorem dX6_countForPack_13 : decode cX6_countForPack 13 = .ok (.istore 4, 2) := by decide +kernel
theorem dX6_countForPack_15 : decode cX6_countForPack 15 = .ok (.iload 4, 2) := by decide +kernel
theorem dX6_countForPack_17 : decode cX6_countForPack 17 = .ok (.iconst 2, 1) := by decide +kernel
theorem dX6_countForPack_18 : decode cX6_countForPack 18 = .ok (.if_icmp .gt 39, 3) := by decide +kernel
theorem dX6_countForPack_21 : decode cX6_countForPack 21 = .ok (.aload_n 0, 1) := by decide +kernel
theorem dX6_countForPack_22 : decode cX6_countForPack 22 = .ok (.aload_n 1, 1) := by decide +kernel
theorem dX6_countForPack_23 : decode cX6_countForPack 23 = .ok (.iload_n 2, 1) := by decide +kernel
theorem dX6_countForPack_24 : decode cX6_countForPack 24 = .ok (.iload_n 3, 1) := by decide +kernel
theorem dX6_countForPack_25 : decode cX6_countForPack 25 = .ok (.iload 4, 2) := by decide +kernel
theorem dX6_countForPack_27 : decode cX6_countForPack 27 = .ok (.iconst 1, 1) := by decide +kernel
theorem dX6_countForPack_28 : decode cX6_countForPack 28 = .ok (.isub, 1) := by decide +kernel
theorem dX6_countForPack_29 : decode cX6_countForPack 29 = .ok (.invokestatic 74, 3) := by decide +kernel
theorem dX6_countForPack_32 : decode cX6_countForPack 32 = .ok (.ifCond .ne 16, 3) := by decide +kernel
theorem dX6_countForPack_35 : decode cX6_countForPack 35 = .ok (.aload_n 0, 1) := by decide +kernel
theorem dX6_countForPack_36 : decode cX6_countForPack 36 = .ok (.aload_n 1, 1) := by decide +kernel
theorem dX6_countForPack_37 : decode cX6_countForPack 37 = .ok (.iload_n 2, 1) := by decide +kernel
theorem dX6_countForPack_38 : decode cX6_countForPack 38 = .ok (.iload_n 3, 1) := by decide +kernel
theorem dX6_countForPack_39 : decode cX6_countForPack 39 = .ok (.iload 4, 2) := by decide +kernel
theorem dX6_countForPack_41 : decode cX6_countForPack 41 = .ok (.ineg, 1) := by decide +kernel
theorem dX6_countForPack_42 : decode cX6_countForPack 42 = .ok (.invokestatic 74, 3) := by decide +kernel
theorem dX6_countForPack_45 : decode cX6_countForPack 45 = .ok (.ifCond .eq 6, 3) := by decide +kernel
theorem dX6_countForPack_48 : decode cX6_countForPack 48 = .ok (.iload 4, 2) := by decide +kernel
theorem dX6_countForPack_50 : decode cX6_countForPack 50 = .ok (.ireturn, 1) := by decide +kernel
theorem dX6_countForPack_51 : decode cX6_countForPack 51 = .ok (.iinc 4 1, 3) := by decide +kernel
theorem dX6_countForPack_54 : decode cX6_countForPack 54 = .ok (.goto (-39), 3) := by decide +kernel
theorem dX6_countForPack_57 : decode cX6_countForPack 57 = .ok (.sipush 1000, 3) := by decide +kernel
theorem dX6_countForPack_60 : decode cX6_countForPack 60 = .ok (.ireturn, 1) := by decide +kernel
theorem dX6_showNow_0 : decode cX6_showNow 0 = .ok (.iconst 0, 1) := by decide +kernel
theorem dX6_showNow_1 : decode cX6_showNow 1 = .ok (.istore 4, 2) := by decide +kernel
theorem dX6_showNow_3 : decode cX6_showNow 3 = .ok (.iload 4, 2) := by decide +kernel
theorem dX6_showNow_5 : decode cX6_showNow 5 = .ok (.aload_n 1, 1) := by decide +kernel
theorem dX6_showNow_6 : decode cX6_showNow 6 = .ok (.getfield 9, 3) := by decide +kernel
theorem dX6_showNow_9 : decode cX6_showNow 9 = .ok (.if_icmp .ge 39, 3) := by decide +kernel
theorem dX6_showNow_12 : decode cX6_showNow 12 = .ok (.iload 4, 2) := by decide +kernel
theorem dX6_showNow_14 : decode cX6_showNow 14 = .ok (.bipush 8, 2) := by decide +kernel
theorem dX6_showNow_16 : decode cX6_showNow 16 = .ok (.if_icmp .ge 32, 3) := by decide +kernel
theorem dX6_showNow_19 : decode cX6_showNow 19 = .ok (.iload_n 2, 1) := by decide +kernel
theorem dX6_showNow_20 : decode cX6_showNow 20 = .ok (.iload 4, 2) := by decide +kernel
theorem dX6_showNow_22 : decode cX6_showNow 22 = .ok (.ishr, 1) := by decide +kernel
theorem dX6_showNow_23 : decode cX6_showNow 23 = .ok (.iconst 1, 1) := by decide +kernel
theorem dX6_showNow_24 : decode cX6_showNow 24 = .ok (.iand, 1) := by decide +kernel
theorem dX6_showNow_25 : decode cX6_showNow 25 = .ok (.iconst 1, 1) := by decide +kernel
theorem dX6_showNow_26 : decode cX6_showNow 26 = .ok (.if_icmp .ne 16, 3) := by decide +kernel
theorem dX6_showNow_29 : decode cX6_showNow 29 = .ok (.aload_n 0, 1) := by decide +kernel
theorem dX6_showNow_30 : decode cX6_showNow 30 = .ok (.getfield 78, 3) := by decide +kernel
theorem dX6_showNow_33 : decode cX6_showNow 33 = .ok (.iload 4, 2) := by decide +kernel
theorem dX6_showNow_35 : decode cX6_showNow 35 = .ok (.iaload, 1) := by decide +kernel
theorem dX6_showNow_36 : decode cX6_showNow 36 = .ok (.iload_n 3, 1) := by decide +kernel
theorem dX6_showNow_37 : decode cX6_showNow 37 = .ok (.if_icmp .eq 5, 3) := by decide +kernel
theorem dX6_showNow_40 : decode cX6_showNow 40 = .ok (.iconst 0, 1) := by decide +kernel
theorem dX6_showNow_41 : decode cX6_showNow 41 = .ok (.ireturn, 1) := by decide +kernel
theorem dX6_showNow_42 : decode cX6_showNow 42 = .ok (.iinc 4 1, 3) := by decide +kernel
theorem dX6_showNow_45 : decode cX6_showNow 45 = .ok (.goto (-42), 3) := by decide +kernel
theorem dX6_showNow_48 : decode cX6_showNow 48 = .ok (.iconst 1, 1) := by decide +kernel
theorem dX6_showNow_49 : decode cX6_showNow 49 = .ok (.ireturn, 1) := by decide +kernel
set_option maxRecDepth 20000 in
theorem ggX6_showAhead_X5_colourAt : GoodIn wsX6_showAhead wsX5_colourAt := goodIn_r _ [7, 8, 9, 10, 6, 11, 12, 13, 14, 15, 16, 17, 18, 19, 20] (by decide +kernel) (by decide +kernel)
set_option maxRecDepth 20000 in
theorem gX6_showAhead_X5_colourAt : GoodIn wsX6_showAhead (wsV RX6 81 RX5 yX5_colourAt wsX5_colourAt) := goodIn_app (goodIn_of _ (by decide +kernel)) ggX6_showAhead_X5_colourAt
theorem dX6_showAhead_0 : decode cX6_showAhead 0 = .ok (.iconst 0, 1) := by decide +kernel
theorem dX6_showAhead_1 : decode cX6_showAhead 1 = .ok (.istore 5, 2) := by decide +kernel
theorem dX6_showAhead_3 : decode cX6_showAhead 3 = .ok (.iload 5, 2) := by decide +kernel
theorem dX6_showAhead_5 : decode cX6_showAhead 5 = .ok (.aload_n 1, 1) := by decide +kernel
theorem dX6_showAhead_6 : decode cX6_showAhead 6 = .ok (.getfield 9, 3) := by decide +kernel
theorem dX6_showAhead_9 : decode cX6_showAhead 9 = .ok (.if_icmp .ge 48, 3) := by decide +kernel
theorem dX6_showAhead_12 : decode cX6_showAhead 12 = .ok (.iload 5, 2) := by decide +kernel
theorem dX6_showAhead_14 : decode cX6_showAhead 14 = .ok (.bipush 8, 2) := by decide +kernel
theorem dX6_showAhead_16 : decode cX6_showAhead 16 = .ok (.if_icmp .ge 41, 3) := by decide +kernel
theorem dX6_showAhead_19 : decode cX6_showAhead 19 = .ok (.iload_n 2, 1) := by decide +kernel
theorem dX6_showAhead_20 : decode cX6_showAhead 20 = .ok (.iload 5, 2) := by decide +kernel
theorem dX6_showAhead_22 : decode cX6_showAhead 22 = .ok (.ishr, 1) := by decide +kernel
theorem dX6_showAhead_23 : decode cX6_showAhead 23 = .ok (.iconst 1, 1) := by decide +kernel
theorem dX6_showAhead_24 : decode cX6_showAhead 24 = .ok (.iand, 1) := by decide +kernel
theorem dX6_showAhead_25 : decode cX6_showAhead 25 = .ok (.iconst 1, 1) := by decide +kernel
theorem dX6_showAhead_26 : decode cX6_showAhead 26 = .ok (.if_icmp .ne 25, 3) := by decide +kernel
theorem dX6_showAhead_29 : decode cX6_showAhead 29 = .ok (.aload_n 1, 1) := by decide +kernel
theorem dX6_showAhead_30 : decode cX6_showAhead 30 = .ok (.iload 5, 2) := by decide +kernel
theorem dX6_showAhead_32 : decode cX6_showAhead 32 = .ok (.aload_n 0, 1) := by decide +kernel
theorem dX6_showAhead_33 : decode cX6_showAhead 33 = .ok (.getfield 31, 3) := by decide +kernel
theorem dX6_showAhead_36 : decode cX6_showAhead 36 = .ok (.iload 5, 2) := by decide +kernel
theorem dX6_showAhead_38 : decode cX6_showAhead 38 = .ok (.iaload, 1) := by decide +kernel
theorem dX6_showAhead_39 : decode cX6_showAhead 39 = .ok (.iload 4, 2) := by decide +kernel
theorem dX6_showAhead_41 : decode cX6_showAhead 41 = .ok (.iadd, 1) := by decide +kernel
theorem dX6_showAhead_42 : decode cX6_showAhead 42 = .ok (.invokevirtual 81, 3) := by decide +kernel
theorem dX6_showAhead_45 : decode cX6_showAhead 45 = .ok (.iload_n 3, 1) := by decide +kernel
theorem dX6_showAhead_46 : decode cX6_showAhead 46 = .ok (.if_icmp .eq 5, 3) := by decide +kernel
theorem dX6_showAhead_49 : decode cX6_showAhead 49 = .ok (.iconst 0, 1) := by decide +kernel
theorem dX6_showAhead_50 : decode cX6_showAhead 50 = .ok (.ireturn, 1) := by decide +kernel
theorem dX6_showAhead_51 : decode cX6_showAhead 51 = .ok (.iinc 5 1, 3) := by decide +kernel
theorem dX6_showAhead_54 : decode cX6_showAhead 54 = .ok (.goto (-51), 3) := by decide +kernel
theorem dX6_showAhead_57 : decode cX6_showAhead 57 = .ok (.iconst 1, 1) := by decide +kernel
theorem dX6_showAhead_58 : decode cX6_showAhead 58 = .ok (.ireturn, 1) := by decide +kernel
theorem dX7_init_0 : decode cX7_init 0 = .ok (.aload_n 0, 1) := by decide +kernel
theorem dX7_init_1 : decode cX7_init 1 = .ok (.invokespecial 3, 3) := by decide +kernel
theorem dX7_init_4 : decode cX7_init 4 = .ok (.aload_n 0, 1) := by decide +kernel
theorem dX7_init_5 : decode cX7_init 5 = .ok (.bipush 8, 2) := by decide +kernel
theorem dX7_init_7 : decode cX7_init 7 = .ok (.newarray .int, 2) := by decide +kernel
theorem dX7_init_9 : decode cX7_init 9 = .ok (.putfield 9, 3) := by decide +kernel
theorem dX7_init_12 : decode cX7_init 12 = .ok (.aload_n 0, 1) := by decide +kernel
theorem dX7_init_13 : decode cX7_init 13 = .ok (.bipush 8, 2) := by decide +kernel
theorem dX7_init_15 : decode cX7_init 15 = .ok (.newarray .int, 2) := by decide +kernel
theorem dX7_init_17 : decode cX7_init 17 = .ok (.putfield 15, 3) := by decide +kernel
theorem dX7_init_20 : decode cX7_init 20 = .ok (.aload_n 0, 1) := by decide +kernel
theorem dX7_init_21 : decode cX7_init 21 = .ok (.bipush 8, 2) := by decide +kernel
theorem dX7_init_23 : decode cX7_init 23 = .ok (.newarray .int, 2) := by decide +kernel
theorem dX7_init_25 : decode cX7_init 25 = .ok (.putfield 18, 3) := by decide +kernel
theorem dX7_init_28 : decode cX7_init 28 = .ok (.aload_n 0, 1) := by decide +kernel
theorem dX7_init_29 : decode cX7_init 29 = .ok (.bipush 8, 2) := by decide +kernel
theorem dX7_init_31 : decode cX7_init 31 = .ok (.newarray .int, 2) := by decide +kernel
theorem dX7_init_33 : decode cX7_init 33 = .ok (.putfield 21, 3) := by decide +kernel
theorem dX7_init_36 : decode cX7_init 36 = .ok (.aload_n 0, 1) := by decide +kernel
theorem dX7_init_37 : decode cX7_init 37 = .ok (.bipush 8, 2) := by decide +kernel
theorem dX7_init_39 : decode cX7_init 39 = .ok (.newarray .int, 2) := by decide +kernel
theorem dX7_init_41 : decode cX7_init 41 = .ok (.putfield 24, 3) := by decide +kernel
theorem dX7_init_44 : decode cX7_init 44 = .ok (.aload_n 0, 1) := by decide +kernel
theorem dX7_init_45 : decode cX7_init 45 = .ok (.bipush 8, 2) := by decide +kernel
theorem dX7_init_47 : decode cX7_init 47 = .ok (.newarray .int, 2) := by decide +kernel
theorem dX7_init_49 : decode cX7_init 49 = .ok (.putfield 27, 3) := by decide +kernel
theorem dX7_init_52 : decode cX7_init 52 = .ok (.aload_n 0, 1) := by decide +kernel
theorem dX7_init_53 : decode cX7_init 53 = .ok (.bipush 8, 2) := by decide +kernel
theorem dX7_init_55 : decode cX7_init 55 = .ok (.newarray .int, 2) := by decide +kernel
theorem dX7_init_57 : decode cX7_init 57 = .ok (.putfield 30, 3) := by decide +kernel
theorem dX7_init_60 : decode cX7_init 60 = .ok (.aload_n 0, 1) := by decide +kernel
theorem dX7_init_61 : decode cX7_init 61 = .ok (.sipush 192, 3) := by decide +kernel
theorem dX7_init_64 : decode cX7_init 64 = .ok (.newarray .int, 2) := by decide +kernel
theorem dX7_init_66 : decode cX7_init 66 = .ok (.putfield 33, 3) := by decide +kernel
theorem dX7_init_69 : decode cX7_init 69 = .ok (.return_, 1) := by decide +kernel
set_option maxRecDepth 20000 in
theorem ggX7_begin_J7_fill_53178 : GoodIn wsX7_begin wsJ7_fill_53178 := goodIn_r _ [17] (by decide +kernel) (by decide +kernel)
set_option maxRecDepth 20000 in
theorem gX7_begin_J7_fill_53178 : GoodIn wsX7_begin (va_wsS RX7 50 yJ7_fill_53178 wsJ7_fill_53178) := goodIn_app (goodIn_of _ (by decide +kernel)) ggX7_begin_J7_fill_53178
theorem dX7_begin_0 : decode cX7_begin 0 = .ok (.aload_n 1, 1) := by decide +kernel
theorem dX7_begin_1 : decode cX7_begin 1 = .ok (.getfield 36, 3) := by decide +kernel
theorem dX7_begin_4 : decode cX7_begin 4 = .ok (.iconst 0, 1) := by decide +kernel
theorem dX7_begin_5 : decode cX7_begin 5 = .ok (.aload_n 0, 1) := by decide +kernel
theorem dX7_begin_6 : decode cX7_begin 6 = .ok (.getfield 9, 3) := by decide +kernel
theorem dX7_begin_9 : decode cX7_begin 9 = .ok (.iconst 0, 1) := by decide +kernel
theorem dX7_begin_10 : decode cX7_begin 10 = .ok (.bipush 8, 2) := by decide +kernel
theorem dX7_begin_12 : decode cX7_begin 12 = .ok (.invokestatic 41, 3) := by decide +kernel
theorem dX7_begin_15 : decode cX7_begin 15 = .ok (.aload_n 1, 1) := by decide +kernel
theorem dX7_begin_16 : decode cX7_begin 16 = .ok (.getfield 47, 3) := by decide +kernel
theorem dX7_begin_19 : decode cX7_begin 19 = .ok (.iconst 0, 1) := by decide +kernel
theorem dX7_begin_20 : decode cX7_begin 20 = .ok (.aload_n 0, 1) := by decide +kernel
theorem dX7_begin_21 : decode cX7_begin 21 = .ok (.getfield 27, 3) := by decide +kernel
theorem dX7_begin_24 : decode cX7_begin 24 = .ok (.iconst 0, 1) := by decide +kernel
theorem dX7_begin_25 : decode cX7_begin 25 = .ok (.bipush 8, 2) := by decide +kernel
theorem dX7_begin_27 : decode cX7_begin 27 = .ok (.invokestatic 41, 3) := by decide +kernel
theorem dX7_begin_30 : decode cX7_begin 30 = .ok (.aload_n 0, 1) := by decide +kernel
theorem dX7_begin_31 : decode cX7_begin 31 = .ok (.getfield 15, 3) := by decide +kernel
theorem dX7_begin_34 : decode cX7_begin 34 = .ok (.iconst 0, 1) := by decide +kernel
theorem dX7_begin_35 : decode cX7_begin 35 = .ok (.invokestatic 50, 3) := by decide +kernel
theorem dX7_begin_38 : decode cX7_begin 38 = .ok (.aload_n 0, 1) := by decide +kernel
theorem dX7_begin_39 : decode cX7_begin 39 = .ok (.getfield 18, 3) := by decide +kernel
theorem dX7_begin_42 : decode cX7_begin 42 = .ok (.iconst 0, 1) := by decide +kernel
theorem dX7_begin_43 : decode cX7_begin 43 = .ok (.invokestatic 50, 3) := by decide +kernel
theorem dX7_begin_46 : decode cX7_begin 46 = .ok (.aload_n 0, 1) := by decide +kernel
theorem dX7_begin_47 : decode cX7_begin 47 = .ok (.getfield 21, 3) := by decide +kernel
theorem dX7_begin_50 : decode cX7_begin 50 = .ok (.iconst (-1), 1) := by decide +kernel
theorem dX7_begin_51 : decode cX7_begin 51 = .ok (.invokestatic 50, 3) := by decide +kernel
theorem dX7_begin_54 : decode cX7_begin 54 = .ok (.aload_n 0, 1) := by decide +kernel
theorem dX7_begin_55 : decode cX7_begin 55 = .ok (.getfield 24, 3) := by decide +kernel
theorem dX7_begin_58 : decode cX7_begin 58 = .ok (.iconst (-1), 1) := by decide +kernel
theorem dX7_begin_59 : decode cX7_begin 59 = .ok (.invokestatic 50, 3) := by decide +kernel
theorem dX7_begin_62 : decode cX7_begin 62 = .ok (.aload_n 0, 1) := by decide +kernel
theorem dX7_begin_63 : decode cX7_begin 63 = .ok (.iconst 0, 1) := by decide +kernel
theorem dX7_begin_64 : decode cX7_begin 64 = .ok (.putfield 56, 3) := by decide +kernel
theorem dX7_begin_67 : decode cX7_begin 67 = .ok (.return_, 1) := by decide +kernel
theorem dX7_become_0 : decode cX7_become 0 = .ok (.aload_n 1, 1) := by decide +kernel
theorem dX7_become_1 : decode cX7_become 1 = .ok (.getfield 9, 3) := by decide +kernel
theorem dX7_become_4 : decode cX7_become 4 = .ok (.iconst 0, 1) := by decide +kernel
theorem dX7_become_5 : decode cX7_become 5 = .ok (.aload_n 0, 1) := by decide +kernel
theorem dX7_become_6 : decode cX7_become 6 = .ok (.getfield 9, 3) := by decide +kernel
theorem dX7_become_9 : decode cX7_become 9 = .ok (.iconst 0, 1) := by decide +kernel
theorem dX7_become_10 : decode cX7_become 10 = .ok (.bipush 8, 2) := by decide +kernel
theorem dX7_become_12 : decode cX7_become 12 = .ok (.invokestatic 41, 3) := by decide +kernel
theorem dX7_become_15 : decode cX7_become 15 = .ok (.aload_n 1, 1) := by decide +kernel
theorem dX7_become_16 : decode cX7_become 16 = .ok (.getfield 15, 3) := by decide +kernel
theorem dX7_become_19 : decode cX7_become 19 = .ok (.iconst 0, 1) := by decide +kernel
theorem dX7_become_20 : decode cX7_become 20 = .ok (.aload_n 0, 1) := by decide +kernel
theorem dX7_become_21 : decode cX7_become 21 = .ok (.getfield 15, 3) := by decide +kernel
theorem dX7_become_24 : decode cX7_become 24 = .ok (.iconst 0, 1) := by decide +kernel
theorem dX7_become_25 : decode cX7_become 25 = .ok (.bipush 8, 2) := by decide +kernel
theorem dX7_become_27 : decode cX7_become 27 = .ok (.invokestatic 41, 3) := by decide +kernel
theorem dX7_become_30 : decode cX7_become 30 = .ok (.aload_n 1, 1) := by decide +kernel
theorem dX7_become_31 : decode cX7_become 31 = .ok (.getfield 18, 3) := by decide +kernel
theorem dX7_become_34 : decode cX7_become 34 = .ok (.iconst 0, 1) := by decide +kernel
theorem dX7_become_35 : decode cX7_become 35 = .ok (.aload_n 0, 1) := by decide +kernel
theorem dX7_become_36 : decode cX7_become 36 = .ok (.getfield 18, 3) := by decide +kernel
theorem dX7_become_39 : decode cX7_become 39 = .ok (.iconst 0, 1) := by decide +kernel
theorem dX7_become_40 : decode cX7_become 40 = .ok (.bipush 8, 2) := by decide +kernel
theorem dX7_become_42 : decode cX7_become 42 = .ok (.invokestatic 41, 3) := by decide +kernel
theorem dX7_become_45 : decode cX7_become 45 = .ok (.aload_n 1, 1) := by decide +kernel
theorem dX7_become_46 : decode cX7_become 46 = .ok (.getfield 21, 3) := by decide +kernel
theorem dX7_become_49 : decode cX7_become 49 = .ok (.iconst 0, 1) := by decide +kernel
theorem dX7_become_50 : decode cX7_become 50 = .ok (.aload_n 0, 1) := by decide +kernel
theorem dX7_become_51 : decode cX7_become 51 = .ok (.getfield 21, 3) := by decide +kernel
theorem dX7_become_54 : decode cX7_become 54 = .ok (.iconst 0, 1) := by decide +kernel
theorem dX7_become_55 : decode cX7_become 55 = .ok (.bipush 8, 2) := by decide +kernel
theorem dX7_become_57 : decode cX7_become 57 = .ok (.invokestatic 41, 3) := by decide +kernel
theorem dX7_become_60 : decode cX7_become 60 = .ok (.aload_n 1, 1) := by decide +kernel
theorem dX7_become_61 : decode cX7_become 61 = .ok (.getfield 24, 3) := by decide +kernel
theorem dX7_become_64 : decode cX7_become 64 = .ok (.iconst 0, 1) := by decide +kernel
theorem dX7_become_65 : decode cX7_become 65 = .ok (.aload_n 0, 1) := by decide +kernel
theorem dX7_become_66 : decode cX7_become 66 = .ok (.getfield 24, 3) := by decide +kernel
theorem dX7_become_69 : decode cX7_become 69 = .ok (.iconst 0, 1) := by decide +kernel
theorem dX7_become_70 : decode cX7_become 70 = .ok (.bipush 8, 2) := by decide +kernel
theorem dX7_become_72 : decode cX7_become 72 = .ok (.invokestatic 41, 3) := by decide +kernel
theorem dX7_become_75 : decode cX7_become 75 = .ok (.aload_n 1, 1) := by decide +kernel
theorem dX7_become_76 : decode cX7_become 76 = .ok (.getfield 27, 3) := by decide +kernel
theorem dX7_become_79 : decode cX7_become 79 = .ok (.iconst 0, 1) := by decide +kernel
theorem dX7_become_80 : decode cX7_become 80 = .ok (.aload_n 0, 1) := by decide +kernel
theorem dX7_become_81 : decode cX7_become 81 = .ok (.getfield 27, 3) := by decide +kernel
theorem dX7_become_84 : decode cX7_become 84 = .ok (.iconst 0, 1) := by decide +kernel
theorem dX7_become_85 : decode cX7_become 85 = .ok (.bipush 8, 2) := by decide +kernel
theorem dX7_become_87 : decode cX7_become 87 = .ok (.invokestatic 41, 3) := by decide +kernel
theorem dX7_become_90 : decode cX7_become 90 = .ok (.aload_n 1, 1) := by decide +kernel
theorem dX7_become_91 : decode cX7_become 91 = .ok (.getfield 33, 3) := by decide +kernel
theorem dX7_become_94 : decode cX7_become 94 = .ok (.iconst 0, 1) := by decide +kernel
theorem dX7_become_95 : decode cX7_become 95 = .ok (.aload_n 0, 1) := by decide +kernel
theorem dX7_become_96 : decode cX7_become 96 = .ok (.getfield 33, 3) := by decide +kernel
theorem dX7_become_99 : decode cX7_become 99 = .ok (.iconst 0, 1) := by decide +kernel
theorem dX7_become_100 : decode cX7_become 100 = .ok (.sipush 192, 3) := by decide +kernel
theorem dX7_become_103 : decode cX7_become 103 = .ok (.invokestatic 41, 3) := by decide +kernel
theorem dX7_become_106 : decode cX7_become 106 = .ok (.aload_n 0, 1) := by decide +kernel
theorem dX7_become_107 : decode cX7_become 107 = .ok (.aload_n 1, 1) := by decide +kernel
theorem dX7_become_108 : decode cX7_become 108 = .ok (.getfield 56, 3) := by decide +kernel
theorem dX7_become_111 : decode cX7_become 111 = .ok (.putfield 56, 3) := by decide +kernel
theorem dX7_become_114 : decode cX7_become 114 = .ok (.return_, 1) := by decide +kernel
theorem dX7_sumYarn_0 : decode cX7_sumYarn 0 = .ok (.iconst 0, 1) := by decide +kernel
theorem dX7_sumYarn_1 : decode cX7_sumYarn 1 = .ok (.istore_n 2, 1) := by decide +kernel
theorem dX7_sumYarn_2 : decode cX7_sumYarn 2 = .ok (.iconst 0, 1) := by decide +kernel
theorem dX7_sumYarn_3 : decode cX7_sumYarn 3 = .ok (.istore_n 3, 1) := by decide +kernel
theorem dX7_sumYarn_4 : decode cX7_sumYarn 4 = .ok (.iload_n 3, 1) := by decide +kernel
theorem dX7_sumYarn_5 : decode cX7_sumYarn 5 = .ok (.iload_n 1, 1) := by decide +kernel
theorem dX7_sumYarn_6 : decode cX7_sumYarn 6 = .ok (.if_icmp .ge 24, 3) := by decide +kernel
theorem dX7_sumYarn_9 : decode cX7_sumYarn 9 = .ok (.iload_n 3, 1) := by decide +kernel
theorem dX7_sumYarn_10 : decode cX7_sumYarn 10 = .ok (.bipush 8, 2) := by decide +kernel
theorem dX7_sumYarn_12 : decode cX7_sumYarn 12 = .ok (.if_icmp .ge 18, 3) := by decide +kernel
theorem dX7_sumYarn_15 : decode cX7_sumYarn 15 = .ok (.iload_n 2, 1) := by decide +kernel
theorem dX7_sumYarn_16 : decode cX7_sumYarn 16 = .ok (.aload_n 0, 1) := by decide +kernel
theorem dX7_sumYarn_17 : decode cX7_sumYarn 17 = .ok (.getfield 27, 3) := by decide +kernel
theorem dX7_sumYarn_20 : decode cX7_sumYarn 20 = .ok (.iload_n 3, 1) := by decide +kernel
theorem dX7_sumYarn_21 : decode cX7_sumYarn 21 = .ok (.iaload, 1) := by decide +kernel
theorem dX7_sumYarn_22 : decode cX7_sumYarn 22 = .ok (.iadd, 1) := by decide +kernel
theorem dX7_sumYarn_23 : decode cX7_sumYarn 23 = .ok (.istore_n 2, 1) := by decide +kernel
theorem dX7_sumYarn_24 : decode cX7_sumYarn 24 = .ok (.iinc 3 1, 3) := by decide +kernel
theorem dX7_sumYarn_27 : decode cX7_sumYarn 27 = .ok (.goto (-23), 3) := by decide +kernel
theorem dX7_sumYarn_30 : decode cX7_sumYarn 30 = .ok (.iload_n 2, 1) := by decide +kernel
theorem dX7_sumYarn_31 : decode cX7_sumYarn 31 = .ok (.ireturn, 1) := by decide +kernel
set_option maxRecDepth 20000 in
theorem ggX7_weaveOnce_X7_isOvertwisted : GoodIn wsX7_weaveOnce wsX7_isOvertwisted := goodIn_r _ [6, 1, 7, 8, 9, 10, 11, 12, 13, 66, 67, 68, 69, 70, 71, 72, 73, 74, 75, 76, 77, 78, 79, 80, 81, 82, 83] (by decide +kernel) (by decide +kernel)
set_option maxRecDepth 20000 in
theorem gX7_weaveOnce_X7_isOvertwisted : GoodIn wsX7_weaveOnce (wsV RX7 60 RX7 yX7_isOvertwisted wsX7_isOvertwisted) := goodIn_app (goodIn_of _ (by decide +kernel)) ggX7_weaveOnce_X7_isOvertwisted
set_option maxRecDepth 20000 in
theorem ggX7_weaveOnce_X7_findLacking : GoodIn wsX7_weaveOnce wsX7_findLacking := goodIn_r _ [17, 18, 19, 20, 21, 22, 23, 5, 24, 1, 25, 26, 27, 28, 8, 9, 10, 11, 12, 13, 29, 30, 31, 32, 33, 34, 35, 36, 37, 38, 39, 40, 41, 66, 67, 68, 69, 70, 71, 72, 73, 74, 75, 76, 77, 78, 79, 80, 81, 82, 83] (by decide +kernel) (by decide +kernel)
set_option maxRecDepth 20000 in
theorem gX7_weaveOnce_X7_findLacking : GoodIn wsX7_weaveOnce (wsV RX7 64 RX7 yX7_findLacking wsX7_findLacking) := goodIn_app (goodIn_of _ (by decide +kernel)) ggX7_weaveOnce_X7_findLacking
set_option maxRecDepth 20000 in
theorem ggX7_weaveOnce_X5_moveOf : GoodIn wsX7_weaveOnce wsX5_moveOf := goodIn_r _ [12, 13, 66, 67, 68, 69, 70, 71, 72, 73, 74] (by decide +kernel) (by decide +kernel)
set_option maxRecDepth 20000 in
theorem gX7_weaveOnce_X5_moveOf : GoodIn wsX7_weaveOnce (wsV RX7 71 RX5 yX5_moveOf wsX5_moveOf) := goodIn_app (goodIn_of _ (by decide +kernel)) ggX7_weaveOnce_X5_moveOf
set_option maxRecDepth 20000 in
theorem ggX7_weaveOnce_X7_turnCard : GoodIn wsX7_weaveOnce wsX7_turnCard := goodIn_r _ [45, 33, 7, 46, 47, 48, 20, 29, 30, 31, 5, 32, 34, 35, 36, 11, 37, 38, 39, 40, 41, 75, 76, 77, 78, 79, 80, 81, 82, 83, 66, 67, 68, 69, 70, 71, 72, 73, 74] (by decide +kernel) (by decide +kernel)
set_option maxRecDepth 20000 in
theorem gX7_weaveOnce_X7_turnCard : GoodIn wsX7_weaveOnce (wsV RX7 75 RX7 yX7_turnCard wsX7_turnCard) := goodIn_app (goodIn_of _ (by decide +kernel)) ggX7_weaveOnce_X7_turnCard
set_option maxRecDepth 20000 in
theorem ggX7_weaveOnce_X7_addRow : GoodIn wsX7_weaveOnce wsX7_addRow := goodIn_r _ [52, 48, 53, 54, 55, 56, 57, 58, 59, 60, 5, 61, 62, 63, 64, 65, 75, 76, 77, 78, 79, 80, 81, 82, 83] (by decide +kernel) (by decide +kernel)
set_option maxRecDepth 20000 in
theorem gX7_weaveOnce_X7_addRow : GoodIn wsX7_weaveOnce (wsV RX7 79 RX7 yX7_addRow wsX7_addRow) := goodIn_app (goodIn_of _ (by decide +kernel)) ggX7_weaveOnce_X7_addRow
theorem dX7_weaveOnce_0 : decode cX7_weaveOnce 0 = .ok (.aload_n 0, 1) := by decide +kernel
theorem dX7_weaveOnce_1 : decode cX7_weaveOnce 1 = .ok (.aload_n 1, 1) := by decide +kernel
theorem dX7_weaveOnce_2 : decode cX7_weaveOnce 2 = .ok (.iload_n 2, 1) := by decide +kernel
theorem dX7_weaveOnce_3 : decode cX7_weaveOnce 3 = .ok (.invokevirtual 60, 3) := by decide +kernel
theorem dX7_weaveOnce_6 : decode cX7_weaveOnce 6 = .ok (.ifCond .ne 13, 3) := by decide +kernel
theorem dX7_weaveOnce_9 : decode cX7_weaveOnce 9 = .ok (.aload_n 0, 1) := by decide +kernel
theorem dX7_weaveOnce_10 : decode cX7_weaveOnce 10 = .ok (.aload_n 1, 1) := by decide +kernel
theorem dX7_weaveOnce_11 : decode cX7_weaveOnce 11 = .ok (.iload_n 2, 1) := by decide +kernel
theorem dX7_weaveOnce_12 : decode cX7_weaveOnce 12 = .ok (.invokevirtual 64, 3) := by decide +kernel
theorem dX7_weaveOnce_15 : decode cX7_weaveOnce 15 = .ok (.iconst (-1), 1) := by decide +kernel
theorem dX7_weaveOnce_16 : decode cX7_weaveOnce 16 = .ok (.if_icmp .eq 5, 3) := by decide +kernel
theorem dX7_weaveOnce_19 : decode cX7_weaveOnce 19 = .ok (.iconst 0, 1) := by decide +kernel
theorem dX7_weaveOnce_20 : decode cX7_weaveOnce 20 = .ok (.ireturn, 1) := by decide +kernel
theorem dX7_weaveOnce_21 : decode cX7_weaveOnce 21 = .ok (.iconst 0, 1) := by decide +kernel
theorem dX7_weaveOnce_22 : decode cX7_weaveOnce 22 = .ok (.istore_n 3, 1) := by decide +kernel
theorem dX7_weaveOnce_23 : decode cX7_weaveOnce 23 = .ok (.iload_n 3, 1) := by decide +kernel
theorem dX7_weaveOnce_24 : decode cX7_weaveOnce 24 = .ok (.aload_n 1, 1) := by decide +kernel
theorem dX7_weaveOnce_25 : decode cX7_weaveOnce 25 = .ok (.getfield 68, 3) := by decide +kernel
theorem dX7_weaveOnce_28 : decode cX7_weaveOnce 28 = .ok (.if_icmp .ge 27, 3) := by decide +kernel
theorem dX7_weaveOnce_31 : decode cX7_weaveOnce 31 = .ok (.iload_n 3, 1) := by decide +kernel
theorem dX7_weaveOnce_32 : decode cX7_weaveOnce 32 = .ok (.bipush 8, 2) := by decide +kernel
theorem dX7_weaveOnce_34 : decode cX7_weaveOnce 34 = .ok (.if_icmp .ge 21, 3) := by decide +kernel
theorem dX7_weaveOnce_37 : decode cX7_weaveOnce 37 = .ok (.aload_n 0, 1) := by decide +kernel
theorem dX7_weaveOnce_38 : decode cX7_weaveOnce 38 = .ok (.aload_n 1, 1) := by decide +kernel
theorem dX7_weaveOnce_39 : decode cX7_weaveOnce 39 = .ok (.iload_n 3, 1) := by decide +kernel
theorem dX7_weaveOnce_40 : decode cX7_weaveOnce 40 = .ok (.aload_n 1, 1) := by decide +kernel
theorem dX7_weaveOnce_41 : decode cX7_weaveOnce 41 = .ok (.iload_n 3, 1) := by decide +kernel
theorem dX7_weaveOnce_42 : decode cX7_weaveOnce 42 = .ok (.iload_n 2, 1) := by decide +kernel
theorem dX7_weaveOnce_43 : decode cX7_weaveOnce 43 = .ok (.invokevirtual 71, 3) := by decide +kernel
theorem dX7_weaveOnce_46 : decode cX7_weaveOnce 46 = .ok (.invokevirtual 75, 3) := by decide +kernel
theorem dX7_weaveOnce_49 : decode cX7_weaveOnce 49 = .ok (.iinc 3 1, 3) := by decide +kernel
theorem dX7_weaveOnce_52 : decode cX7_weaveOnce 52 = .ok (.goto (-29), 3) := by decide +kernel
theorem dX7_weaveOnce_55 : decode cX7_weaveOnce 55 = .ok (.aload_n 0, 1) := by decide +kernel
theorem dX7_weaveOnce_56 : decode cX7_weaveOnce 56 = .ok (.invokevirtual 79, 3) := by decide +kernel
theorem dX7_weaveOnce_59 : decode cX7_weaveOnce 59 = .ok (.iconst 1, 1) := by decide +kernel
theorem dX7_weaveOnce_60 : decode cX7_weaveOnce 60 = .ok (.ireturn, 1) := by decide +kernel
set_option maxRecDepth 20000 in
theorem ggX7_isOvertwisted_X5_moveOf : GoodIn wsX7_isOvertwisted wsX5_moveOf := goodIn_r _ [7, 8, 9, 10, 11, 12, 13, 14, 15, 16, 17] (by decide +kernel) (by decide +kernel)
set_option maxRecDepth 20000 in
theorem gX7_isOvertwisted_X5_moveOf : GoodIn wsX7_isOvertwisted (wsV RX7 71 RX5 yX5_moveOf wsX5_moveOf) := goodIn_app (goodIn_of _ (by decide +kernel)) ggX7_isOvertwisted_X5_moveOf
theorem dX7_isOvertwisted_0 : decode cX7_isOvertwisted 0 = .ok (.iconst 0, 1) := by decide +kernel
theorem dX7_isOvertwisted_1 : decode cX7_isOvertwisted 1 = .ok (.istore_n 3, 1) := by decide +kernel
theorem dX7_isOvertwisted_2 : decode cX7_isOvertwisted 2 = .ok (.iload_n 3, 1) := by decide +kernel
theorem dX7_isOvertwisted_3 : decode cX7_isOvertwisted 3 = .ok (.aload_n 1, 1) := by decide +kernel
theorem dX7_isOvertwisted_4 : decode cX7_isOvertwisted 4 = .ok (.getfield 68, 3) := by decide +kernel
theorem dX7_isOvertwisted_7 : decode cX7_isOvertwisted 7 = .ok (.if_icmp .ge 59, 3) := by decide +kernel
theorem dX7_isOvertwisted_10 : decode cX7_isOvertwisted 10 = .ok (.iload_n 3, 1) := by decide +kernel
theorem dX7_isOvertwisted_11 : decode cX7_isOvertwisted 11 = .ok (.bipush 8, 2) := by decide +kernel
theorem dX7_isOvertwisted_13 : decode cX7_isOvertwisted 13 = .ok (.if_icmp .ge 53, 3) := by decide +kernel
theorem dX7_isOvertwisted_16 : decode cX7_isOvertwisted 16 = .ok (.aload_n 1, 1) := by decide +kernel
theorem dX7_isOvertwisted_17 : decode cX7_isOvertwisted 17 = .ok (.iload_n 3, 1) := by decide +kernel
theorem dX7_isOvertwisted_18 : decode cX7_isOvertwisted 18 = .ok (.iload_n 2, 1) := by decide +kernel
theorem dX7_isOvertwisted_19 : decode cX7_isOvertwisted 19 = .ok (.invokevirtual 71, 3) := by decide +kernel
theorem dX7_isOvertwisted_22 : decode cX7_isOvertwisted 22 = .ok (.istore 4, 2) := by decide +kernel
theorem dX7_isOvertwisted_24 : decode cX7_isOvertwisted 24 = .ok (.iload 4, 2) := by decide +kernel
theorem dX7_isOvertwisted_26 : decode cX7_isOvertwisted 26 = .ok (.iconst 1, 1) := by decide +kernel
theorem dX7_isOvertwisted_27 : decode cX7_isOvertwisted 27 = .ok (.if_icmp .ne 14, 3) := by decide +kernel
theorem dX7_isOvertwisted_30 : decode cX7_isOvertwisted 30 = .ok (.aload_n 0, 1) := by decide +kernel
theorem dX7_isOvertwisted_31 : decode cX7_isOvertwisted 31 = .ok (.getfield 18, 3) := by decide +kernel
theorem dX7_isOvertwisted_34 : decode cX7_isOvertwisted 34 = .ok (.iload_n 3, 1) := by decide +kernel
theorem dX7_isOvertwisted_35 : decode cX7_isOvertwisted 35 = .ok (.iaload, 1) := by decide +kernel
theorem dX7_isOvertwisted_36 : decode cX7_isOvertwisted 36 = .ok (.bipush 99, 2) := by decide +kernel
theorem dX7_isOvertwisted_38 : decode cX7_isOvertwisted 38 = .ok (.if_icmp .ge 20, 3) := by decide +kernel
theorem dX7_isOvertwisted_41 : decode cX7_isOvertwisted 41 = .ok (.iload 4, 2) := by decide +kernel
theorem dX7_isOvertwisted_43 : decode cX7_isOvertwisted 43 = .ok (.iconst 2, 1) := by decide +kernel
theorem dX7_isOvertwisted_44 : decode cX7_isOvertwisted 44 = .ok (.if_icmp .ne 16, 3) := by decide +kernel
theorem dX7_isOvertwisted_47 : decode cX7_isOvertwisted 47 = .ok (.aload_n 0, 1) := by decide +kernel
theorem dX7_isOvertwisted_48 : decode cX7_isOvertwisted 48 = .ok (.getfield 18, 3) := by decide +kernel
theorem dX7_isOvertwisted_51 : decode cX7_isOvertwisted 51 = .ok (.iload_n 3, 1) := by decide +kernel
theorem dX7_isOvertwisted_52 : decode cX7_isOvertwisted 52 = .ok (.iaload, 1) := by decide +kernel
theorem dX7_isOvertwisted_53 : decode cX7_isOvertwisted 53 = .ok (.bipush (-99), 2) := by decide +kernel
theorem dX7_isOvertwisted_55 : decode cX7_isOvertwisted 55 = .ok (.if_icmp .gt 5, 3) := by decide +kernel
theorem dX7_isOvertwisted_58 : decode cX7_isOvertwisted 58 = .ok (.iconst 1, 1) := by decide +kernel
theorem dX7_isOvertwisted_59 : decode cX7_isOvertwisted 59 = .ok (.ireturn, 1) := by decide +kernel
theorem dX7_isOvertwisted_60 : decode cX7_isOvertwisted 60 = .ok (.iinc 3 1, 3) := by decide +kernel
theorem dX7_isOvertwisted_63 : decode cX7_isOvertwisted 63 = .ok (.goto (-61), 3) := by decide +kernel
theorem dX7_isOvertwisted_66 : decode cX7_isOvertwisted 66 = .ok (.iconst 0, 1) := by decide +kernel
theorem dX7_isOvertwisted_67 : decode cX7_isOvertwisted 67 = .ok (.ireturn, 1) := by decide +kernel
set_option maxRecDepth 20000 in
theorem ggX7_findLacking_X7_countWanted : GoodIn wsX7_findLacking wsX7_countWanted := goodIn_r _ [8, 2, 9, 10, 11, 12, 13, 14, 15, 16, 17, 18, 19, 20, 21, 22, 7, 23, 24, 25, 26, 27, 28, 29, 30, 31, 32, 42, 43, 44, 45, 46, 47, 48, 49, 50, 33, 34, 35, 36, 37, 38, 39, 40, 41] (by decide +kernel) (by decide +kernel)
set_option maxRecDepth 20000 in
theorem gX7_findLacking_X7_countWanted : GoodIn wsX7_findLacking (wsV RX7 82 RX7 yX7_countWanted wsX7_countWanted) := goodIn_app (goodIn_of _ (by decide +kernel)) ggX7_findLacking_X7_countWanted
theorem dX7_findLacking_0 : decode cX7_findLacking 0 = .ok (.aload_n 0, 1) := by decide +kernel
theorem dX7_findLacking_1 : decode cX7_findLacking 1 = .ok (.aload_n 1, 1) := by decide +kernel
theorem dX7_findLacking_2 : decode cX7_findLacking 2 = .ok (.iload_n 2, 1) := by decide +kernel
theorem dX7_findLacking_3 : decode cX7_findLacking 3 = .ok (.invokevirtual 82, 3) := by decide +kernel
theorem dX7_findLacking_6 : decode cX7_findLacking 6 = .ok (.iconst 0, 1) := by decide +kernel
theorem dX7_findLacking_7 : decode cX7_findLacking 7 = .ok (.istore_n 3, 1) := by decide +kernel
theorem dX7_findLacking_8 : decode cX7_findLacking 8 = .ok (.iload_n 3, 1) := by decide +kernel
theorem dX7_findLacking_9 : decode cX7_findLacking 9 = .ok (.aload_n 1, 1) := by decide +kernel
theorem dX7_findLacking_10 : decode cX7_findLacking 10 = .ok (.getfield 86, 3) := by decide +kernel
theorem dX7_findLacking_13 : decode cX7_findLacking 13 = .ok (.if_icmp .ge 32, 3) := by decide +kernel
theorem dX7_findLacking_16 : decode cX7_findLacking 16 = .ok (.iload_n 3, 1) := by decide +kernel
theorem dX7_findLacking_17 : decode cX7_findLacking 17 = .ok (.bipush 8, 2) := by decide +kernel
theorem dX7_findLacking_19 : decode cX7_findLacking 19 = .ok (.if_icmp .ge 26, 3) := by decide +kernel
theorem dX7_findLacking_22 : decode cX7_findLacking 22 = .ok (.aload_n 0, 1) := by decide +kernel
theorem dX7_findLacking_23 : decode cX7_findLacking 23 = .ok (.getfield 30, 3) := by decide +kernel
theorem dX7_findLacking_26 : decode cX7_findLacking 26 = .ok (.iload_n 3, 1) := by decide +kernel
theorem dX7_findLacking_27 : decode cX7_findLacking 27 = .ok (.iaload, 1) := by decide +kernel
theorem dX7_findLacking_28 : decode cX7_findLacking 28 = .ok (.aload_n 0, 1) := by decide +kernel
theorem dX7_findLacking_29 : decode cX7_findLacking 29 = .ok (.getfield 27, 3) := by decide +kernel
theorem dX7_findLacking_32 : decode cX7_findLacking 32 = .ok (.iload_n 3, 1) := by decide +kernel
theorem dX7_findLacking_33 : decode cX7_findLacking 33 = .ok (.iaload, 1) := by decide +kernel
theorem dX7_findLacking_34 : decode cX7_findLacking 34 = .ok (.if_icmp .le 5, 3) := by decide +kernel
theorem dX7_findLacking_37 : decode cX7_findLacking 37 = .ok (.iload_n 3, 1) := by decide +kernel
theorem dX7_findLacking_38 : decode cX7_findLacking 38 = .ok (.ireturn, 1) := by decide +kernel
theorem dX7_findLacking_39 : decode cX7_findLacking 39 = .ok (.iinc 3 1, 3) := by decide +kernel
theorem dX7_findLacking_42 : decode cX7_findLacking 42 = .ok (.goto (-34), 3) := by decide +kernel
theorem dX7_findLacking_45 : decode cX7_findLacking 45 = .ok (.iconst (-1), 1) := by decide +kernel
theorem dX7_findLacking_46 : decode cX7_findLacking 46 = .ok (.ireturn, 1) := by decide +kernel
set_option maxRecDepth 20000 in
theorem ggX7_countWanted_J7_fill_53178 : GoodIn wsX7_countWanted wsJ7_fill_53178 := goodIn_r _ [6] (by decide +kernel) (by decide +kernel)
set_option maxRecDepth 20000 in
theorem gX7_countWanted_J7_fill_53178 : GoodIn wsX7_countWanted (va_wsS RX7 50 yJ7_fill_53178 wsJ7_fill_53178) := goodIn_app (goodIn_of _ (by decide +kernel)) ggX7_countWanted_J7_fill_53178
set_option maxRecDepth 20000 in
theorem ggX7_countWanted_X5_moveOf : GoodIn wsX7_countWanted wsX5_moveOf := goodIn_r _ [11, 12, 36, 37, 38, 39, 40, 41, 42, 43, 44] (by decide +kernel) (by decide +kernel)
set_option maxRecDepth 20000 in
theorem gX7_countWanted_X5_moveOf : GoodIn wsX7_countWanted (wsV RX7 71 RX5 yX5_moveOf wsX5_moveOf) := goodIn_app (goodIn_of _ (by decide +kernel)) ggX7_countWanted_X5_moveOf
set_option maxRecDepth 20000 in
theorem ggX7_countWanted_X7_holeShownBy : GoodIn wsX7_countWanted wsX7_holeShownBy := goodIn_r _ [17, 18, 27, 28, 29, 30, 31, 32, 33, 34, 35] (by decide +kernel) (by decide +kernel)
set_option maxRecDepth 20000 in
theorem gX7_countWanted_X7_holeShownBy : GoodIn wsX7_countWanted (wsV RX7 89 RX7 yX7_holeShownBy wsX7_holeShownBy) := goodIn_app (goodIn_of _ (by decide +kernel)) ggX7_countWanted_X7_holeShownBy
set_option maxRecDepth 20000 in
theorem ggX7_countWanted_X5_colourAt : GoodIn wsX7_countWanted wsX5_colourAt := goodIn_r _ [22, 23, 24, 25, 10, 26, 36, 37, 38, 39, 40, 41, 42, 43, 44] (by decide +kernel) (by decide +kernel)
set_option maxRecDepth 20000 in
theorem gX7_countWanted_X5_colourAt : GoodIn wsX7_countWanted (wsV RX7 92 RX5 yX5_colourAt wsX5_colourAt) := goodIn_app (goodIn_of _ (by decide +kernel)) ggX7_countWanted_X5_colourAt
theorem dX7_countWanted_0 : decode cX7_countWanted 0 = .ok (.aload_n 0, 1) := by decide +kernel
theorem dX7_countWanted_1 : decode cX7_countWanted 1 = .ok (.getfield 30, 3) := by decide +kernel
theorem dX7_countWanted_4 : decode cX7_countWanted 4 = .ok (.iconst 0, 1) := by decide +kernel
theorem dX7_countWanted_5 : decode cX7_countWanted 5 = .ok (.invokestatic 50, 3) := by decide +kernel
theorem dX7_countWanted_8 : decode cX7_countWanted 8 = .ok (.iconst 0, 1) := by decide +kernel
theorem dX7_countWanted_9 : decode cX7_countWanted 9 = .ok (.istore_n 3, 1) := by decide +kernel
theorem dX7_countWanted_10 : decode cX7_countWanted 10 = .ok (.iload_n 3, 1) := by decide +kernel
theorem dX7_countWanted_11 : decode cX7_countWanted 11 = .ok (.aload_n 1, 1) := by decide +kernel
theorem dX7_countWanted_12 : decode cX7_countWanted 12 = .ok (.getfield 68, 3) := by decide +kernel
theorem dX7_countWanted_15 : decode cX7_countWanted 15 = .ok (.if_icmp .ge 65, 3) := by decide +kernel
theorem dX7_countWanted_18 : decode cX7_countWanted 18 = .ok (.iload_n 3, 1) := by decide +kernel
theorem dX7_countWanted_19 : decode cX7_countWanted 19 = .ok (.bipush 8, 2) := by decide +kernel
theorem dX7_countWanted_21 : decode cX7_countWanted 21 = .ok (.if_icmp .ge 59, 3) := by decide +kernel
theorem dX7_countWanted_24 : decode cX7_countWanted 24 = .ok (.aload_n 1, 1) := by decide +kernel
theorem dX7_countWanted_25 : decode cX7_countWanted 25 = .ok (.iload_n 3, 1) := by decide +kernel
theorem dX7_countWanted_26 : decode cX7_countWanted 26 = .ok (.iload_n 2, 1) := by decide +kernel
theorem dX7_countWanted_27 : decode cX7_countWanted 27 = .ok (.invokevirtual 71, 3) := by decide +kernel
theorem dX7_countWanted_30 : decode cX7_countWanted 30 = .ok (.istore 4, 2) := by decide +kernel
theorem dX7_countWanted_32 : decode cX7_countWanted 32 = .ok (.aload_n 1, 1) := by decide +kernel
theorem dX7_countWanted_33 : decode cX7_countWanted 33 = .ok (.iload_n 3, 1) := by decide +kernel
theorem dX7_countWanted_34 : decode cX7_countWanted 34 = .ok (.aload_n 0, 1) := by decide +kernel
theorem dX7_countWanted_35 : decode cX7_countWanted 35 = .ok (.iload_n 3, 1) := by decide +kernel
theorem dX7_countWanted_36 : decode cX7_countWanted 36 = .ok (.iload 4, 2) := by decide +kernel
theorem dX7_countWanted_38 : decode cX7_countWanted 38 = .ok (.invokevirtual 89, 3) := by decide +kernel
theorem dX7_countWanted_41 : decode cX7_countWanted 41 = .ok (.invokevirtual 92, 3) := by decide +kernel
theorem dX7_countWanted_44 : decode cX7_countWanted 44 = .ok (.istore 5, 2) := by decide +kernel
theorem dX7_countWanted_46 : decode cX7_countWanted 46 = .ok (.iload 4, 2) := by decide +kernel
theorem dX7_countWanted_48 : decode cX7_countWanted 48 = .ok (.ifCond .eq 26, 3) := by decide +kernel
theorem dX7_countWanted_51 : decode cX7_countWanted 51 = .ok (.iload 5, 2) := by decide +kernel
theorem dX7_countWanted_53 : decode cX7_countWanted 53 = .ok (.ifCond .lt 21, 3) := by decide +kernel
theorem dX7_countWanted_56 : decode cX7_countWanted 56 = .ok (.iload 5, 2) := by decide +kernel
theorem dX7_countWanted_58 : decode cX7_countWanted 58 = .ok (.bipush 8, 2) := by decide +kernel
theorem dX7_countWanted_60 : decode cX7_countWanted 60 = .ok (.if_icmp .ge 14, 3) := by decide +kernel
theorem dX7_countWanted_63 : decode cX7_countWanted 63 = .ok (.aload_n 0, 1) := by decide +kernel
theorem dX7_countWanted_64 : decode cX7_countWanted 64 = .ok (.getfield 30, 3) := by decide +kernel
theorem dX7_countWanted_67 : decode cX7_countWanted 67 = .ok (.iload 5, 2) := by decide +kernel
theorem dX7_countWanted_69 : decode cX7_countWanted 69 = .ok (.dup2, 1) := by decide +kernel
theorem dX7_countWanted_70 : decode cX7_countWanted 70 = .ok (.iaload, 1) := by decide +kernel
theorem dX7_countWanted_71 : decode cX7_countWanted 71 = .ok (.iconst 1, 1) := by decide +kernel
theorem dX7_countWanted_72 : decode cX7_countWanted 72 = .ok (.iadd, 1) := by decide +kernel
theorem dX7_countWanted_73 : decode cX7_countWanted 73 = .ok (.iastore, 1) := by decide +kernel
theorem dX7_countWanted_74 : decode cX7_countWanted 74 = .ok (.iinc 3 1, 3) := by decide +kernel
theorem dX7_countWanted_77 : decode cX7_countWanted 77 = .ok (.goto (-67), 3) := by decide +kernel
theorem dX7_countWanted_80 : decode cX7_countWanted 80 = .ok (.return_, 1) := by decide +kernel
theorem dX7_holeShownBy_0 : decode cX7_holeShownBy 0 = .ok (.aload_n 0, 1) := by decide +kernel
theorem dX7_holeShownBy_1 : decode cX7_holeShownBy 1 = .ok (.getfield 15, 3) := by decide +kernel
theorem dX7_holeShownBy_4 : decode cX7_holeShownBy 4 = .ok (.iload_n 1, 1) := by decide +kernel
theorem dX7_holeShownBy_5 : decode cX7_holeShownBy 5 = .ok (.bipush 7, 2) := by decide +kernel
theorem dX7_holeShownBy_7 : decode cX7_holeShownBy 7 = .ok (.iand, 1) := by decide +kernel
theorem dX7_holeShownBy_8 : decode cX7_holeShownBy 8 = .ok (.iaload, 1) := by decide +kernel
theorem dX7_holeShownBy_9 : decode cX7_holeShownBy 9 = .ok (.istore_n 3, 1) := by decide +kernel
theorem dX7_holeShownBy_10 : decode cX7_holeShownBy 10 = .ok (.iload_n 2, 1) := by decide +kernel
theorem dX7_holeShownBy_11 : decode cX7_holeShownBy 11 = .ok (.iconst 2, 1) := by decide +kernel
theorem dX7_holeShownBy_12 : decode cX7_holeShownBy 12 = .ok (.if_icmp .ne 11, 3) := by decide +kernel
theorem dX7_holeShownBy_15 : decode cX7_holeShownBy 15 = .ok (.iload_n 3, 1) := by decide +kernel
theorem dX7_holeShownBy_16 : decode cX7_holeShownBy 16 = .ok (.iconst 1, 1) := by decide +kernel
theorem dX7_holeShownBy_17 : decode cX7_holeShownBy 17 = .ok (.isub, 1) := by decide +kernel
theorem dX7_holeShownBy_18 : decode cX7_holeShownBy 18 = .ok (.iconst 3, 1) := by decide +kernel
theorem dX7_holeShownBy_19 : decode cX7_holeShownBy 19 = .ok (.iand, 1) := by decide +kernel
theorem dX7_holeShownBy_20 : decode cX7_holeShownBy 20 = .ok (.goto 4, 3) := by decide +kernel
theorem dX7_holeShownBy_23 : decode cX7_holeShownBy 23 = .ok (.iload_n 3, 1) := by decide +kernel
theorem dX7_holeShownBy_24 : decode cX7_holeShownBy 24 = .ok (.ireturn, 1) := by decide +kernel
set_option maxRecDepth 20000 in
theorem ggX7_turnCard_X7_holeShownBy : GoodIn wsX7_turnCard wsX7_holeShownBy := goodIn_r _ [11, 1, 21, 22, 23, 24, 25, 26, 27, 28, 29] (by decide +kernel) (by decide +kernel)
set_option maxRecDepth 20000 in
theorem gX7_turnCard_X7_holeShownBy : GoodIn wsX7_turnCard (wsV RX7 89 RX7 yX7_holeShownBy wsX7_holeShownBy) := goodIn_app (goodIn_of _ (by decide +kernel)) ggX7_turnCard_X7_holeShownBy
set_option maxRecDepth 20000 in
theorem ggX7_turnCard_X5_colourAt : GoodIn wsX7_turnCard wsX5_colourAt := goodIn_r _ [16, 17, 18, 19, 15, 20, 30, 31, 32, 33, 34, 35, 36, 37, 38] (by decide +kernel) (by decide +kernel)
set_option maxRecDepth 20000 in
theorem gX7_turnCard_X5_colourAt : GoodIn wsX7_turnCard (wsV RX7 92 RX5 yX5_colourAt wsX5_colourAt) := goodIn_app (goodIn_of _ (by decide +kernel)) ggX7_turnCard_X5_colourAt
theorem dX7_turnCard_0 : decode cX7_turnCard 0 = .ok (.iload_n 3, 1) := by decide +kernel
theorem dX7_turnCard_1 : decode cX7_turnCard 1 = .ok (.ifCond .eq 13, 3) := by decide +kernel
theorem dX7_turnCard_4 : decode cX7_turnCard 4 = .ok (.iload_n 2, 1) := by decide +kernel
theorem dX7_turnCard_5 : decode cX7_turnCard 5 = .ok (.ifCond .lt 9, 3) := by decide +kernel
theorem dX7_turnCard_8 : decode cX7_turnCard 8 = .ok (.iload_n 2, 1) := by decide +kernel
theorem dX7_turnCard_9 : decode cX7_turnCard 9 = .ok (.bipush 8, 2) := by decide +kernel
theorem dX7_turnCard_11 : decode cX7_turnCard 11 = .ok (.if_icmp .lt 4, 3) := by decide +kernel
theorem dX7_turnCard_14 : decode cX7_turnCard 14 = .ok (.return_, 1) := by decide +kernel
theorem dX7_turnCard_15 : decode cX7_turnCard 15 = .ok (.aload_n 0, 1) := by decide +kernel
theorem dX7_turnCard_16 : decode cX7_turnCard 16 = .ok (.iload_n 2, 1) := by decide +kernel
theorem dX7_turnCard_17 : decode cX7_turnCard 17 = .ok (.iload_n 3, 1) := by decide +kernel
theorem dX7_turnCard_18 : decode cX7_turnCard 18 = .ok (.invokevirtual 89, 3) := by decide +kernel
theorem dX7_turnCard_21 : decode cX7_turnCard 21 = .ok (.istore 4, 2) := by decide +kernel
theorem dX7_turnCard_23 : decode cX7_turnCard 23 = .ok (.aload_n 1, 1) := by decide +kernel
theorem dX7_turnCard_24 : decode cX7_turnCard 24 = .ok (.iload_n 2, 1) := by decide +kernel
theorem dX7_turnCard_25 : decode cX7_turnCard 25 = .ok (.iload 4, 2) := by decide +kernel
theorem dX7_turnCard_27 : decode cX7_turnCard 27 = .ok (.invokevirtual 92, 3) := by decide +kernel
theorem dX7_turnCard_30 : decode cX7_turnCard 30 = .ok (.istore 5, 2) := by decide +kernel
theorem dX7_turnCard_32 : decode cX7_turnCard 32 = .ok (.iload_n 3, 1) := by decide +kernel
theorem dX7_turnCard_33 : decode cX7_turnCard 33 = .ok (.iconst 1, 1) := by decide +kernel
theorem dX7_turnCard_34 : decode cX7_turnCard 34 = .ok (.if_icmp .ne 40, 3) := by decide +kernel
theorem dX7_turnCard_37 : decode cX7_turnCard 37 = .ok (.aload_n 0, 1) := by decide +kernel
theorem dX7_turnCard_38 : decode cX7_turnCard 38 = .ok (.getfield 15, 3) := by decide +kernel
theorem dX7_turnCard_41 : decode cX7_turnCard 41 = .ok (.iload_n 2, 1) := by decide +kernel
theorem dX7_turnCard_42 : decode cX7_turnCard 42 = .ok (.iload 4, 2) := by decide +kernel
theorem dX7_turnCard_44 : decode cX7_turnCard 44 = .ok (.iconst 1, 1) := by decide +kernel
theorem dX7_turnCard_45 : decode cX7_turnCard 45 = .ok (.iadd, 1) := by decide +kernel
theorem dX7_turnCard_46 : decode cX7_turnCard 46 = .ok (.iconst 3, 1) := by decide +kernel
theorem dX7_turnCard_47 : decode cX7_turnCard 47 = .ok (.iand, 1) := by decide +kernel
theorem dX7_turnCard_48 : decode cX7_turnCard 48 = .ok (.iastore, 1) := by decide +kernel
theorem dX7_turnCard_49 : decode cX7_turnCard 49 = .ok (.aload_n 0, 1) := by decide +kernel
theorem dX7_turnCard_50 : decode cX7_turnCard 50 = .ok (.getfield 18, 3) := by decide +kernel
theorem dX7_turnCard_53 : decode cX7_turnCard 53 = .ok (.iload_n 2, 1) := by decide +kernel
theorem dX7_turnCard_54 : decode cX7_turnCard 54 = .ok (.dup2, 1) := by decide +kernel
theorem dX7_turnCard_55 : decode cX7_turnCard 55 = .ok (.iaload, 1) := by decide +kernel
theorem dX7_turnCard_56 : decode cX7_turnCard 56 = .ok (.iconst 1, 1) := by decide +kernel
theorem dX7_turnCard_57 : decode cX7_turnCard 57 = .ok (.iadd, 1) := by decide +kernel
theorem dX7_turnCard_58 : decode cX7_turnCard 58 = .ok (.iastore, 1) := by decide +kernel
theorem dX7_turnCard_59 : decode cX7_turnCard 59 = .ok (.aload_n 0, 1) := by decide +kernel
theorem dX7_turnCard_60 : decode cX7_turnCard 60 = .ok (.getfield 24, 3) := by decide +kernel
theorem dX7_turnCard_63 : decode cX7_turnCard 63 = .ok (.iload_n 2, 1) := by decide +kernel
theorem dX7_turnCard_64 : decode cX7_turnCard 64 = .ok (.aload_n 0, 1) := by decide +kernel
theorem dX7_turnCard_65 : decode cX7_turnCard 65 = .ok (.getfield 9, 3) := by decide +kernel
theorem dX7_turnCard_68 : decode cX7_turnCard 68 = .ok (.iload_n 2, 1) := by decide +kernel
theorem dX7_turnCard_69 : decode cX7_turnCard 69 = .ok (.iaload, 1) := by decide +kernel
theorem dX7_turnCard_70 : decode cX7_turnCard 70 = .ok (.iastore, 1) := by decide +kernel
theorem dX7_turnCard_71 : decode cX7_turnCard 71 = .ok (.goto 35, 3) := by decide +kernel
theorem dX7_turnCard_74 : decode cX7_turnCard 74 = .ok (.aload_n 0, 1) := by decide +kernel
theorem dX7_turnCard_75 : decode cX7_turnCard 75 = .ok (.getfield 15, 3) := by decide +kernel
theorem dX7_turnCard_78 : decode cX7_turnCard 78 = .ok (.iload_n 2, 1) := by decide +kernel
theorem dX7_turnCard_79 : decode cX7_turnCard 79 = .ok (.iload 4, 2) := by decide +kernel
theorem dX7_turnCard_81 : decode cX7_turnCard 81 = .ok (.iastore, 1) := by decide +kernel
theorem dX7_turnCard_82 : decode cX7_turnCard 82 = .ok (.aload_n 0, 1) := by decide +kernel
theorem dX7_turnCard_83 : decode cX7_turnCard 83 = .ok (.getfield 18, 3) := by decide +kernel
theorem dX7_turnCard_86 : decode cX7_turnCard 86 = .ok (.iload_n 2, 1) := by decide +kernel
theorem dX7_turnCard_87 : decode cX7_turnCard 87 = .ok (.dup2, 1) := by decide +kernel
theorem dX7_turnCard_88 : decode cX7_turnCard 88 = .ok (.iaload, 1) := by decide +kernel
theorem dX7_turnCard_89 : decode cX7_turnCard 89 = .ok (.iconst 1, 1) := by decide +kernel
theorem dX7_turnCard_90 : decode cX7_turnCard 90 = .ok (.isub, 1) := by decide +kernel
theorem dX7_turnCard_91 : decode cX7_turnCard 91 = .ok (.iastore, 1) := by decide +kernel
theorem dX7_turnCard_92 : decode cX7_turnCard 92 = .ok (.aload_n 0, 1) := by decide +kernel
theorem dX7_turnCard_93 : decode cX7_turnCard 93 = .ok (.getfield 24, 3) := by decide +kernel
theorem dX7_turnCard_96 : decode cX7_turnCard 96 = .ok (.iload_n 2, 1) := by decide +kernel
theorem dX7_turnCard_97 : decode cX7_turnCard 97 = .ok (.iconst 1, 1) := by decide +kernel
theorem dX7_turnCard_98 : decode cX7_turnCard 98 = .ok (.aload_n 0, 1) := by decide +kernel
theorem dX7_turnCard_99 : decode cX7_turnCard 99 = .ok (.getfield 9, 3) := by decide +kernel
theorem dX7_turnCard_102 : decode cX7_turnCard 102 = .ok (.iload_n 2, 1) := by decide +kernel
theorem dX7_turnCard_103 : decode cX7_turnCard 103 = .ok (.iaload, 1) := by decide +kernel
theorem dX7_turnCard_104 : decode cX7_turnCard 104 = .ok (.isub, 1) := by decide +kernel
theorem dX7_turnCard_105 : decode cX7_turnCard 105 = .ok (.iastore, 1) := by decide +kernel
theorem dX7_turnCard_106 : decode cX7_turnCard 106 = .ok (.aload_n 0, 1) := by decide +kernel
theorem dX7_turnCard_107 : decode cX7_turnCard 107 = .ok (.getfield 21, 3) := by decide +kernel
theorem dX7_turnCard_110 : decode cX7_turnCard 110 = .ok (.iload_n 2, 1) := by decide +kernel
theorem dX7_turnCard_111 : decode cX7_turnCard 111 = .ok (.iload 5, 2) := by decide +kernel
theorem dX7_turnCard_113 : decode cX7_turnCard 113 = .ok (.iastore, 1) := by decide +kernel
theorem dX7_turnCard_114 : decode cX7_turnCard 114 = .ok (.iload 5, 2) := by decide +kernel
theorem dX7_turnCard_116 : decode cX7_turnCard 116 = .ok (.ifCond .lt 21, 3) := by decide +kernel
theorem dX7_turnCard_119 : decode cX7_turnCard 119 = .ok (.iload 5, 2) := by decide +kernel
theorem dX7_turnCard_121 : decode cX7_turnCard 121 = .ok (.bipush 8, 2) := by decide +kernel
theorem dX7_turnCard_123 : decode cX7_turnCard 123 = .ok (.if_icmp .ge 14, 3) := by decide +kernel
theorem dX7_turnCard_126 : decode cX7_turnCard 126 = .ok (.aload_n 0, 1) := by decide +kernel
theorem dX7_turnCard_127 : decode cX7_turnCard 127 = .ok (.getfield 27, 3) := by decide +kernel
theorem dX7_turnCard_130 : decode cX7_turnCard 130 = .ok (.iload 5, 2) := by decide +kernel
theorem dX7_turnCard_132 : decode cX7_turnCard 132 = .ok (.dup2, 1) := by decide +kernel
theorem dX7_turnCard_133 : decode cX7_turnCard 133 = .ok (.iaload, 1) := by decide +kernel
theorem dX7_turnCard_134 : decode cX7_turnCard 134 = .ok (.iconst 1, 1) := by decide +kernel
theorem dX7_turnCard_135 : decode cX7_turnCard 135 = .ok (.isub, 1) := by decide +kernel
theorem dX7_turnCard_136 : decode cX7_turnCard 136 = .ok (.iastore, 1) := by decide +kernel
theorem dX7_turnCard_137 : decode cX7_turnCard 137 = .ok (.return_, 1) := by decide +kernel
set_option maxRecDepth 20000 in
theorem ggX7_addRow_X7_slotOf : GoodIn wsX7_addRow wsX7_slotOf := goodIn_r _ [11, 12, 13, 14, 15] (by decide +kernel) (by decide +kernel)
set_option maxRecDepth 20000 in
theorem gX7_addRow_X7_slotOf : GoodIn wsX7_addRow (va_wsS RX7 95 yX7_slotOf wsX7_slotOf) := goodIn_app (goodIn_of _ (by decide +kernel)) ggX7_addRow_X7_slotOf
theorem dX7_addRow_0 : decode cX7_addRow 0 = .ok (.aload_n 0, 1) := by decide +kernel
theorem dX7_addRow_1 : decode cX7_addRow 1 = .ok (.getfield 21, 3) := by decide +kernel
theorem dX7_addRow_4 : decode cX7_addRow 4 = .ok (.iconst 0, 1) := by decide +kernel
theorem dX7_addRow_5 : decode cX7_addRow 5 = .ok (.aload_n 0, 1) := by decide +kernel
theorem dX7_addRow_6 : decode cX7_addRow 6 = .ok (.getfield 33, 3) := by decide +kernel
theorem dX7_addRow_9 : decode cX7_addRow 9 = .ok (.aload_n 0, 1) := by decide +kernel
theorem dX7_addRow_10 : decode cX7_addRow 10 = .ok (.getfield 56, 3) := by decide +kernel
theorem dX7_addRow_13 : decode cX7_addRow 13 = .ok (.invokestatic 95, 3) := by decide +kernel
theorem dX7_addRow_16 : decode cX7_addRow 16 = .ok (.bipush 8, 2) := by decide +kernel
theorem dX7_addRow_18 : decode cX7_addRow 18 = .ok (.invokestatic 41, 3) := by decide +kernel
theorem dX7_addRow_21 : decode cX7_addRow 21 = .ok (.aload_n 0, 1) := by decide +kernel
theorem dX7_addRow_22 : decode cX7_addRow 22 = .ok (.dup, 1) := by decide +kernel
theorem dX7_addRow_23 : decode cX7_addRow 23 = .ok (.getfield 56, 3) := by decide +kernel
theorem dX7_addRow_26 : decode cX7_addRow 26 = .ok (.iconst 1, 1) := by decide +kernel
theorem dX7_addRow_27 : decode cX7_addRow 27 = .ok (.iadd, 1) := by decide +kernel
theorem dX7_addRow_28 : decode cX7_addRow 28 = .ok (.putfield 56, 3) := by decide +kernel
theorem dX7_addRow_31 : decode cX7_addRow 31 = .ok (.return_, 1) := by decide +kernel
set_option maxRecDepth 20000 in
theorem ggX7_slotOf_J9_floorMod_7cf53 : GoodIn wsX7_slotOf wsJ9_floorMod_7cf53 := goodIn_r _ [4] (by decide +kernel) (by decide +kernel)
set_option maxRecDepth 20000 in
theorem gX7_slotOf_J9_floorMod_7cf53 : GoodIn wsX7_slotOf (va_wsS RX7 99 yJ9_floorMod_7cf53 wsJ9_floorMod_7cf53) := goodIn_app (goodIn_of _ (by decide +kernel)) ggX7_slotOf_J9_floorMod_7cf53
theorem dX7_slotOf_0 : decode cX7_slotOf 0 = .ok (.iload_n 0, 1) := by decide +kernel
theorem dX7_slotOf_1 : decode cX7_slotOf 1 = .ok (.bipush 24, 2) := by decide +kernel
theorem dX7_slotOf_3 : decode cX7_slotOf 3 = .ok (.invokestatic 99, 3) := by decide +kernel
theorem dX7_slotOf_6 : decode cX7_slotOf 6 = .ok (.bipush 8, 2) := by decide +kernel
theorem dX7_slotOf_8 : decode cX7_slotOf 8 = .ok (.imul, 1) := by decide +kernel
theorem dX7_slotOf_9 : decode cX7_slotOf 9 = .ok (.ireturn, 1) := by decide +kernel
theorem dX7_countRows_0 : decode cX7_countRows 0 = .ok (.aload_n 0, 1) := by decide +kernel
theorem dX7_countRows_1 : decode cX7_countRows 1 = .ok (.getfield 56, 3) := by decide +kernel
theorem dX7_countRows_4 : decode cX7_countRows 4 = .ok (.bipush 24, 2) := by decide +kernel
theorem dX7_countRows_6 : decode cX7_countRows 6 = .ok (.invokestatic 104, 3) := by decide +kernel
theorem dX7_countRows_9 : decode cX7_countRows 9 = .ok (.ireturn, 1) := by decide +kernel
set_option maxRecDepth 20000 in
theorem ggX7_showedAt_X7_countRows : GoodIn wsX7_showedAt wsX7_countRows := goodIn_r _ [7, 2, 8, 9, 10, 11, 19, 20, 21, 22, 23, 24, 25, 26, 27] (by decide +kernel) (by decide +kernel)
set_option maxRecDepth 20000 in
theorem gX7_showedAt_X7_countRows : GoodIn wsX7_showedAt (wsV RX7 107 RX7 yX7_countRows wsX7_countRows) := goodIn_app (goodIn_of _ (by decide +kernel)) ggX7_showedAt_X7_countRows
set_option maxRecDepth 20000 in
theorem ggX7_showedAt_X7_slotOf : GoodIn wsX7_showedAt wsX7_slotOf := goodIn_r _ [14, 15, 16, 17, 18] (by decide +kernel) (by decide +kernel)
set_option maxRecDepth 20000 in
theorem gX7_showedAt_X7_slotOf : GoodIn wsX7_showedAt (va_wsS RX7 95 yX7_slotOf wsX7_slotOf) := goodIn_app (goodIn_of _ (by decide +kernel)) ggX7_showedAt_X7_slotOf
theorem dX7_showedAt_0 : decode cX7_showedAt 0 = .ok (.iload_n 1, 1) := by decide +kernel
theorem dX7_showedAt_1 : decode cX7_showedAt 1 = .ok (.ifCond .lt 21, 3) := by decide +kernel
theorem dX7_showedAt_4 : decode cX7_showedAt 4 = .ok (.iload_n 1, 1) := by decide +kernel
theorem dX7_showedAt_5 : decode cX7_showedAt 5 = .ok (.aload_n 0, 1) := by decide +kernel
theorem dX7_showedAt_6 : decode cX7_showedAt 6 = .ok (.invokevirtual 107, 3) := by decide +kernel
theorem dX7_showedAt_9 : decode cX7_showedAt 9 = .ok (.if_icmp .ge 13, 3) := by decide +kernel
theorem dX7_showedAt_12 : decode cX7_showedAt 12 = .ok (.iload_n 2, 1) := by decide +kernel
theorem dX7_showedAt_13 : decode cX7_showedAt 13 = .ok (.ifCond .lt 9, 3) := by decide +kernel
theorem dX7_showedAt_16 : decode cX7_showedAt 16 = .ok (.iload_n 2, 1) := by decide +kernel
theorem dX7_showedAt_17 : decode cX7_showedAt 17 = .ok (.bipush 8, 2) := by decide +kernel
theorem dX7_showedAt_19 : decode cX7_showedAt 19 = .ok (.if_icmp .lt 5, 3) := by decide +kernel
theorem dX7_showedAt_22 : decode cX7_showedAt 22 = .ok (.iconst (-1), 1) := by decide +kernel
theorem dX7_showedAt_23 : decode cX7_showedAt 23 = .ok (.ireturn, 1) := by decide +kernel
theorem dX7_showedAt_24 : decode cX7_showedAt 24 = .ok (.aload_n 0, 1) := by decide +kernel
theorem dX7_showedAt_25 : decode cX7_showedAt 25 = .ok (.getfield 33, 3) := by decide +kernel
theorem dX7_showedAt_28 : decode cX7_showedAt 28 = .ok (.aload_n 0, 1) := by decide +kernel
theorem dX7_showedAt_29 : decode cX7_showedAt 29 = .ok (.getfield 56, 3) := by decide +kernel
theorem dX7_showedAt_32 : decode cX7_showedAt 32 = .ok (.iconst 1, 1) := by decide +kernel
theorem dX7_showedAt_33 : decode cX7_showedAt 33 = .ok (.isub, 1) := by decide +kernel
theorem dX7_showedAt_34 : decode cX7_showedAt 34 = .ok (.iload_n 1, 1) := by decide +kernel
theorem dX7_showedAt_35 : decode cX7_showedAt 35 = .ok (.isub, 1) := by decide +kernel
theorem dX7_showedAt_36 : decode cX7_showedAt 36 = .ok (.invokestatic 95, 3) := by decide +kernel
theorem dX7_showedAt_39 : decode cX7_showedAt 39 = .ok (.iload_n 2, 1) := by decide +kernel
theorem dX7_showedAt_40 : decode cX7_showedAt 40 = .ok (.iadd, 1) := by decide +kernel
theorem dX7_showedAt_41 : decode cX7_showedAt 41 = .ok (.iaload, 1) := by decide +kernel
theorem dX7_showedAt_42 : decode cX7_showedAt 42 = .ok (.ireturn, 1) := by decide +kernel
theorem dJ6_bitCount_0f7a4_0 : decode cJ6_bitCount_0f7a4 0 = .ok (.iload_n 0, 1) := by decide +kernel
theorem dJ6_bitCount_0f7a4_1 : decode cJ6_bitCount_0f7a4 1 = .ok (.iload_n 0, 1) := by decide +kernel
theorem dJ6_bitCount_0f7a4_2 : decode cJ6_bitCount_0f7a4 2 = .ok (.iconst 1, 1) := by decide +kernel
theorem dJ6_bitCount_0f7a4_3 : decode cJ6_bitCount_0f7a4 3 = .ok (.iushr, 1) := by decide +kernel
theorem dJ6_bitCount_0f7a4_4 : decode cJ6_bitCount_0f7a4 4 = .ok (.ldc_w 265, 3) := by decide +kernel
theorem dJ6_bitCount_0f7a4_7 : decode cJ6_bitCount_0f7a4 7 = .ok (.iand, 1) := by decide +kernel
theorem dJ6_bitCount_0f7a4_8 : decode cJ6_bitCount_0f7a4 8 = .ok (.isub, 1) := by decide +kernel
theorem dJ6_bitCount_0f7a4_9 : decode cJ6_bitCount_0f7a4 9 = .ok (.istore_n 0, 1) := by decide +kernel
theorem dJ6_bitCount_0f7a4_10 : decode cJ6_bitCount_0f7a4 10 = .ok (.iload_n 0, 1) := by decide +kernel
theorem dJ6_bitCount_0f7a4_11 : decode cJ6_bitCount_0f7a4 11 = .ok (.ldc_w 266, 3) := by decide +kernel
theorem dJ6_bitCount_0f7a4_14 : decode cJ6_bitCount_0f7a4 14 = .ok (.iand, 1) := by decide +kernel
theorem dJ6_bitCount_0f7a4_15 : decode cJ6_bitCount_0f7a4 15 = .ok (.iload_n 0, 1) := by decide +kernel
theorem dJ6_bitCount_0f7a4_16 : decode cJ6_bitCount_0f7a4 16 = .ok (.iconst 2, 1) := by decide +kernel
theorem dJ6_bitCount_0f7a4_17 : decode cJ6_bitCount_0f7a4 17 = .ok (.iushr, 1) := by decide +kernel
theorem dJ6_bitCount_0f7a4_18 : decode cJ6_bitCount_0f7a4 18 = .ok (.ldc_w 266, 3) := by decide +kernel
theorem dJ6_bitCount_0f7a4_21 : decode cJ6_bitCount_0f7a4 21 = .ok (.iand, 1) := by decide +kernel
theorem dJ6_bitCount_0f7a4_22 : decode cJ6_bitCount_0f7a4 22 = .ok (.iadd, 1) := by decide +kernel
theorem dJ6_bitCount_0f7a4_23 : decode cJ6_bitCount_0f7a4 23 = .ok (.istore_n 0, 1) := by decide +kernel
theorem dJ6_bitCount_0f7a4_24 : decode cJ6_bitCount_0f7a4 24 = .ok (.iload_n 0, 1) := by decide +kernel
theorem dJ6_bitCount_0f7a4_25 : decode cJ6_bitCount_0f7a4 25 = .ok (.iload_n 0, 1) := by decide +kernel
theorem dJ6_bitCount_0f7a4_26 : decode cJ6_bitCount_0f7a4 26 = .ok (.iconst 4, 1) := by decide +kernel
theorem dJ6_bitCount_0f7a4_27 : decode cJ6_bitCount_0f7a4 27 = .ok (.iushr, 1) := by decide +kernel
theorem dJ6_bitCount_0f7a4_28 : decode cJ6_bitCount_0f7a4 28 = .ok (.iadd, 1) := by decide +kernel
theorem dJ6_bitCount_0f7a4_29 : decode cJ6_bitCount_0f7a4 29 = .ok (.ldc_w 267, 3) := by decide +kernel
theorem dJ6_bitCount_0f7a4_32 : decode cJ6_bitCount_0f7a4 32 = .ok (.iand, 1) := by decide +kernel
theorem dJ6_bitCount_0f7a4_33 : decode cJ6_bitCount_0f7a4 33 = .ok (.istore_n 0, 1) := by decide +kernel
theorem dJ6_bitCount_0f7a4_34 : decode cJ6_bitCount_0f7a4 34 = .ok (.iload_n 0, 1) := by decide +kernel
theorem dJ6_bitCount_0f7a4_35 : decode cJ6_bitCount_0f7a4 35 = .ok (.iload_n 0, 1) := by decide +kernel
theorem dJ6_bitCount_0f7a4_36 : decode cJ6_bitCount_0f7a4 36 = .ok (.bipush 8, 2) := by decide +kernel
theorem dJ6_bitCount_0f7a4_38 : decode cJ6_bitCount_0f7a4 38 = .ok (.iushr, 1) := by decide +kernel
theorem dJ6_bitCount_0f7a4_39 : decode cJ6_bitCount_0f7a4 39 = .ok (.iadd, 1) := by decide +kernel
theorem dJ6_bitCount_0f7a4_40 : decode cJ6_bitCount_0f7a4 40 = .ok (.istore_n 0, 1) := by decide +kernel
theorem dJ6_bitCount_0f7a4_41 : decode cJ6_bitCount_0f7a4 41 = .ok (.iload_n 0, 1) := by decide +kernel
theorem dJ6_bitCount_0f7a4_42 : decode cJ6_bitCount_0f7a4 42 = .ok (.iload_n 0, 1) := by decide +kernel
theorem dJ6_bitCount_0f7a4_43 : decode cJ6_bitCount_0f7a4 43 = .ok (.bipush 16, 2) := by decide +kernel
theorem dJ6_bitCount_0f7a4_45 : decode cJ6_bitCount_0f7a4 45 = .ok (.iushr, 1) := by decide +kernel
theorem dJ6_bitCount_0f7a4_46 : decode cJ6_bitCount_0f7a4 46 = .ok (.iadd, 1) := by decide +kernel
theorem dJ6_bitCount_0f7a4_47 : decode cJ6_bitCount_0f7a4 47 = .ok (.istore_n 0, 1) := by decide +kernel
theorem dJ6_bitCount_0f7a4_48 : decode cJ6_bitCount_0f7a4 48 = .ok (.iload_n 0, 1) := by decide +kernel
theorem dJ6_bitCount_0f7a4_49 : decode cJ6_bitCount_0f7a4 49 = .ok (.bipush 63, 2) := by decide +kernel
theorem dJ6_bitCount_0f7a4_51 : decode cJ6_bitCount_0f7a4 51 = .ok (.iand, 1) := by decide +kernel
theorem dJ6_bitCount_0f7a4_52 : decode cJ6_bitCount_0f7a4 52 = .ok (.ireturn, 1) := by decide +kernel
theorem dJ9_floorMod_7cf53_0 : decode cJ9_floorMod_7cf53 0 = .ok (.iload_n 0, 1) := by decide +kernel
theorem dJ9_floorMod_7cf53_1 : decode cJ9_floorMod_7cf53 1 = .ok (.iload_n 1, 1) := by decide +kernel
theorem dJ9_floorMod_7cf53_2 : decode cJ9_floorMod_7cf53 2 = .ok (.irem, 1) := by decide +kernel
theorem dJ9_floorMod_7cf53_3 : decode cJ9_floorMod_7cf53 3 = .ok (.istore_n 2, 1) := by decide +kernel
theorem dJ9_floorMod_7cf53_4 : decode cJ9_floorMod_7cf53 4 = .ok (.iload_n 0, 1) := by decide +kernel
theorem dJ9_floorMod_7cf53_5 : decode cJ9_floorMod_7cf53 5 = .ok (.iload_n 1, 1) := by decide +kernel
theorem dJ9_floorMod_7cf53_6 : decode cJ9_floorMod_7cf53 6 = .ok (.ixor, 1) := by decide +kernel
theorem dJ9_floorMod_7cf53_7 : decode cJ9_floorMod_7cf53 7 = .ok (.ifCond .ge 11, 3) := by decide +kernel
theorem dJ9_floorMod_7cf53_10 : decode cJ9_floorMod_7cf53 10 = .ok (.iload_n 2, 1) := by decide +kernel
theorem dJ9_floorMod_7cf53_11 : decode cJ9_floorMod_7cf53 11 = .ok (.ifCond .eq 7, 3) := by decide +kernel
theorem dJ9_floorMod_7cf53_14 : decode cJ9_floorMod_7cf53 14 = .ok (.iload_n 2, 1) := by decide +kernel
theorem dJ9_floorMod_7cf53_15 : decode cJ9_floorMod_7cf53 15 = .ok (.iload_n 1, 1) := by decide +kernel
theorem dJ9_floorMod_7cf53_16 : decode cJ9_floorMod_7cf53 16 = .ok (.iadd, 1) := by decide +kernel
theorem dJ9_floorMod_7cf53_17 : decode cJ9_floorMod_7cf53 17 = .ok (.ireturn, 1) := by decide +kernel
theorem dJ9_floorMod_7cf53_18 : decode cJ9_floorMod_7cf53 18 = .ok (.iload_n 2, 1) := by decide +kernel
theorem dJ9_floorMod_7cf53_19 : decode cJ9_floorMod_7cf53 19 = .ok (.ireturn, 1) := by decide +kernel
theorem dJ9_abs_0f7a4_0 : decode cJ9_abs_0f7a4 0 = .ok (.iload_n 0, 1) := by decide +kernel
theorem dJ9_abs_0f7a4_1 : decode cJ9_abs_0f7a4 1 = .ok (.ifCond .ge 8, 3) := by decide +kernel
theorem dJ9_abs_0f7a4_4 : decode cJ9_abs_0f7a4 4 = .ok (.iload_n 0, 1) := by decide +kernel
theorem dJ9_abs_0f7a4_5 : decode cJ9_abs_0f7a4 5 = .ok (.ineg, 1) := by decide +kernel
theorem dJ9_abs_0f7a4_6 : decode cJ9_abs_0f7a4 6 = .ok (.goto 4, 3) := by decide +kernel
theorem dJ9_abs_0f7a4_9 : decode cJ9_abs_0f7a4 9 = .ok (.iload_n 0, 1) := by decide +kernel
theorem dJ9_abs_0f7a4_10 : decode cJ9_abs_0f7a4 10 = .ok (.ireturn, 1) := by decide +kernel
theorem dJ9_max_7cf53_0 : decode cJ9_max_7cf53 0 = .ok (.iload_n 0, 1) := by decide +kernel
theorem dJ9_max_7cf53_1 : decode cJ9_max_7cf53 1 = .ok (.iload_n 1, 1) := by decide +kernel
theorem dJ9_max_7cf53_2 : decode cJ9_max_7cf53 2 = .ok (.if_icmp .lt 7, 3) := by decide +kernel
theorem dJ9_max_7cf53_5 : decode cJ9_max_7cf53 5 = .ok (.iload_n 0, 1) := by decide +kernel
theorem dJ9_max_7cf53_6 : decode cJ9_max_7cf53 6 = .ok (.goto 4, 3) := by decide +kernel
theorem dJ9_max_7cf53_9 : decode cJ9_max_7cf53 9 = .ok (.iload_n 1, 1) := by decide +kernel
theorem dJ9_max_7cf53_10 : decode cJ9_max_7cf53 10 = .ok (.ireturn, 1) := by decide +kernel
theorem dJ9_min_7cf53_0 : decode cJ9_min_7cf53 0 = .ok (.iload_n 0, 1) := by decide +kernel
theorem dJ9_min_7cf53_1 : decode cJ9_min_7cf53 1 = .ok (.iload_n 1, 1) := by decide +kernel
theorem dJ9_min_7cf53_2 : decode cJ9_min_7cf53 2 = .ok (.if_icmp .gt 7, 3) := by decide +kernel
theorem dJ9_min_7cf53_5 : decode cJ9_min_7cf53 5 = .ok (.iload_n 0, 1) := by decide +kernel
theorem dJ9_min_7cf53_6 : decode cJ9_min_7cf53 6 = .ok (.goto 4, 3) := by decide +kernel
theorem dJ9_min_7cf53_9 : decode cJ9_min_7cf53 9 = .ok (.iload_n 1, 1) := by decide +kernel
theorem dJ9_min_7cf53_10 : decode cJ9_min_7cf53 10 = .ok (.ireturn, 1) := by decide +kernel
theorem dJ7_fill_53178_0 : decode cJ7_fill_53178 0 = .ok (.iconst 0, 1) := by decide +kernel
theorem dJ7_fill_53178_1 : decode cJ7_fill_53178 1 = .ok (.istore_n 2, 1) := by decide +kernel
theorem dJ7_fill_53178_2 : decode cJ7_fill_53178 2 = .ok (.aload_n 0, 1) := by decide +kernel
theorem dJ7_fill_53178_3 : decode cJ7_fill_53178 3 = .ok (.arraylength, 1) := by decide +kernel
theorem dJ7_fill_53178_4 : decode cJ7_fill_53178 4 = .ok (.istore_n 3, 1) := by decide +kernel
theorem dJ7_fill_53178_5 : decode cJ7_fill_53178 5 = .ok (.iload_n 2, 1) := by decide +kernel
theorem dJ7_fill_53178_6 : decode cJ7_fill_53178 6 = .ok (.iload_n 3, 1) := by decide +kernel
theorem dJ7_fill_53178_7 : decode cJ7_fill_53178 7 = .ok (.if_icmp .ge 13, 3) := by decide +kernel
theorem dJ7_fill_53178_10 : decode cJ7_fill_53178 10 = .ok (.aload_n 0, 1) := by decide +kernel
theorem dJ7_fill_53178_11 : decode cJ7_fill_53178 11 = .ok (.iload_n 2, 1) := by decide +kernel
theorem dJ7_fill_53178_12 : decode cJ7_fill_53178 12 = .ok (.iload_n 1, 1) := by decide +kernel
theorem dJ7_fill_53178_13 : decode cJ7_fill_53178 13 = .ok (.iastore, 1) := by decide +kernel
theorem dJ7_fill_53178_14 : decode cJ7_fill_53178 14 = .ok (.iinc 2 1, 3) := by decide +kernel
theorem dJ7_fill_53178_17 : decode cJ7_fill_53178 17 = .ok (.goto (-12), 3) := by decide +kernel
theorem dJ7_fill_53178_20 : decode cJ7_fill_53178 20 = .ok (.return_, 1) := by decide +kernel


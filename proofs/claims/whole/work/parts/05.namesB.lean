set_option maxRecDepth 20000 in
theorem ggX8_init_X4_init : GoodIn wsX8_init wsX4_init := goodIn_r _ [31, 32, 2, 3, 33, 34, 35, 74, 75, 76, 77, 78, 79] (by decide +kernel) (by decide +kernel)
set_option maxRecDepth 20000 in
theorem gX8_init_X4_init_n9 : GoodIn wsX8_init (wsX4_init) := ggX8_init_X4_init
set_option maxRecDepth 20000 in
theorem ggX8_init_X7_init : GoodIn wsX8_init wsX7_init := goodIn_r _ [37, 38, 2, 3, 33, 39, 40, 41, 42, 43, 44, 45, 46, 89, 90, 91, 92, 93, 94, 95, 96, 97] (by decide +kernel) (by decide +kernel)
set_option maxRecDepth 20000 in
theorem gX8_init_X7_init_n18 : GoodIn wsX8_init (wsX7_init) := ggX8_init_X7_init
set_option maxRecDepth 20000 in
theorem ggX8_init_X1_init : GoodIn wsX8_init wsX1_init := goodIn_r _ [49, 50, 2, 3, 51, 52, 9, 10, 36, 37, 38, 33, 39, 40, 41, 42, 43, 44, 45, 46, 98, 99, 100, 89, 90, 91, 92, 93, 94, 95, 96, 97] (by decide +kernel) (by decide +kernel)
set_option maxRecDepth 20000 in
theorem gX8_init_X1_init : GoodIn wsX8_init (wsX1_init) := ggX8_init_X1_init
set_option maxRecDepth 20000 in
theorem ggX8_init_X3_init : GoodIn wsX8_init wsX3_init := goodIn_r _ [54, 55, 2, 3, 33, 56, 57, 58, 59, 60, 101, 102, 103, 104, 105, 106, 107] (by decide +kernel) (by decide +kernel)
set_option maxRecDepth 20000 in
theorem gX8_init_X3_init_n35 : GoodIn wsX8_init (wsX3_init) := ggX8_init_X3_init
set_option maxRecDepth 20000 in
theorem ggX8_init_X5_init : GoodIn wsX8_init wsX5_init := goodIn_r _ [62, 63, 2, 3, 33, 64, 65, 66, 67, 68, 108, 109, 110, 111, 112, 113, 114, 115, 116] (by decide +kernel) (by decide +kernel)
set_option maxRecDepth 20000 in
theorem gX8_init_X5_init_n48 : GoodIn wsX8_init (wsX5_init) := ggX8_init_X5_init
set_option maxRecDepth 20000 in
theorem ggX8_init_X2_init : GoodIn wsX8_init wsX2_init := goodIn_r _ [70, 71, 2, 3, 72, 9, 10, 73, 36, 37, 38, 33, 39, 40, 41, 42, 43, 44, 45, 46, 89, 90, 91, 92, 93, 94, 95, 96, 97, 117, 118, 119] (by decide +kernel) (by decide +kernel)
set_option maxRecDepth 20000 in
theorem gX8_init_X2_init_n56 : GoodIn wsX8_init (wsX2_init) := ggX8_init_X2_init
theorem dX8_init_0 : decode cX8_init 0 = .ok (.aload_n 0, 1) := by decide +kernel
theorem dX8_init_1 : decode cX8_init 1 = .ok (.invokespecial 1, 3) := by decide +kernel
theorem dX8_init_4 : decode cX8_init 4 = .ok (.aload_n 0, 1) := by decide +kernel
theorem dX8_init_5 : decode cX8_init 5 = .ok (.new 7, 3) := by decide +kernel
theorem dX8_init_8 : decode cX8_init 8 = .ok (.dup, 1) := by decide +kernel
theorem dX8_init_9 : decode cX8_init 9 = .ok (.invokespecial 9, 3) := by decide +kernel
theorem dX8_init_12 : decode cX8_init 12 = .ok (.putfield 10, 3) := by decide +kernel
theorem dX8_init_15 : decode cX8_init 15 = .ok (.aload_n 0, 1) := by decide +kernel
theorem dX8_init_16 : decode cX8_init 16 = .ok (.new 16, 3) := by decide +kernel
theorem dX8_init_19 : decode cX8_init 19 = .ok (.dup, 1) := by decide +kernel
theorem dX8_init_20 : decode cX8_init 20 = .ok (.invokespecial 18, 3) := by decide +kernel
theorem dX8_init_23 : decode cX8_init 23 = .ok (.putfield 19, 3) := by decide +kernel
theorem dX8_init_26 : decode cX8_init 26 = .ok (.aload_n 0, 1) := by decide +kernel
theorem dX8_init_27 : decode cX8_init 27 = .ok (.new 16, 3) := by decide +kernel
theorem dX8_init_30 : decode cX8_init 30 = .ok (.dup, 1) := by decide +kernel
theorem dX8_init_31 : decode cX8_init 31 = .ok (.invokespecial 18, 3) := by decide +kernel
theorem dX8_init_34 : decode cX8_init 34 = .ok (.putfield 23, 3) := by decide +kernel
theorem dX8_init_37 : decode cX8_init 37 = .ok (.aload_n 0, 1) := by decide +kernel
theorem dX8_init_38 : decode cX8_init 38 = .ok (.new 26, 3) := by decide +kernel
theorem dX8_init_41 : decode cX8_init 41 = .ok (.dup, 1) := by decide +kernel
theorem dX8_init_42 : decode cX8_init 42 = .ok (.invokespecial 28, 3) := by decide +kernel
theorem dX8_init_45 : decode cX8_init 45 = .ok (.putfield 29, 3) := by decide +kernel
theorem dX8_init_48 : decode cX8_init 48 = .ok (.aload_n 0, 1) := by decide +kernel
theorem dX8_init_49 : decode cX8_init 49 = .ok (.new 33, 3) := by decide +kernel
theorem dX8_init_52 : decode cX8_init 52 = .ok (.dup, 1) := by decide +kernel
theorem dX8_init_53 : decode cX8_init 53 = .ok (.invokespecial 35, 3) := by decide +kernel
theorem dX8_init_56 : decode cX8_init 56 = .ok (.putfield 36, 3) := by decide +kernel
theorem dX8_init_59 : decode cX8_init 59 = .ok (.aload_n 0, 1) := by decide +kernel
theorem dX8_init_60 : decode cX8_init 60 = .ok (.iconst 2, 1) := by decide +kernel
theorem dX8_init_61 : decode cX8_init 61 = .ok (.anewarray 40, 3) := by decide +kernel
theorem dX8_init_64 : decode cX8_init 64 = .ok (.putfield 42, 3) := by decide +kernel
theorem dX8_init_67 : decode cX8_init 67 = .ok (.aload_n 0, 1) := by decide +kernel
theorem dX8_init_68 : decode cX8_init 68 = .ok (.new 46, 3) := by decide +kernel
theorem dX8_init_71 : decode cX8_init 71 = .ok (.dup, 1) := by decide +kernel
theorem dX8_init_72 : decode cX8_init 72 = .ok (.invokespecial 48, 3) := by decide +kernel
theorem dX8_init_75 : decode cX8_init 75 = .ok (.putfield 49, 3) := by decide +kernel
theorem dX8_init_78 : decode cX8_init 78 = .ok (.aload_n 0, 1) := by decide +kernel
theorem dX8_init_79 : decode cX8_init 79 = .ok (.new 46, 3) := by decide +kernel
theorem dX8_init_82 : decode cX8_init 82 = .ok (.dup, 1) := by decide +kernel
theorem dX8_init_83 : decode cX8_init 83 = .ok (.invokespecial 48, 3) := by decide +kernel
theorem dX8_init_86 : decode cX8_init 86 = .ok (.putfield 53, 3) := by decide +kernel
theorem dX8_init_89 : decode cX8_init 89 = .ok (.iconst 0, 1) := by decide +kernel
theorem dX8_init_90 : decode cX8_init 90 = .ok (.istore_n 1, 1) := by decide +kernel
theorem dX8_init_91 : decode cX8_init 91 = .ok (.iload_n 1, 1) := by decide +kernel
theorem dX8_init_92 : decode cX8_init 92 = .ok (.aload_n 0, 1) := by decide +kernel
theorem dX8_init_93 : decode cX8_init 93 = .ok (.getfield 42, 3) := by decide +kernel
theorem dX8_init_96 : decode cX8_init 96 = .ok (.arraylength, 1) := by decide +kernel
theorem dX8_init_97 : decode cX8_init 97 = .ok (.if_icmp .ge 22, 3) := by decide +kernel
theorem dX8_init_100 : decode cX8_init 100 = .ok (.aload_n 0, 1) := by decide +kernel
theorem dX8_init_101 : decode cX8_init 101 = .ok (.getfield 42, 3) := by decide +kernel
theorem dX8_init_104 : decode cX8_init 104 = .ok (.iload_n 1, 1) := by decide +kernel
theorem dX8_init_105 : decode cX8_init 105 = .ok (.new 40, 3) := by decide +kernel
theorem dX8_init_108 : decode cX8_init 108 = .ok (.dup, 1) := by decide +kernel
theorem dX8_init_109 : decode cX8_init 109 = .ok (.invokespecial 56, 3) := by decide +kernel
theorem dX8_init_112 : decode cX8_init 112 = .ok (.aastore, 1) := by decide +kernel
theorem dX8_init_113 : decode cX8_init 113 = .ok (.iinc 1 1, 3) := by decide +kernel
theorem dX8_init_116 : decode cX8_init 116 = .ok (.goto (-25), 3) := by decide +kernel
theorem dX8_init_119 : decode cX8_init 119 = .ok (.return_, 1) := by decide +kernel
set_option maxRecDepth 20000 in
theorem ggX8_feed_X4_append : GoodIn wsX8_feed wsX4_append := goodIn_r _ [9, 10, 11, 21, 22, 23, 24, 25, 26] (by decide +kernel) (by decide +kernel)
set_option maxRecDepth 20000 in
theorem gX8_feed_X4_append : GoodIn wsX8_feed (wsV RX8 58 RX4 yX4_append wsX4_append) := goodIn_app (goodIn_of _ (by decide +kernel)) ggX8_feed_X4_append
theorem dX8_feed_0 : decode cX8_feed 0 = .ok (.iload_n 1, 1) := by decide +kernel
theorem dX8_feed_1 : decode cX8_feed 1 = .ok (.ifCond .lt 10, 3) := by decide +kernel
theorem dX8_feed_4 : decode cX8_feed 4 = .ok (.iload_n 1, 1) := by decide +kernel
theorem dX8_feed_5 : decode cX8_feed 5 = .ok (.sipush 255, 3) := by decide +kernel
theorem dX8_feed_8 : decode cX8_feed 8 = .ok (.if_icmp .le 6, 3) := by decide +kernel
theorem dX8_feed_11 : decode cX8_feed 11 = .ok (.ldc 57, 2) := by decide +kernel
theorem dX8_feed_13 : decode cX8_feed 13 = .ok (.ireturn, 1) := by decide +kernel
theorem dX8_feed_14 : decode cX8_feed 14 = .ok (.aload_n 0, 1) := by decide +kernel
theorem dX8_feed_15 : decode cX8_feed 15 = .ok (.getfield 10, 3) := by decide +kernel
theorem dX8_feed_18 : decode cX8_feed 18 = .ok (.iload_n 1, 1) := by decide +kernel
theorem dX8_feed_19 : decode cX8_feed 19 = .ok (.invokevirtual 58, 3) := by decide +kernel
theorem dX8_feed_22 : decode cX8_feed 22 = .ok (.ifCond .ne 6, 3) := by decide +kernel
theorem dX8_feed_25 : decode cX8_feed 25 = .ok (.ldc 62, 2) := by decide +kernel
theorem dX8_feed_27 : decode cX8_feed 27 = .ok (.ireturn, 1) := by decide +kernel
theorem dX8_feed_28 : decode cX8_feed 28 = .ok (.aload_n 0, 1) := by decide +kernel
theorem dX8_feed_29 : decode cX8_feed 29 = .ok (.getfield 10, 3) := by decide +kernel
theorem dX8_feed_32 : decode cX8_feed 32 = .ok (.getfield 63, 3) := by decide +kernel
theorem dX8_feed_35 : decode cX8_feed 35 = .ok (.ireturn, 1) := by decide +kernel
set_option maxRecDepth 20000 in
theorem ggX8_loom_X4_readInto : GoodIn wsX8_loom wsX4_readInto := goodIn_r _ [14, 15, 16, 17, 18, 19, 20, 21, 22, 23, 24, 25, 26, 27, 28, 29, 30, 31, 32, 33, 34, 35, 36, 13, 37, 38, 39, 40, 41, 42, 43, 44, 45, 46, 47, 48, 49, 50, 51, 52, 53, 54, 55, 56, 57, 58, 59, 60, 61, 62, 63, 64, 65, 66, 67, 68, 69, 70, 71, 72, 73, 74, 75, 76, 77, 78, 79, 80, 81, 82, 83, 84, 85, 86, 87, 88, 89, 90, 91, 92, 93, 94, 95, 96, 97, 98, 99, 100, 101, 102, 103, 104, 105, 106, 107, 156, 157, 158, 159, 160, 161, 162, 163, 164, 165, 166, 167, 168, 169, 170] (by decide +kernel) (by decide +kernel)
set_option maxRecDepth 20000 in
theorem gX8_loom_X4_readInto : GoodIn wsX8_loom (wsV RX8 67 RX4 yX4_readInto wsX4_readInto) := goodIn_app (goodIn_of _ (by decide +kernel)) ggX8_loom_X4_readInto
set_option maxRecDepth 20000 in
theorem ggX8_loom_X7_begin : GoodIn wsX8_loom wsX7_begin := goodIn_r _ [112, 113, 114, 115, 116, 117, 118, 119, 120, 121, 122, 123, 124, 125, 126, 31, 32, 33, 162, 163, 164, 165, 166, 167, 168, 169, 170, 171, 172, 173, 174, 175, 176, 177, 178, 179] (by decide +kernel) (by decide +kernel)
set_option maxRecDepth 20000 in
theorem gX8_loom_X7_begin : GoodIn wsX8_loom (wsV RX8 74 RX7 yX7_begin wsX7_begin) := goodIn_app (goodIn_of _ (by decide +kernel)) ggX8_loom_X7_begin
set_option maxRecDepth 20000 in
theorem ggX8_loom_X1_forget : GoodIn wsX8_loom wsX1_forget := goodIn_r _ [131, 132, 180, 181, 182] (by decide +kernel) (by decide +kernel)
set_option maxRecDepth 20000 in
theorem gX8_loom_X1_forget : GoodIn wsX8_loom (wsV RX8 78 RX1 yX1_forget wsX1_forget) := goodIn_app (goodIn_of _ (by decide +kernel)) ggX8_loom_X1_forget
set_option maxRecDepth 20000 in
theorem ggX8_loom_X3_forget : GoodIn wsX8_loom wsX3_forget := goodIn_r _ [137, 138, 139, 183, 184, 185, 186, 187, 188, 189] (by decide +kernel) (by decide +kernel)
set_option maxRecDepth 20000 in
theorem gX8_loom_X3_forget : GoodIn wsX8_loom (wsV RX8 81 RX3 yX3_forget wsX3_forget) := goodIn_app (goodIn_of _ (by decide +kernel)) ggX8_loom_X3_forget
set_option maxRecDepth 20000 in
theorem ggX8_loom_X8_forgetImages : GoodIn wsX8_loom wsX8_forgetImages := goodIn_r _ [144, 145, 146, 147, 148, 149, 150, 151, 152, 153, 154, 155, 190, 191, 192] (by decide +kernel) (by decide +kernel)
set_option maxRecDepth 20000 in
theorem gX8_loom_X8_forgetImages : GoodIn wsX8_loom (wsV RX8 82 RX8 yX8_forgetImages wsX8_forgetImages) := goodIn_app (goodIn_of _ (by decide +kernel)) ggX8_loom_X8_forgetImages
theorem dX8_loom_0 : decode cX8_loom 0 = .ok (.aload_n 0, 1) := by decide +kernel
theorem dX8_loom_1 : decode cX8_loom 1 = .ok (.getfield 10, 3) := by decide +kernel
theorem dX8_loom_4 : decode cX8_loom 4 = .ok (.aload_n 0, 1) := by decide +kernel
theorem dX8_loom_5 : decode cX8_loom 5 = .ok (.getfield 53, 3) := by decide +kernel
theorem dX8_loom_8 : decode cX8_loom 8 = .ok (.invokevirtual 67, 3) := by decide +kernel
theorem dX8_loom_11 : decode cX8_loom 11 = .ok (.istore_n 1, 1) := by decide +kernel
theorem dX8_loom_12 : decode cX8_loom 12 = .ok (.aload_n 0, 1) := by decide +kernel
theorem dX8_loom_13 : decode cX8_loom 13 = .ok (.getfield 10, 3) := by decide +kernel
theorem dX8_loom_16 : decode cX8_loom 16 = .ok (.iconst 0, 1) := by decide +kernel
theorem dX8_loom_17 : decode cX8_loom 17 = .ok (.putfield 63, 3) := by decide +kernel
theorem dX8_loom_20 : decode cX8_loom 20 = .ok (.iload_n 1, 1) := by decide +kernel
theorem dX8_loom_21 : decode cX8_loom 21 = .ok (.ifCond .ne 14, 3) := by decide +kernel
theorem dX8_loom_24 : decode cX8_loom 24 = .ok (.bipush (-10), 2) := by decide +kernel
theorem dX8_loom_26 : decode cX8_loom 26 = .ok (.aload_n 0, 1) := by decide +kernel
theorem dX8_loom_27 : decode cX8_loom 27 = .ok (.getfield 10, 3) := by decide +kernel
theorem dX8_loom_30 : decode cX8_loom 30 = .ok (.getfield 71, 3) := by decide +kernel
theorem dX8_loom_33 : decode cX8_loom 33 = .ok (.isub, 1) := by decide +kernel
theorem dX8_loom_34 : decode cX8_loom 34 = .ok (.ireturn, 1) := by decide +kernel
theorem dX8_loom_35 : decode cX8_loom 35 = .ok (.aload_n 0, 1) := by decide +kernel
theorem dX8_loom_36 : decode cX8_loom 36 = .ok (.getfield 53, 3) := by decide +kernel
theorem dX8_loom_39 : decode cX8_loom 39 = .ok (.astore_n 2, 1) := by decide +kernel
theorem dX8_loom_40 : decode cX8_loom 40 = .ok (.aload_n 0, 1) := by decide +kernel
theorem dX8_loom_41 : decode cX8_loom 41 = .ok (.aload_n 0, 1) := by decide +kernel
theorem dX8_loom_42 : decode cX8_loom 42 = .ok (.getfield 49, 3) := by decide +kernel
theorem dX8_loom_45 : decode cX8_loom 45 = .ok (.putfield 53, 3) := by decide +kernel
theorem dX8_loom_48 : decode cX8_loom 48 = .ok (.aload_n 0, 1) := by decide +kernel
theorem dX8_loom_49 : decode cX8_loom 49 = .ok (.aload_n 2, 1) := by decide +kernel
theorem dX8_loom_50 : decode cX8_loom 50 = .ok (.putfield 49, 3) := by decide +kernel
theorem dX8_loom_53 : decode cX8_loom 53 = .ok (.aload_n 0, 1) := by decide +kernel
theorem dX8_loom_54 : decode cX8_loom 54 = .ok (.getfield 19, 3) := by decide +kernel
theorem dX8_loom_57 : decode cX8_loom 57 = .ok (.aload_n 0, 1) := by decide +kernel
theorem dX8_loom_58 : decode cX8_loom 58 = .ok (.getfield 49, 3) := by decide +kernel
theorem dX8_loom_61 : decode cX8_loom 61 = .ok (.invokevirtual 74, 3) := by decide +kernel
theorem dX8_loom_64 : decode cX8_loom 64 = .ok (.aload_n 0, 1) := by decide +kernel
theorem dX8_loom_65 : decode cX8_loom 65 = .ok (.getfield 29, 3) := by decide +kernel
theorem dX8_loom_68 : decode cX8_loom 68 = .ok (.invokevirtual 78, 3) := by decide +kernel
theorem dX8_loom_71 : decode cX8_loom 71 = .ok (.aload_n 0, 1) := by decide +kernel
theorem dX8_loom_72 : decode cX8_loom 72 = .ok (.getfield 36, 3) := by decide +kernel
theorem dX8_loom_75 : decode cX8_loom 75 = .ok (.invokevirtual 81, 3) := by decide +kernel
theorem dX8_loom_78 : decode cX8_loom 78 = .ok (.aload_n 0, 1) := by decide +kernel
theorem dX8_loom_79 : decode cX8_loom 79 = .ok (.invokevirtual 82, 3) := by decide +kernel
theorem dX8_loom_82 : decode cX8_loom 82 = .ok (.aload_n 0, 1) := by decide +kernel
theorem dX8_loom_83 : decode cX8_loom 83 = .ok (.getfield 49, 3) := by decide +kernel
theorem dX8_loom_86 : decode cX8_loom 86 = .ok (.getfield 85, 3) := by decide +kernel
theorem dX8_loom_89 : decode cX8_loom 89 = .ok (.ireturn, 1) := by decide +kernel
theorem dX8_fault_0 : decode cX8_fault 0 = .ok (.aload_n 0, 1) := by decide +kernel
theorem dX8_fault_1 : decode cX8_fault 1 = .ok (.getfield 10, 3) := by decide +kernel
theorem dX8_fault_4 : decode cX8_fault 4 = .ok (.getfield 88, 3) := by decide +kernel
theorem dX8_fault_7 : decode cX8_fault 7 = .ok (.ireturn, 1) := by decide +kernel
set_option maxRecDepth 20000 in
theorem ggX8_told_X7_countRows : GoodIn wsX8_told wsX7_countRows := goodIn_r _ [19, 20, 21, 22, 23, 24, 98, 99, 100, 101, 102, 103, 104, 105, 106] (by decide +kernel) (by decide +kernel)
set_option maxRecDepth 20000 in
theorem gX8_told_X7_countRows : GoodIn wsX8_told (wsV RX8 100 RX7 yX7_countRows wsX7_countRows) := goodIn_app (goodIn_of _ (by decide +kernel)) ggX8_told_X7_countRows
set_option maxRecDepth 20000 in
theorem ggX8_told_X0_countMirrored : GoodIn wsX8_told wsX0_countMirrored := goodIn_r _ [28, 29, 16, 17, 18, 19, 20, 21, 22, 23, 24, 30, 31, 27, 32, 33, 34, 35, 36, 37, 38, 39, 40, 41, 42, 43, 44, 45, 98, 99, 100, 101, 102, 103, 104, 105, 106] (by decide +kernel) (by decide +kernel)
set_option maxRecDepth 20000 in
theorem gX8_told_X0_countMirrored : GoodIn wsX8_told (va_wsS RX8 104 yX0_countMirrored wsX0_countMirrored) := goodIn_app (goodIn_of _ (by decide +kernel)) ggX8_told_X0_countMirrored
set_option maxRecDepth 20000 in
theorem ggX8_told_X0_findPeriod : GoodIn wsX8_told wsX0_findPeriod := goodIn_r _ [48, 29, 16, 17, 18, 19, 20, 21, 22, 23, 24, 49, 50, 27, 51, 33, 34, 35, 36, 37, 38, 39, 40, 41, 42, 43, 44, 45, 98, 99, 100, 101, 102, 103, 104, 105, 106] (by decide +kernel) (by decide +kernel)
set_option maxRecDepth 20000 in
theorem gX8_told_X0_findPeriod : GoodIn wsX8_told (va_wsS RX8 110 yX0_findPeriod wsX0_findPeriod) := goodIn_app (goodIn_of _ (by decide +kernel)) ggX8_told_X0_findPeriod
set_option maxRecDepth 20000 in
theorem ggX8_told_X0_findLongest : GoodIn wsX8_told wsX0_findLongest := goodIn_r _ [54, 29, 16, 17, 18, 19, 20, 21, 22, 23, 24, 55, 56, 27, 57, 58, 59, 60, 33, 34, 35, 36, 37, 38, 39, 40, 41, 42, 43, 44, 45, 98, 99, 100, 101, 102, 103, 104, 105, 106] (by decide +kernel) (by decide +kernel)
set_option maxRecDepth 20000 in
theorem gX8_told_X0_findLongest : GoodIn wsX8_told (va_wsS RX8 113 yX0_findLongest wsX0_findLongest) := goodIn_app (goodIn_of _ (by decide +kernel)) ggX8_told_X0_findLongest
set_option maxRecDepth 20000 in
theorem ggX8_told_X0_findMost : GoodIn wsX8_told wsX0_findMost := goodIn_r _ [63, 64, 65, 66, 67, 27, 68, 29, 16, 17, 18, 19, 20, 21, 22, 23, 24, 33, 34, 35, 36, 37, 38, 39, 40, 41, 42, 43, 44, 45, 83, 84, 85, 86, 87, 88, 89, 90, 91, 98, 99, 100, 101, 102, 103, 104, 105, 106] (by decide +kernel) (by decide +kernel)
set_option maxRecDepth 20000 in
theorem gX8_told_X0_findMost : GoodIn wsX8_told (va_wsS RX8 116 yX0_findMost wsX0_findMost) := goodIn_app (goodIn_of _ (by decide +kernel)) ggX8_told_X0_findMost
set_option maxRecDepth 20000 in
theorem ggX8_told_X7_sumYarn : GoodIn wsX8_told wsX7_sumYarn := goodIn_r _ [72, 73, 98, 99, 100, 101, 102, 103, 104, 105, 106] (by decide +kernel) (by decide +kernel)
set_option maxRecDepth 20000 in
theorem gX8_told_X7_sumYarn : GoodIn wsX8_told (wsV RX8 120 RX7 yX7_sumYarn wsX7_sumYarn) := goodIn_app (goodIn_of _ (by decide +kernel)) ggX8_told_X7_sumYarn
theorem dX8_told_0 : decode cX8_told 0 = .ok (.iload_n 1, 1) := by decide +kernel
theorem dX8_told_1 : decode cX8_told 1 = .ok (.tableswitch 215 0 13 #[71, 79, 87, 95, 103, 111, 119, 134, 149, 164, 176, 191, 199, 207], 71) := by decide +kernel
theorem dX8_told_72 : decode cX8_told 72 = .ok (.aload_n 0, 1) := by decide +kernel
theorem dX8_told_73 : decode cX8_told 73 = .ok (.getfield 49, 3) := by decide +kernel
theorem dX8_told_76 : decode cX8_told 76 = .ok (.getfield 91, 3) := by decide +kernel
theorem dX8_told_79 : decode cX8_told 79 = .ok (.ireturn, 1) := by decide +kernel
theorem dX8_told_80 : decode cX8_told 80 = .ok (.aload_n 0, 1) := by decide +kernel
theorem dX8_told_81 : decode cX8_told 81 = .ok (.getfield 49, 3) := by decide +kernel
theorem dX8_told_84 : decode cX8_told 84 = .ok (.getfield 85, 3) := by decide +kernel
theorem dX8_told_87 : decode cX8_told 87 = .ok (.ireturn, 1) := by decide +kernel
theorem dX8_told_88 : decode cX8_told 88 = .ok (.aload_n 0, 1) := by decide +kernel
theorem dX8_told_89 : decode cX8_told 89 = .ok (.getfield 49, 3) := by decide +kernel
theorem dX8_told_92 : decode cX8_told 92 = .ok (.getfield 94, 3) := by decide +kernel
theorem dX8_told_95 : decode cX8_told 95 = .ok (.ireturn, 1) := by decide +kernel
theorem dX8_told_96 : decode cX8_told 96 = .ok (.aload_n 0, 1) := by decide +kernel
theorem dX8_told_97 : decode cX8_told 97 = .ok (.getfield 10, 3) := by decide +kernel
theorem dX8_told_100 : decode cX8_told 100 = .ok (.getfield 63, 3) := by decide +kernel
theorem dX8_told_103 : decode cX8_told 103 = .ok (.ireturn, 1) := by decide +kernel
theorem dX8_told_104 : decode cX8_told 104 = .ok (.aload_n 0, 1) := by decide +kernel
theorem dX8_told_105 : decode cX8_told 105 = .ok (.getfield 19, 3) := by decide +kernel
theorem dX8_told_108 : decode cX8_told 108 = .ok (.getfield 97, 3) := by decide +kernel
theorem dX8_told_111 : decode cX8_told 111 = .ok (.ireturn, 1) := by decide +kernel
theorem dX8_told_112 : decode cX8_told 112 = .ok (.aload_n 0, 1) := by decide +kernel
theorem dX8_told_113 : decode cX8_told 113 = .ok (.getfield 19, 3) := by decide +kernel
theorem dX8_told_116 : decode cX8_told 116 = .ok (.invokevirtual 100, 3) := by decide +kernel
theorem dX8_told_119 : decode cX8_told 119 = .ok (.ireturn, 1) := by decide +kernel
theorem dX8_told_120 : decode cX8_told 120 = .ok (.aload_n 0, 1) := by decide +kernel
theorem dX8_told_121 : decode cX8_told 121 = .ok (.getfield 19, 3) := by decide +kernel
theorem dX8_told_124 : decode cX8_told 124 = .ok (.aload_n 0, 1) := by decide +kernel
theorem dX8_told_125 : decode cX8_told 125 = .ok (.getfield 49, 3) := by decide +kernel
theorem dX8_told_128 : decode cX8_told 128 = .ok (.getfield 85, 3) := by decide +kernel
theorem dX8_told_131 : decode cX8_told 131 = .ok (.invokestatic 104, 3) := by decide +kernel
theorem dX8_told_134 : decode cX8_told 134 = .ok (.ireturn, 1) := by decide +kernel
theorem dX8_told_135 : decode cX8_told 135 = .ok (.aload_n 0, 1) := by decide +kernel
theorem dX8_told_136 : decode cX8_told 136 = .ok (.getfield 19, 3) := by decide +kernel
theorem dX8_told_139 : decode cX8_told 139 = .ok (.aload_n 0, 1) := by decide +kernel
theorem dX8_told_140 : decode cX8_told 140 = .ok (.getfield 49, 3) := by decide +kernel
theorem dX8_told_143 : decode cX8_told 143 = .ok (.getfield 85, 3) := by decide +kernel
theorem dX8_told_146 : decode cX8_told 146 = .ok (.invokestatic 110, 3) := by decide +kernel
theorem dX8_told_149 : decode cX8_told 149 = .ok (.ireturn, 1) := by decide +kernel
theorem dX8_told_150 : decode cX8_told 150 = .ok (.aload_n 0, 1) := by decide +kernel
theorem dX8_told_151 : decode cX8_told 151 = .ok (.getfield 19, 3) := by decide +kernel
theorem dX8_told_154 : decode cX8_told 154 = .ok (.aload_n 0, 1) := by decide +kernel
theorem dX8_told_155 : decode cX8_told 155 = .ok (.getfield 49, 3) := by decide +kernel
theorem dX8_told_158 : decode cX8_told 158 = .ok (.getfield 85, 3) := by decide +kernel
theorem dX8_told_161 : decode cX8_told 161 = .ok (.invokestatic 113, 3) := by decide +kernel
theorem dX8_told_164 : decode cX8_told 164 = .ok (.ireturn, 1) := by decide +kernel
theorem dX8_told_165 : decode cX8_told 165 = .ok (.aload_n 0, 1) := by decide +kernel
theorem dX8_told_166 : decode cX8_told 166 = .ok (.getfield 19, 3) := by decide +kernel
theorem dX8_told_169 : decode cX8_told 169 = .ok (.aload_n 0, 1) := by decide +kernel
theorem dX8_told_170 : decode cX8_told 170 = .ok (.getfield 49, 3) := by decide +kernel
theorem dX8_told_173 : decode cX8_told 173 = .ok (.invokestatic 116, 3) := by decide +kernel
theorem dX8_told_176 : decode cX8_told 176 = .ok (.ireturn, 1) := by decide +kernel
theorem dX8_told_177 : decode cX8_told 177 = .ok (.aload_n 0, 1) := by decide +kernel
theorem dX8_told_178 : decode cX8_told 178 = .ok (.getfield 19, 3) := by decide +kernel
theorem dX8_told_181 : decode cX8_told 181 = .ok (.aload_n 0, 1) := by decide +kernel
theorem dX8_told_182 : decode cX8_told 182 = .ok (.getfield 49, 3) := by decide +kernel
theorem dX8_told_185 : decode cX8_told 185 = .ok (.getfield 91, 3) := by decide +kernel
theorem dX8_told_188 : decode cX8_told 188 = .ok (.invokevirtual 120, 3) := by decide +kernel
theorem dX8_told_191 : decode cX8_told 191 = .ok (.ireturn, 1) := by decide +kernel
theorem dX8_told_192 : decode cX8_told 192 = .ok (.aload_n 0, 1) := by decide +kernel
theorem dX8_told_193 : decode cX8_told 193 = .ok (.getfield 36, 3) := by decide +kernel
theorem dX8_told_196 : decode cX8_told 196 = .ok (.getfield 124, 3) := by decide +kernel
theorem dX8_told_199 : decode cX8_told 199 = .ok (.ireturn, 1) := by decide +kernel
theorem dX8_told_200 : decode cX8_told 200 = .ok (.aload_n 0, 1) := by decide +kernel
theorem dX8_told_201 : decode cX8_told 201 = .ok (.getfield 36, 3) := by decide +kernel
theorem dX8_told_204 : decode cX8_told 204 = .ok (.getfield 127, 3) := by decide +kernel
theorem dX8_told_207 : decode cX8_told 207 = .ok (.ireturn, 1) := by decide +kernel
theorem dX8_told_208 : decode cX8_told 208 = .ok (.aload_n 0, 1) := by decide +kernel
theorem dX8_told_209 : decode cX8_told 209 = .ok (.getfield 29, 3) := by decide +kernel
theorem dX8_told_212 : decode cX8_told 212 = .ok (.getfield 130, 3) := by decide +kernel
theorem dX8_told_215 : decode cX8_told 215 = .ok (.ireturn, 1) := by decide +kernel
theorem dX8_told_216 : decode cX8_told 216 = .ok (.ldc 57, 2) := by decide +kernel
theorem dX8_told_218 : decode cX8_told 218 = .ok (.ireturn, 1) := by decide +kernel
set_option maxRecDepth 20000 in
theorem ggX8_card_X5_hasCard : GoodIn wsX8_card wsX5_hasCard := goodIn_r _ [15, 16, 43, 44, 45, 46, 47, 48, 49, 50, 51] (by decide +kernel) (by decide +kernel)
set_option maxRecDepth 20000 in
theorem gX8_card_X5_hasCard : GoodIn wsX8_card (wsV RX8 133 RX5 yX5_hasCard wsX5_hasCard) := goodIn_app (goodIn_of _ (by decide +kernel)) ggX8_card_X5_hasCard
set_option maxRecDepth 20000 in
theorem ggX8_card_X5_colourAt : GoodIn wsX8_card wsX5_colourAt := goodIn_r _ [20, 21, 22, 23, 14, 24, 43, 44, 45, 46, 47, 48, 49, 50, 51] (by decide +kernel) (by decide +kernel)
set_option maxRecDepth 20000 in
theorem gX8_card_X5_colourAt : GoodIn wsX8_card (wsV RX8 137 RX5 yX5_colourAt wsX5_colourAt) := goodIn_app (goodIn_of _ (by decide +kernel)) ggX8_card_X5_colourAt
theorem dX8_card_0 : decode cX8_card 0 = .ok (.aload_n 0, 1) := by decide +kernel
theorem dX8_card_1 : decode cX8_card 1 = .ok (.getfield 49, 3) := by decide +kernel
theorem dX8_card_4 : decode cX8_card 4 = .ok (.iload_n 1, 1) := by decide +kernel
theorem dX8_card_5 : decode cX8_card 5 = .ok (.invokevirtual 133, 3) := by decide +kernel
theorem dX8_card_8 : decode cX8_card 8 = .ok (.ifCond .ne 6, 3) := by decide +kernel
theorem dX8_card_11 : decode cX8_card 11 = .ok (.ldc 136, 2) := by decide +kernel
theorem dX8_card_13 : decode cX8_card 13 = .ok (.ireturn, 1) := by decide +kernel
theorem dX8_card_14 : decode cX8_card 14 = .ok (.iload_n 2, 1) := by decide +kernel
theorem dX8_card_15 : decode cX8_card 15 = .ok (.ifCond .lt 18, 3) := by decide +kernel
theorem dX8_card_18 : decode cX8_card 18 = .ok (.iload_n 2, 1) := by decide +kernel
theorem dX8_card_19 : decode cX8_card 19 = .ok (.iconst 4, 1) := by decide +kernel
theorem dX8_card_20 : decode cX8_card 20 = .ok (.if_icmp .ge 13, 3) := by decide +kernel
theorem dX8_card_23 : decode cX8_card 23 = .ok (.aload_n 0, 1) := by decide +kernel
theorem dX8_card_24 : decode cX8_card 24 = .ok (.getfield 49, 3) := by decide +kernel
theorem dX8_card_27 : decode cX8_card 27 = .ok (.iload_n 1, 1) := by decide +kernel
theorem dX8_card_28 : decode cX8_card 28 = .ok (.iload_n 2, 1) := by decide +kernel
theorem dX8_card_29 : decode cX8_card 29 = .ok (.invokevirtual 137, 3) := by decide +kernel
theorem dX8_card_32 : decode cX8_card 32 = .ok (.ireturn, 1) := by decide +kernel
theorem dX8_card_33 : decode cX8_card 33 = .ok (.iload_n 2, 1) := by decide +kernel
theorem dX8_card_34 : decode cX8_card 34 = .ok (.tableswitch 101 4 9 #[38, 48, 58, 71, 81, 91], 38) := by decide +kernel
theorem dX8_card_72 : decode cX8_card 72 = .ok (.aload_n 0, 1) := by decide +kernel
theorem dX8_card_73 : decode cX8_card 73 = .ok (.getfield 19, 3) := by decide +kernel
theorem dX8_card_76 : decode cX8_card 76 = .ok (.getfield 141, 3) := by decide +kernel
theorem dX8_card_79 : decode cX8_card 79 = .ok (.iload_n 1, 1) := by decide +kernel
theorem dX8_card_80 : decode cX8_card 80 = .ok (.iaload, 1) := by decide +kernel
theorem dX8_card_81 : decode cX8_card 81 = .ok (.ireturn, 1) := by decide +kernel
theorem dX8_card_82 : decode cX8_card 82 = .ok (.aload_n 0, 1) := by decide +kernel
theorem dX8_card_83 : decode cX8_card 83 = .ok (.getfield 19, 3) := by decide +kernel
theorem dX8_card_86 : decode cX8_card 86 = .ok (.getfield 145, 3) := by decide +kernel
theorem dX8_card_89 : decode cX8_card 89 = .ok (.iload_n 1, 1) := by decide +kernel
theorem dX8_card_90 : decode cX8_card 90 = .ok (.iaload, 1) := by decide +kernel
theorem dX8_card_91 : decode cX8_card 91 = .ok (.ireturn, 1) := by decide +kernel
theorem dX8_card_92 : decode cX8_card 92 = .ok (.aload_n 0, 1) := by decide +kernel
theorem dX8_card_93 : decode cX8_card 93 = .ok (.getfield 19, 3) := by decide +kernel
theorem dX8_card_96 : decode cX8_card 96 = .ok (.getfield 148, 3) := by decide +kernel
theorem dX8_card_99 : decode cX8_card 99 = .ok (.iload_n 1, 1) := by decide +kernel
theorem dX8_card_100 : decode cX8_card 100 = .ok (.iaload, 1) := by decide +kernel
theorem dX8_card_101 : decode cX8_card 101 = .ok (.bipush 99, 2) := by decide +kernel
theorem dX8_card_103 : decode cX8_card 103 = .ok (.iadd, 1) := by decide +kernel
theorem dX8_card_104 : decode cX8_card 104 = .ok (.ireturn, 1) := by decide +kernel
theorem dX8_card_105 : decode cX8_card 105 = .ok (.aload_n 0, 1) := by decide +kernel
theorem dX8_card_106 : decode cX8_card 106 = .ok (.getfield 19, 3) := by decide +kernel
theorem dX8_card_109 : decode cX8_card 109 = .ok (.getfield 151, 3) := by decide +kernel
theorem dX8_card_112 : decode cX8_card 112 = .ok (.iload_n 1, 1) := by decide +kernel
theorem dX8_card_113 : decode cX8_card 113 = .ok (.iaload, 1) := by decide +kernel
theorem dX8_card_114 : decode cX8_card 114 = .ok (.ireturn, 1) := by decide +kernel
theorem dX8_card_115 : decode cX8_card 115 = .ok (.aload_n 0, 1) := by decide +kernel
theorem dX8_card_116 : decode cX8_card 116 = .ok (.getfield 19, 3) := by decide +kernel
theorem dX8_card_119 : decode cX8_card 119 = .ok (.getfield 154, 3) := by decide +kernel
theorem dX8_card_122 : decode cX8_card 122 = .ok (.iload_n 1, 1) := by decide +kernel
theorem dX8_card_123 : decode cX8_card 123 = .ok (.iaload, 1) := by decide +kernel
theorem dX8_card_124 : decode cX8_card 124 = .ok (.ireturn, 1) := by decide +kernel
theorem dX8_card_125 : decode cX8_card 125 = .ok (.aload_n 0, 1) := by decide +kernel
theorem dX8_card_126 : decode cX8_card 126 = .ok (.getfield 49, 3) := by decide +kernel
theorem dX8_card_129 : decode cX8_card 129 = .ok (.getfield 157, 3) := by decide +kernel
theorem dX8_card_132 : decode cX8_card 132 = .ok (.iload_n 1, 1) := by decide +kernel
theorem dX8_card_133 : decode cX8_card 133 = .ok (.iaload, 1) := by decide +kernel
theorem dX8_card_134 : decode cX8_card 134 = .ok (.ireturn, 1) := by decide +kernel
theorem dX8_card_135 : decode cX8_card 135 = .ok (.ldc 57, 2) := by decide +kernel
theorem dX8_card_137 : decode cX8_card 137 = .ok (.ireturn, 1) := by decide +kernel
set_option maxRecDepth 20000 in
theorem ggX8_pack_X5_hasPack : GoodIn wsX8_pack wsX5_hasPack := goodIn_r _ [8, 9, 19, 20, 21, 22, 23, 24, 25, 26, 27] (by decide +kernel) (by decide +kernel)
set_option maxRecDepth 20000 in
theorem gX8_pack_X5_hasPack : GoodIn wsX8_pack (wsV RX8 160 RX5 yX5_hasPack wsX5_hasPack) := goodIn_app (goodIn_of _ (by decide +kernel)) ggX8_pack_X5_hasPack
theorem dX8_pack_0 : decode cX8_pack 0 = .ok (.aload_n 0, 1) := by decide +kernel
theorem dX8_pack_1 : decode cX8_pack 1 = .ok (.getfield 49, 3) := by decide +kernel
theorem dX8_pack_4 : decode cX8_pack 4 = .ok (.iload_n 1, 1) := by decide +kernel
theorem dX8_pack_5 : decode cX8_pack 5 = .ok (.invokevirtual 160, 3) := by decide +kernel
theorem dX8_pack_8 : decode cX8_pack 8 = .ok (.ifCond .eq 15, 3) := by decide +kernel
theorem dX8_pack_11 : decode cX8_pack 11 = .ok (.aload_n 0, 1) := by decide +kernel
theorem dX8_pack_12 : decode cX8_pack 12 = .ok (.getfield 49, 3) := by decide +kernel
theorem dX8_pack_15 : decode cX8_pack 15 = .ok (.getfield 163, 3) := by decide +kernel
theorem dX8_pack_18 : decode cX8_pack 18 = .ok (.iload_n 1, 1) := by decide +kernel
theorem dX8_pack_19 : decode cX8_pack 19 = .ok (.iaload, 1) := by decide +kernel
theorem dX8_pack_20 : decode cX8_pack 20 = .ok (.goto 5, 3) := by decide +kernel
theorem dX8_pack_23 : decode cX8_pack 23 = .ok (.ldc 136, 2) := by decide +kernel
theorem dX8_pack_25 : decode cX8_pack 25 = .ok (.ireturn, 1) := by decide +kernel
set_option maxRecDepth 20000 in
theorem ggX8_yarn_X5_hasColour : GoodIn wsX8_yarn wsX5_hasColour := goodIn_r _ [9, 10, 29, 30, 31, 32, 33, 34, 35, 36, 37] (by decide +kernel) (by decide +kernel)
set_option maxRecDepth 20000 in
theorem gX8_yarn_X5_hasColour : GoodIn wsX8_yarn (wsV RX8 166 RX5 yX5_hasColour wsX5_hasColour) := goodIn_app (goodIn_of _ (by decide +kernel)) ggX8_yarn_X5_hasColour
theorem dX8_yarn_0 : decode cX8_yarn 0 = .ok (.aload_n 0, 1) := by decide +kernel
theorem dX8_yarn_1 : decode cX8_yarn 1 = .ok (.getfield 49, 3) := by decide +kernel
theorem dX8_yarn_4 : decode cX8_yarn 4 = .ok (.iload_n 1, 1) := by decide +kernel
theorem dX8_yarn_5 : decode cX8_yarn 5 = .ok (.invokevirtual 166, 3) := by decide +kernel
theorem dX8_yarn_8 : decode cX8_yarn 8 = .ok (.ifCond .eq 15, 3) := by decide +kernel
theorem dX8_yarn_11 : decode cX8_yarn 11 = .ok (.aload_n 0, 1) := by decide +kernel
theorem dX8_yarn_12 : decode cX8_yarn 12 = .ok (.getfield 19, 3) := by decide +kernel
theorem dX8_yarn_15 : decode cX8_yarn 15 = .ok (.getfield 169, 3) := by decide +kernel
theorem dX8_yarn_18 : decode cX8_yarn 18 = .ok (.iload_n 1, 1) := by decide +kernel
theorem dX8_yarn_19 : decode cX8_yarn 19 = .ok (.iaload, 1) := by decide +kernel
theorem dX8_yarn_20 : decode cX8_yarn 20 = .ok (.goto 5, 3) := by decide +kernel
theorem dX8_yarn_23 : decode cX8_yarn 23 = .ok (.ldc 136, 2) := by decide +kernel
theorem dX8_yarn_25 : decode cX8_yarn 25 = .ok (.ireturn, 1) := by decide +kernel
set_option maxRecDepth 20000 in
theorem ggX8_row_X5_hasCard : GoodIn wsX8_row wsX5_hasCard := goodIn_r _ [8, 9, 41, 42, 43, 44, 45, 46, 47, 48, 49] (by decide +kernel) (by decide +kernel)
set_option maxRecDepth 20000 in
theorem gX8_row_X5_hasCard : GoodIn wsX8_row (wsV RX8 133 RX5 yX5_hasCard wsX5_hasCard) := goodIn_app (goodIn_of _ (by decide +kernel)) ggX8_row_X5_hasCard
set_option maxRecDepth 20000 in
theorem ggX8_row_X7_showedAt : GoodIn wsX8_row wsX7_showedAt := goodIn_r _ [14, 15, 16, 17, 18, 19, 13, 20, 21, 22, 23, 24, 25, 26, 27, 28, 29, 30, 31, 50, 51, 52, 53, 54, 55, 56, 57, 58] (by decide +kernel) (by decide +kernel)
set_option maxRecDepth 20000 in
theorem gX8_row_X7_showedAt : GoodIn wsX8_row (wsV RX8 172 RX7 yX7_showedAt wsX7_showedAt) := goodIn_app (goodIn_of _ (by decide +kernel)) ggX8_row_X7_showedAt
theorem dX8_row_0 : decode cX8_row 0 = .ok (.aload_n 0, 1) := by decide +kernel
theorem dX8_row_1 : decode cX8_row 1 = .ok (.getfield 49, 3) := by decide +kernel
theorem dX8_row_4 : decode cX8_row 4 = .ok (.iload_n 2, 1) := by decide +kernel
theorem dX8_row_5 : decode cX8_row 5 = .ok (.invokevirtual 133, 3) := by decide +kernel
theorem dX8_row_8 : decode cX8_row 8 = .ok (.ifCond .eq 15, 3) := by decide +kernel
theorem dX8_row_11 : decode cX8_row 11 = .ok (.aload_n 0, 1) := by decide +kernel
theorem dX8_row_12 : decode cX8_row 12 = .ok (.getfield 19, 3) := by decide +kernel
theorem dX8_row_15 : decode cX8_row 15 = .ok (.iload_n 1, 1) := by decide +kernel
theorem dX8_row_16 : decode cX8_row 16 = .ok (.iload_n 2, 1) := by decide +kernel
theorem dX8_row_17 : decode cX8_row 17 = .ok (.invokevirtual 172, 3) := by decide +kernel
theorem dX8_row_20 : decode cX8_row 20 = .ok (.goto 5, 3) := by decide +kernel
theorem dX8_row_23 : decode cX8_row 23 = .ok (.ldc 136, 2) := by decide +kernel
theorem dX8_row_25 : decode cX8_row 25 = .ok (.ireturn, 1) := by decide +kernel
set_option maxRecDepth 20000 in
theorem ggX8_pick_X5_takesMoves : GoodIn wsX8_pick wsX5_takesMoves := goodIn_r _ [12, 13, 132, 133, 134, 135, 136, 137, 138, 139, 140] (by decide +kernel) (by decide +kernel)
set_option maxRecDepth 20000 in
theorem gX8_pick_X5_takesMoves : GoodIn wsX8_pick (wsV RX8 175 RX5 yX5_takesMoves wsX5_takesMoves) := goodIn_app (goodIn_of _ (by decide +kernel)) ggX8_pick_X5_takesMoves
set_option maxRecDepth 20000 in
theorem ggX8_pick_X5_isMade : GoodIn wsX8_pick wsX5_isMade := goodIn_r _ [17, 18, 132, 133, 134, 135, 136, 137, 138, 139, 140] (by decide +kernel) (by decide +kernel)
set_option maxRecDepth 20000 in
theorem gX8_pick_X5_isMade : GoodIn wsX8_pick (wsV RX8 178 RX5 yX5_isMade wsX5_isMade) := goodIn_app (goodIn_of _ (by decide +kernel)) ggX8_pick_X5_isMade
set_option maxRecDepth 20000 in
theorem ggX8_pick_X8_countPicks : GoodIn wsX8_pick wsX8_countPicks := goodIn_r _ [23, 24, 4, 1, 25, 26, 27, 28, 29, 30, 31, 32, 33, 34, 35, 36, 37, 38, 39, 40, 41, 42, 43, 44, 45, 46, 47, 48, 49, 50, 51, 52, 53, 11, 54, 55, 56, 57, 58, 59, 60, 61, 62, 63, 64, 65, 66, 67, 68, 69, 70, 71, 72, 73, 74, 75, 76, 77, 78, 79, 80, 81, 82, 83, 84, 85, 86, 87, 88, 89, 90, 91, 92, 93, 94, 95, 96, 114, 115, 116, 117, 118, 119, 120, 121, 122, 123, 124, 125, 126, 127, 128, 129, 130, 131, 132, 133, 134, 135, 136, 137, 138, 139, 140] (by decide +kernel) (by decide +kernel)
set_option maxRecDepth 20000 in
theorem gX8_pick_X8_countPicks : GoodIn wsX8_pick (wsV RX8 182 RX8 yX8_countPicks wsX8_countPicks) := goodIn_app (goodIn_of _ (by decide +kernel)) ggX8_pick_X8_countPicks
set_option maxRecDepth 20000 in
theorem ggX8_pick_X1_remember : GoodIn wsX8_pick wsX1_remember := goodIn_r _ [101, 102, 103, 104, 105, 106, 107, 108, 109, 110, 100, 111, 112, 113, 26, 27, 28, 29, 30, 31, 32, 33, 34, 35, 36, 37, 38, 39, 40, 41, 141, 142, 143, 123, 124, 125, 126, 127, 128, 129, 130, 131] (by decide +kernel) (by decide +kernel)
set_option maxRecDepth 20000 in
theorem gX8_pick_X1_remember : GoodIn wsX8_pick (wsV RX8 186 RX1 yX1_remember wsX1_remember) := goodIn_app (goodIn_of _ (by decide +kernel)) ggX8_pick_X1_remember
set_option maxRecDepth 20000 in
theorem ggX8_pick_X7_weaveOnce : GoodIn wsX8_pick wsX7_weaveOnce := goodIn_r _ [45, 46, 47, 48, 49, 28, 50, 36, 51, 52, 53, 11, 54, 55, 56, 57, 58, 59, 60, 61, 39, 62, 63, 64, 65, 66, 67, 68, 69, 70, 71, 72, 73, 35, 74, 75, 76, 77, 78, 79, 80, 81, 82, 83, 84, 85, 38, 30, 37, 86, 87, 88, 89, 40, 41, 31, 32, 33, 34, 90, 91, 92, 93, 94, 95, 96, 132, 133, 134, 135, 136, 137, 138, 139, 140, 123, 124, 125, 126, 127, 128, 129, 130, 131] (by decide +kernel) (by decide +kernel)
set_option maxRecDepth 20000 in
theorem gX8_pick_X7_weaveOnce : GoodIn wsX8_pick (wsV RX8 190 RX7 yX7_weaveOnce wsX7_weaveOnce) := goodIn_app (goodIn_of _ (by decide +kernel)) ggX8_pick_X7_weaveOnce
theorem dX8_pick_0 : decode cX8_pick 0 = .ok (.aload_n 0, 1) := by decide +kernel
theorem dX8_pick_1 : decode cX8_pick 1 = .ok (.getfield 49, 3) := by decide +kernel
theorem dX8_pick_4 : decode cX8_pick 4 = .ok (.iload_n 1, 1) := by decide +kernel
theorem dX8_pick_5 : decode cX8_pick 5 = .ok (.invokevirtual 175, 3) := by decide +kernel
theorem dX8_pick_8 : decode cX8_pick 8 = .ok (.ifCond .eq 14, 3) := by decide +kernel
theorem dX8_pick_11 : decode cX8_pick 11 = .ok (.iload_n 2, 1) := by decide +kernel
theorem dX8_pick_12 : decode cX8_pick 12 = .ok (.iconst 1, 1) := by decide +kernel
theorem dX8_pick_13 : decode cX8_pick 13 = .ok (.if_icmp .lt 9, 3) := by decide +kernel
theorem dX8_pick_16 : decode cX8_pick 16 = .ok (.iload_n 2, 1) := by decide +kernel
theorem dX8_pick_17 : decode cX8_pick 17 = .ok (.bipush 30, 2) := by decide +kernel
theorem dX8_pick_19 : decode cX8_pick 19 = .ok (.if_icmp .le 6, 3) := by decide +kernel
theorem dX8_pick_22 : decode cX8_pick 22 = .ok (.ldc 57, 2) := by decide +kernel
theorem dX8_pick_24 : decode cX8_pick 24 = .ok (.ireturn, 1) := by decide +kernel
theorem dX8_pick_25 : decode cX8_pick 25 = .ok (.aload_n 0, 1) := by decide +kernel
theorem dX8_pick_26 : decode cX8_pick 26 = .ok (.getfield 49, 3) := by decide +kernel
theorem dX8_pick_29 : decode cX8_pick 29 = .ok (.invokevirtual 178, 3) := by decide +kernel
theorem dX8_pick_32 : decode cX8_pick 32 = .ok (.ifCond .eq 13, 3) := by decide +kernel
theorem dX8_pick_35 : decode cX8_pick 35 = .ok (.aload_n 0, 1) := by decide +kernel
theorem dX8_pick_36 : decode cX8_pick 36 = .ok (.iload_n 1, 1) := by decide +kernel
theorem dX8_pick_37 : decode cX8_pick 37 = .ok (.iload_n 2, 1) := by decide +kernel
theorem dX8_pick_38 : decode cX8_pick 38 = .ok (.invokevirtual 182, 3) := by decide +kernel
theorem dX8_pick_41 : decode cX8_pick 41 = .ok (.iload_n 2, 1) := by decide +kernel
theorem dX8_pick_42 : decode cX8_pick 42 = .ok (.if_icmp .ge 6, 3) := by decide +kernel
theorem dX8_pick_45 : decode cX8_pick 45 = .ok (.ldc 185, 2) := by decide +kernel
theorem dX8_pick_47 : decode cX8_pick 47 = .ok (.ireturn, 1) := by decide +kernel
theorem dX8_pick_48 : decode cX8_pick 48 = .ok (.aload_n 0, 1) := by decide +kernel
theorem dX8_pick_49 : decode cX8_pick 49 = .ok (.getfield 19, 3) := by decide +kernel
theorem dX8_pick_52 : decode cX8_pick 52 = .ok (.getfield 97, 3) := by decide +kernel
theorem dX8_pick_55 : decode cX8_pick 55 = .ok (.sipush 9000, 3) := by decide +kernel
theorem dX8_pick_58 : decode cX8_pick 58 = .ok (.if_icmp .le 6, 3) := by decide +kernel
theorem dX8_pick_61 : decode cX8_pick 61 = .ok (.ldc 62, 2) := by decide +kernel
theorem dX8_pick_63 : decode cX8_pick 63 = .ok (.ireturn, 1) := by decide +kernel
theorem dX8_pick_64 : decode cX8_pick 64 = .ok (.iconst 0, 1) := by decide +kernel
theorem dX8_pick_65 : decode cX8_pick 65 = .ok (.istore_n 3, 1) := by decide +kernel
theorem dX8_pick_66 : decode cX8_pick 66 = .ok (.iload_n 3, 1) := by decide +kernel
theorem dX8_pick_67 : decode cX8_pick 67 = .ok (.iload_n 2, 1) := by decide +kernel
theorem dX8_pick_68 : decode cX8_pick 68 = .ok (.if_icmp .ge 33, 3) := by decide +kernel
theorem dX8_pick_71 : decode cX8_pick 71 = .ok (.aload_n 0, 1) := by decide +kernel
theorem dX8_pick_72 : decode cX8_pick 72 = .ok (.getfield 29, 3) := by decide +kernel
theorem dX8_pick_75 : decode cX8_pick 75 = .ok (.aload_n 0, 1) := by decide +kernel
theorem dX8_pick_76 : decode cX8_pick 76 = .ok (.getfield 19, 3) := by decide +kernel
theorem dX8_pick_79 : decode cX8_pick 79 = .ok (.invokevirtual 186, 3) := by decide +kernel
theorem dX8_pick_82 : decode cX8_pick 82 = .ok (.aload_n 0, 1) := by decide +kernel
theorem dX8_pick_83 : decode cX8_pick 83 = .ok (.getfield 19, 3) := by decide +kernel
theorem dX8_pick_86 : decode cX8_pick 86 = .ok (.aload_n 0, 1) := by decide +kernel
theorem dX8_pick_87 : decode cX8_pick 87 = .ok (.getfield 49, 3) := by decide +kernel
theorem dX8_pick_90 : decode cX8_pick 90 = .ok (.iload_n 1, 1) := by decide +kernel
theorem dX8_pick_91 : decode cX8_pick 91 = .ok (.invokevirtual 190, 3) := by decide +kernel
theorem dX8_pick_94 : decode cX8_pick 94 = .ok (.pop, 1) := by decide +kernel
theorem dX8_pick_95 : decode cX8_pick 95 = .ok (.iinc 3 1, 3) := by decide +kernel
theorem dX8_pick_98 : decode cX8_pick 98 = .ok (.goto (-32), 3) := by decide +kernel
theorem dX8_pick_101 : decode cX8_pick 101 = .ok (.aload_n 0, 1) := by decide +kernel
theorem dX8_pick_102 : decode cX8_pick 102 = .ok (.getfield 19, 3) := by decide +kernel
theorem dX8_pick_105 : decode cX8_pick 105 = .ok (.getfield 97, 3) := by decide +kernel
theorem dX8_pick_108 : decode cX8_pick 108 = .ok (.ireturn, 1) := by decide +kernel
set_option maxRecDepth 20000 in
theorem ggX8_flip_X5_hasCard : GoodIn wsX8_flip wsX5_hasCard := goodIn_r _ [10, 11, 63, 64, 65, 66, 67, 68, 69, 70, 71] (by decide +kernel) (by decide +kernel)
set_option maxRecDepth 20000 in
theorem gX8_flip_X5_hasCard : GoodIn wsX8_flip (wsV RX8 133 RX5 yX5_hasCard wsX5_hasCard) := goodIn_app (goodIn_of _ (by decide +kernel)) ggX8_flip_X5_hasCard
set_option maxRecDepth 20000 in
theorem ggX8_flip_X1_remember : GoodIn wsX8_flip wsX1_remember := goodIn_r _ [16, 17, 18, 19, 20, 21, 22, 23, 24, 25, 15, 26, 27, 28, 29, 30, 31, 32, 33, 34, 35, 36, 37, 38, 39, 40, 41, 42, 43, 44, 72, 73, 74, 54, 55, 56, 57, 58, 59, 60, 61, 62] (by decide +kernel) (by decide +kernel)
set_option maxRecDepth 20000 in
theorem gX8_flip_X1_remember : GoodIn wsX8_flip (wsV RX8 186 RX1 yX1_remember wsX1_remember) := goodIn_app (goodIn_of _ (by decide +kernel)) ggX8_flip_X1_remember
theorem dX8_flip_0 : decode cX8_flip 0 = .ok (.aload_n 0, 1) := by decide +kernel
theorem dX8_flip_1 : decode cX8_flip 1 = .ok (.getfield 49, 3) := by decide +kernel
theorem dX8_flip_4 : decode cX8_flip 4 = .ok (.iload_n 1, 1) := by decide +kernel
theorem dX8_flip_5 : decode cX8_flip 5 = .ok (.invokevirtual 133, 3) := by decide +kernel
theorem dX8_flip_8 : decode cX8_flip 8 = .ok (.ifCond .ne 6, 3) := by decide +kernel
theorem dX8_flip_11 : decode cX8_flip 11 = .ok (.ldc 136, 2) := by decide +kernel
theorem dX8_flip_13 : decode cX8_flip 13 = .ok (.ireturn, 1) := by decide +kernel
theorem dX8_flip_14 : decode cX8_flip 14 = .ok (.aload_n 0, 1) := by decide +kernel
theorem dX8_flip_15 : decode cX8_flip 15 = .ok (.getfield 29, 3) := by decide +kernel
theorem dX8_flip_18 : decode cX8_flip 18 = .ok (.aload_n 0, 1) := by decide +kernel
theorem dX8_flip_19 : decode cX8_flip 19 = .ok (.getfield 19, 3) := by decide +kernel
theorem dX8_flip_22 : decode cX8_flip 22 = .ok (.invokevirtual 186, 3) := by decide +kernel
theorem dX8_flip_25 : decode cX8_flip 25 = .ok (.aload_n 0, 1) := by decide +kernel
theorem dX8_flip_26 : decode cX8_flip 26 = .ok (.getfield 19, 3) := by decide +kernel
theorem dX8_flip_29 : decode cX8_flip 29 = .ok (.getfield 141, 3) := by decide +kernel
theorem dX8_flip_32 : decode cX8_flip 32 = .ok (.iload_n 1, 1) := by decide +kernel
theorem dX8_flip_33 : decode cX8_flip 33 = .ok (.iconst 1, 1) := by decide +kernel
theorem dX8_flip_34 : decode cX8_flip 34 = .ok (.aload_n 0, 1) := by decide +kernel
theorem dX8_flip_35 : decode cX8_flip 35 = .ok (.getfield 19, 3) := by decide +kernel
theorem dX8_flip_38 : decode cX8_flip 38 = .ok (.getfield 141, 3) := by decide +kernel
theorem dX8_flip_41 : decode cX8_flip 41 = .ok (.iload_n 1, 1) := by decide +kernel
theorem dX8_flip_42 : decode cX8_flip 42 = .ok (.iaload, 1) := by decide +kernel
theorem dX8_flip_43 : decode cX8_flip 43 = .ok (.isub, 1) := by decide +kernel
theorem dX8_flip_44 : decode cX8_flip 44 = .ok (.iastore, 1) := by decide +kernel
theorem dX8_flip_45 : decode cX8_flip 45 = .ok (.aload_n 0, 1) := by decide +kernel
theorem dX8_flip_46 : decode cX8_flip 46 = .ok (.getfield 19, 3) := by decide +kernel
theorem dX8_flip_49 : decode cX8_flip 49 = .ok (.getfield 141, 3) := by decide +kernel
theorem dX8_flip_52 : decode cX8_flip 52 = .ok (.iload_n 1, 1) := by decide +kernel
theorem dX8_flip_53 : decode cX8_flip 53 = .ok (.iaload, 1) := by decide +kernel
theorem dX8_flip_54 : decode cX8_flip 54 = .ok (.ireturn, 1) := by decide +kernel
set_option maxRecDepth 20000 in
theorem ggX8_shift_X5_hasCard : GoodIn wsX8_shift wsX5_hasCard := goodIn_r _ [11, 12, 64, 65, 66, 67, 68, 69, 70, 71, 72] (by decide +kernel) (by decide +kernel)
set_option maxRecDepth 20000 in
theorem gX8_shift_X5_hasCard : GoodIn wsX8_shift (wsV RX8 133 RX5 yX5_hasCard wsX5_hasCard) := goodIn_app (goodIn_of _ (by decide +kernel)) ggX8_shift_X5_hasCard
set_option maxRecDepth 20000 in
theorem ggX8_shift_X1_remember : GoodIn wsX8_shift wsX1_remember := goodIn_r _ [17, 18, 19, 20, 21, 22, 23, 24, 25, 26, 16, 27, 28, 29, 30, 31, 32, 33, 34, 35, 36, 37, 38, 39, 40, 41, 42, 43, 44, 45, 73, 74, 75, 55, 56, 57, 58, 59, 60, 61, 62, 63] (by decide +kernel) (by decide +kernel)
set_option maxRecDepth 20000 in
theorem gX8_shift_X1_remember : GoodIn wsX8_shift (wsV RX8 186 RX1 yX1_remember wsX1_remember) := goodIn_app (goodIn_of _ (by decide +kernel)) ggX8_shift_X1_remember
theorem dX8_shift_0 : decode cX8_shift 0 = .ok (.aload_n 0, 1) := by decide +kernel
theorem dX8_shift_1 : decode cX8_shift 1 = .ok (.getfield 49, 3) := by decide +kernel
theorem dX8_shift_4 : decode cX8_shift 4 = .ok (.iload_n 1, 1) := by decide +kernel
theorem dX8_shift_5 : decode cX8_shift 5 = .ok (.invokevirtual 133, 3) := by decide +kernel
theorem dX8_shift_8 : decode cX8_shift 8 = .ok (.ifCond .ne 6, 3) := by decide +kernel
theorem dX8_shift_11 : decode cX8_shift 11 = .ok (.ldc 136, 2) := by decide +kernel
theorem dX8_shift_13 : decode cX8_shift 13 = .ok (.ireturn, 1) := by decide +kernel
theorem dX8_shift_14 : decode cX8_shift 14 = .ok (.iload_n 2, 1) := by decide +kernel
theorem dX8_shift_15 : decode cX8_shift 15 = .ok (.ifCond .lt 8, 3) := by decide +kernel
theorem dX8_shift_18 : decode cX8_shift 18 = .ok (.iload_n 2, 1) := by decide +kernel
theorem dX8_shift_19 : decode cX8_shift 19 = .ok (.iconst 4, 1) := by decide +kernel
theorem dX8_shift_20 : decode cX8_shift 20 = .ok (.if_icmp .lt 6, 3) := by decide +kernel
theorem dX8_shift_23 : decode cX8_shift 23 = .ok (.ldc 57, 2) := by decide +kernel
theorem dX8_shift_25 : decode cX8_shift 25 = .ok (.ireturn, 1) := by decide +kernel
theorem dX8_shift_26 : decode cX8_shift 26 = .ok (.aload_n 0, 1) := by decide +kernel
theorem dX8_shift_27 : decode cX8_shift 27 = .ok (.getfield 29, 3) := by decide +kernel
theorem dX8_shift_30 : decode cX8_shift 30 = .ok (.aload_n 0, 1) := by decide +kernel
theorem dX8_shift_31 : decode cX8_shift 31 = .ok (.getfield 19, 3) := by decide +kernel
theorem dX8_shift_34 : decode cX8_shift 34 = .ok (.invokevirtual 186, 3) := by decide +kernel
theorem dX8_shift_37 : decode cX8_shift 37 = .ok (.aload_n 0, 1) := by decide +kernel
theorem dX8_shift_38 : decode cX8_shift 38 = .ok (.getfield 19, 3) := by decide +kernel
theorem dX8_shift_41 : decode cX8_shift 41 = .ok (.getfield 145, 3) := by decide +kernel
theorem dX8_shift_44 : decode cX8_shift 44 = .ok (.iload_n 1, 1) := by decide +kernel
theorem dX8_shift_45 : decode cX8_shift 45 = .ok (.aload_n 0, 1) := by decide +kernel
theorem dX8_shift_46 : decode cX8_shift 46 = .ok (.getfield 19, 3) := by decide +kernel
theorem dX8_shift_49 : decode cX8_shift 49 = .ok (.getfield 145, 3) := by decide +kernel
theorem dX8_shift_52 : decode cX8_shift 52 = .ok (.iload_n 1, 1) := by decide +kernel
theorem dX8_shift_53 : decode cX8_shift 53 = .ok (.iaload, 1) := by decide +kernel
theorem dX8_shift_54 : decode cX8_shift 54 = .ok (.iload_n 2, 1) := by decide +kernel
theorem dX8_shift_55 : decode cX8_shift 55 = .ok (.iadd, 1) := by decide +kernel
theorem dX8_shift_56 : decode cX8_shift 56 = .ok (.iconst 3, 1) := by decide +kernel
theorem dX8_shift_57 : decode cX8_shift 57 = .ok (.iand, 1) := by decide +kernel
theorem dX8_shift_58 : decode cX8_shift 58 = .ok (.iastore, 1) := by decide +kernel
theorem dX8_shift_59 : decode cX8_shift 59 = .ok (.aload_n 0, 1) := by decide +kernel
theorem dX8_shift_60 : decode cX8_shift 60 = .ok (.getfield 19, 3) := by decide +kernel
theorem dX8_shift_63 : decode cX8_shift 63 = .ok (.getfield 145, 3) := by decide +kernel
theorem dX8_shift_66 : decode cX8_shift 66 = .ok (.iload_n 1, 1) := by decide +kernel
theorem dX8_shift_67 : decode cX8_shift 67 = .ok (.iaload, 1) := by decide +kernel
theorem dX8_shift_68 : decode cX8_shift 68 = .ok (.ireturn, 1) := by decide +kernel
set_option maxRecDepth 20000 in
theorem ggX8_buy_X5_hasColour : GoodIn wsX8_buy wsX5_hasColour := goodIn_r _ [15, 16, 65, 66, 67, 68, 69, 70, 71, 72, 73] (by decide +kernel) (by decide +kernel)
set_option maxRecDepth 20000 in
theorem gX8_buy_X5_hasColour : GoodIn wsX8_buy (wsV RX8 166 RX5 yX5_hasColour wsX5_hasColour) := goodIn_app (goodIn_of _ (by decide +kernel)) ggX8_buy_X5_hasColour
set_option maxRecDepth 20000 in
theorem ggX8_buy_X1_remember : GoodIn wsX8_buy wsX1_remember := goodIn_r _ [21, 22, 23, 24, 8, 9, 10, 25, 26, 27, 20, 28, 29, 30, 31, 32, 33, 34, 35, 36, 37, 38, 39, 40, 41, 42, 43, 44, 45, 46, 74, 75, 76, 56, 57, 58, 59, 60, 61, 62, 63, 64] (by decide +kernel) (by decide +kernel)
set_option maxRecDepth 20000 in
theorem gX8_buy_X1_remember : GoodIn wsX8_buy (wsV RX8 186 RX1 yX1_remember wsX1_remember) := goodIn_app (goodIn_of _ (by decide +kernel)) ggX8_buy_X1_remember
theorem dX8_buy_0 : decode cX8_buy 0 = .ok (.aload_n 0, 1) := by decide +kernel
theorem dX8_buy_1 : decode cX8_buy 1 = .ok (.getfield 49, 3) := by decide +kernel
theorem dX8_buy_4 : decode cX8_buy 4 = .ok (.iload_n 1, 1) := by decide +kernel
theorem dX8_buy_5 : decode cX8_buy 5 = .ok (.invokevirtual 166, 3) := by decide +kernel
theorem dX8_buy_8 : decode cX8_buy 8 = .ok (.ifCond .ne 6, 3) := by decide +kernel
theorem dX8_buy_11 : decode cX8_buy 11 = .ok (.ldc 136, 2) := by decide +kernel
theorem dX8_buy_13 : decode cX8_buy 13 = .ok (.ireturn, 1) := by decide +kernel
theorem dX8_buy_14 : decode cX8_buy 14 = .ok (.iload_n 2, 1) := by decide +kernel
theorem dX8_buy_15 : decode cX8_buy 15 = .ok (.iconst 1, 1) := by decide +kernel
theorem dX8_buy_16 : decode cX8_buy 16 = .ok (.if_icmp .lt 10, 3) := by decide +kernel
theorem dX8_buy_19 : decode cX8_buy 19 = .ok (.iload_n 2, 1) := by decide +kernel
theorem dX8_buy_20 : decode cX8_buy 20 = .ok (.sipush 999, 3) := by decide +kernel
theorem dX8_buy_23 : decode cX8_buy 23 = .ok (.if_icmp .le 6, 3) := by decide +kernel
theorem dX8_buy_26 : decode cX8_buy 26 = .ok (.ldc 57, 2) := by decide +kernel
theorem dX8_buy_28 : decode cX8_buy 28 = .ok (.ireturn, 1) := by decide +kernel
theorem dX8_buy_29 : decode cX8_buy 29 = .ok (.aload_n 0, 1) := by decide +kernel
theorem dX8_buy_30 : decode cX8_buy 30 = .ok (.getfield 29, 3) := by decide +kernel
theorem dX8_buy_33 : decode cX8_buy 33 = .ok (.aload_n 0, 1) := by decide +kernel
theorem dX8_buy_34 : decode cX8_buy 34 = .ok (.getfield 19, 3) := by decide +kernel
theorem dX8_buy_37 : decode cX8_buy 37 = .ok (.invokevirtual 186, 3) := by decide +kernel
theorem dX8_buy_40 : decode cX8_buy 40 = .ok (.aload_n 0, 1) := by decide +kernel
theorem dX8_buy_41 : decode cX8_buy 41 = .ok (.getfield 19, 3) := by decide +kernel
theorem dX8_buy_44 : decode cX8_buy 44 = .ok (.getfield 169, 3) := by decide +kernel
theorem dX8_buy_47 : decode cX8_buy 47 = .ok (.iload_n 1, 1) := by decide +kernel
theorem dX8_buy_48 : decode cX8_buy 48 = .ok (.sipush 999, 3) := by decide +kernel
theorem dX8_buy_51 : decode cX8_buy 51 = .ok (.aload_n 0, 1) := by decide +kernel
theorem dX8_buy_52 : decode cX8_buy 52 = .ok (.getfield 19, 3) := by decide +kernel
theorem dX8_buy_55 : decode cX8_buy 55 = .ok (.getfield 169, 3) := by decide +kernel
theorem dX8_buy_58 : decode cX8_buy 58 = .ok (.iload_n 1, 1) := by decide +kernel
theorem dX8_buy_59 : decode cX8_buy 59 = .ok (.iaload, 1) := by decide +kernel
theorem dX8_buy_60 : decode cX8_buy 60 = .ok (.iload_n 2, 1) := by decide +kernel
theorem dX8_buy_61 : decode cX8_buy 61 = .ok (.iadd, 1) := by decide +kernel
theorem dX8_buy_62 : decode cX8_buy 62 = .ok (.invokestatic 194, 3) := by decide +kernel
theorem dX8_buy_65 : decode cX8_buy 65 = .ok (.iastore, 1) := by decide +kernel
theorem dX8_buy_66 : decode cX8_buy 66 = .ok (.aload_n 0, 1) := by decide +kernel
theorem dX8_buy_67 : decode cX8_buy 67 = .ok (.getfield 19, 3) := by decide +kernel
theorem dX8_buy_70 : decode cX8_buy 70 = .ok (.getfield 169, 3) := by decide +kernel
theorem dX8_buy_73 : decode cX8_buy 73 = .ok (.iload_n 1, 1) := by decide +kernel
theorem dX8_buy_74 : decode cX8_buy 74 = .ok (.iaload, 1) := by decide +kernel
theorem dX8_buy_75 : decode cX8_buy 75 = .ok (.ireturn, 1) := by decide +kernel
set_option maxRecDepth 20000 in
theorem ggX8_drift_X5_isMade : GoodIn wsX8_drift wsX5_isMade := goodIn_r _ [12, 13, 136, 137, 138, 139, 140, 141, 142, 143, 144] (by decide +kernel) (by decide +kernel)
set_option maxRecDepth 20000 in
theorem gX8_drift_X5_isMade : GoodIn wsX8_drift (wsV RX8 178 RX5 yX5_isMade wsX5_isMade) := goodIn_app (goodIn_of _ (by decide +kernel)) ggX8_drift_X5_isMade
set_option maxRecDepth 20000 in
theorem ggX8_drift_X1_remember : GoodIn wsX8_drift wsX1_remember := goodIn_r _ [18, 19, 20, 21, 22, 23, 24, 25, 26, 27, 17, 28, 29, 30, 31, 32, 33, 34, 35, 36, 37, 38, 39, 40, 41, 42, 43, 44, 45, 46, 145, 146, 147, 127, 128, 129, 130, 131, 132, 133, 134, 135] (by decide +kernel) (by decide +kernel)
set_option maxRecDepth 20000 in
theorem gX8_drift_X1_remember : GoodIn wsX8_drift (wsV RX8 186 RX1 yX1_remember wsX1_remember) := goodIn_app (goodIn_of _ (by decide +kernel)) ggX8_drift_X1_remember
set_option maxRecDepth 20000 in
theorem ggX8_drift_X8_drawMoves : GoodIn wsX8_drift wsX8_drawMoves := goodIn_r _ [51, 2, 52, 53, 54, 55, 50, 56, 57, 58, 59, 60, 61, 62, 118, 119, 120, 121, 122, 123, 124, 125, 126, 136, 137, 138, 139, 140, 141, 142, 143, 144] (by decide +kernel) (by decide +kernel)
set_option maxRecDepth 20000 in
theorem gX8_drift_X8_drawMoves : GoodIn wsX8_drift (wsV RX8 199 RX8 yX8_drawMoves wsX8_drawMoves) := goodIn_app (goodIn_of _ (by decide +kernel)) ggX8_drift_X8_drawMoves
set_option maxRecDepth 20000 in
theorem ggX8_drift_X7_weaveOnce : GoodIn wsX8_drift wsX7_weaveOnce := goodIn_r _ [66, 67, 68, 69, 70, 33, 71, 41, 72, 73, 74, 11, 75, 76, 77, 78, 79, 80, 81, 82, 44, 83, 84, 85, 86, 87, 88, 89, 90, 91, 92, 93, 94, 40, 95, 96, 97, 98, 99, 100, 101, 102, 103, 104, 105, 106, 43, 35, 42, 107, 108, 109, 110, 45, 46, 36, 37, 38, 39, 111, 112, 113, 114, 115, 116, 117, 136, 137, 138, 139, 140, 141, 142, 143, 144, 127, 128, 129, 130, 131, 132, 133, 134, 135] (by decide +kernel) (by decide +kernel)
set_option maxRecDepth 20000 in
theorem gX8_drift_X7_weaveOnce : GoodIn wsX8_drift (wsV RX8 190 RX7 yX7_weaveOnce wsX7_weaveOnce) := goodIn_app (goodIn_of _ (by decide +kernel)) ggX8_drift_X7_weaveOnce
theorem dX8_drift_0 : decode cX8_drift 0 = .ok (.iload_n 1, 1) := by decide +kernel
theorem dX8_drift_1 : decode cX8_drift 1 = .ok (.iconst 1, 1) := by decide +kernel
theorem dX8_drift_2 : decode cX8_drift 2 = .ok (.if_icmp .lt 9, 3) := by decide +kernel
theorem dX8_drift_5 : decode cX8_drift 5 = .ok (.iload_n 1, 1) := by decide +kernel
theorem dX8_drift_6 : decode cX8_drift 6 = .ok (.bipush 30, 2) := by decide +kernel
theorem dX8_drift_8 : decode cX8_drift 8 = .ok (.if_icmp .le 6, 3) := by decide +kernel
theorem dX8_drift_11 : decode cX8_drift 11 = .ok (.ldc 57, 2) := by decide +kernel
theorem dX8_drift_13 : decode cX8_drift 13 = .ok (.ireturn, 1) := by decide +kernel
theorem dX8_drift_14 : decode cX8_drift 14 = .ok (.aload_n 0, 1) := by decide +kernel
theorem dX8_drift_15 : decode cX8_drift 15 = .ok (.getfield 49, 3) := by decide +kernel
theorem dX8_drift_18 : decode cX8_drift 18 = .ok (.invokevirtual 178, 3) := by decide +kernel
theorem dX8_drift_21 : decode cX8_drift 21 = .ok (.ifCond .ne 6, 3) := by decide +kernel
theorem dX8_drift_24 : decode cX8_drift 24 = .ok (.ldc 185, 2) := by decide +kernel
theorem dX8_drift_26 : decode cX8_drift 26 = .ok (.ireturn, 1) := by decide +kernel
theorem dX8_drift_27 : decode cX8_drift 27 = .ok (.aload_n 0, 1) := by decide +kernel
theorem dX8_drift_28 : decode cX8_drift 28 = .ok (.getfield 19, 3) := by decide +kernel
theorem dX8_drift_31 : decode cX8_drift 31 = .ok (.getfield 97, 3) := by decide +kernel
theorem dX8_drift_34 : decode cX8_drift 34 = .ok (.sipush 9000, 3) := by decide +kernel
theorem dX8_drift_37 : decode cX8_drift 37 = .ok (.if_icmp .le 6, 3) := by decide +kernel
theorem dX8_drift_40 : decode cX8_drift 40 = .ok (.ldc 62, 2) := by decide +kernel
theorem dX8_drift_42 : decode cX8_drift 42 = .ok (.ireturn, 1) := by decide +kernel
theorem dX8_drift_43 : decode cX8_drift 43 = .ok (.iconst 0, 1) := by decide +kernel
theorem dX8_drift_44 : decode cX8_drift 44 = .ok (.istore_n 2, 1) := by decide +kernel
theorem dX8_drift_45 : decode cX8_drift 45 = .ok (.iload_n 2, 1) := by decide +kernel
theorem dX8_drift_46 : decode cX8_drift 46 = .ok (.iload_n 1, 1) := by decide +kernel
theorem dX8_drift_47 : decode cX8_drift 47 = .ok (.if_icmp .ge 36, 3) := by decide +kernel
theorem dX8_drift_50 : decode cX8_drift 50 = .ok (.aload_n 0, 1) := by decide +kernel
theorem dX8_drift_51 : decode cX8_drift 51 = .ok (.getfield 29, 3) := by decide +kernel
theorem dX8_drift_54 : decode cX8_drift 54 = .ok (.aload_n 0, 1) := by decide +kernel
theorem dX8_drift_55 : decode cX8_drift 55 = .ok (.getfield 19, 3) := by decide +kernel
theorem dX8_drift_58 : decode cX8_drift 58 = .ok (.invokevirtual 186, 3) := by decide +kernel
theorem dX8_drift_61 : decode cX8_drift 61 = .ok (.aload_n 0, 1) := by decide +kernel
theorem dX8_drift_62 : decode cX8_drift 62 = .ok (.getfield 19, 3) := by decide +kernel
theorem dX8_drift_65 : decode cX8_drift 65 = .ok (.aload_n 0, 1) := by decide +kernel
theorem dX8_drift_66 : decode cX8_drift 66 = .ok (.getfield 49, 3) := by decide +kernel
theorem dX8_drift_69 : decode cX8_drift 69 = .ok (.aload_n 0, 1) := by decide +kernel
theorem dX8_drift_70 : decode cX8_drift 70 = .ok (.invokevirtual 199, 3) := by decide +kernel
theorem dX8_drift_73 : decode cX8_drift 73 = .ok (.invokevirtual 190, 3) := by decide +kernel
theorem dX8_drift_76 : decode cX8_drift 76 = .ok (.pop, 1) := by decide +kernel
theorem dX8_drift_77 : decode cX8_drift 77 = .ok (.iinc 2 1, 3) := by decide +kernel
theorem dX8_drift_80 : decode cX8_drift 80 = .ok (.goto (-35), 3) := by decide +kernel
theorem dX8_drift_83 : decode cX8_drift 83 = .ok (.aload_n 0, 1) := by decide +kernel
theorem dX8_drift_84 : decode cX8_drift 84 = .ok (.getfield 19, 3) := by decide +kernel
theorem dX8_drift_87 : decode cX8_drift 87 = .ok (.getfield 97, 3) := by decide +kernel
theorem dX8_drift_90 : decode cX8_drift 90 = .ok (.ireturn, 1) := by decide +kernel
set_option maxRecDepth 20000 in
theorem ggX8_undo_X1_takeBack : GoodIn wsX8_undo wsX1_takeBack := goodIn_r _ [10, 11, 12, 13, 14, 15, 16, 17, 18, 19, 9, 20, 21, 22, 23, 24, 25, 26, 27, 28, 29, 30, 31, 32, 33, 34, 35, 36, 37, 38, 57, 58, 59, 48, 49, 50, 51, 52, 53, 54, 55, 56] (by decide +kernel) (by decide +kernel)
set_option maxRecDepth 20000 in
theorem gX8_undo_X1_takeBack : GoodIn wsX8_undo (wsV RX8 202 RX1 yX1_takeBack wsX1_takeBack) := goodIn_app (goodIn_of _ (by decide +kernel)) ggX8_undo_X1_takeBack
theorem dX8_undo_0 : decode cX8_undo 0 = .ok (.iload_n 1, 1) := by decide +kernel
theorem dX8_undo_1 : decode cX8_undo 1 = .ok (.iconst 1, 1) := by decide +kernel
theorem dX8_undo_2 : decode cX8_undo 2 = .ok (.if_icmp .lt 9, 3) := by decide +kernel
theorem dX8_undo_5 : decode cX8_undo 5 = .ok (.iload_n 1, 1) := by decide +kernel
theorem dX8_undo_6 : decode cX8_undo 6 = .ok (.bipush 30, 2) := by decide +kernel
theorem dX8_undo_8 : decode cX8_undo 8 = .ok (.if_icmp .le 6, 3) := by decide +kernel
theorem dX8_undo_11 : decode cX8_undo 11 = .ok (.ldc 57, 2) := by decide +kernel
theorem dX8_undo_13 : decode cX8_undo 13 = .ok (.ireturn, 1) := by decide +kernel
theorem dX8_undo_14 : decode cX8_undo 14 = .ok (.aload_n 0, 1) := by decide +kernel
theorem dX8_undo_15 : decode cX8_undo 15 = .ok (.getfield 29, 3) := by decide +kernel
theorem dX8_undo_18 : decode cX8_undo 18 = .ok (.iload_n 1, 1) := by decide +kernel
theorem dX8_undo_19 : decode cX8_undo 19 = .ok (.aload_n 0, 1) := by decide +kernel
theorem dX8_undo_20 : decode cX8_undo 20 = .ok (.getfield 19, 3) := by decide +kernel
theorem dX8_undo_23 : decode cX8_undo 23 = .ok (.invokevirtual 202, 3) := by decide +kernel
theorem dX8_undo_26 : decode cX8_undo 26 = .ok (.ifCond .eq 13, 3) := by decide +kernel
theorem dX8_undo_29 : decode cX8_undo 29 = .ok (.aload_n 0, 1) := by decide +kernel
theorem dX8_undo_30 : decode cX8_undo 30 = .ok (.getfield 19, 3) := by decide +kernel
theorem dX8_undo_33 : decode cX8_undo 33 = .ok (.getfield 97, 3) := by decide +kernel
theorem dX8_undo_36 : decode cX8_undo 36 = .ok (.goto 5, 3) := by decide +kernel
theorem dX8_undo_39 : decode cX8_undo 39 = .ok (.ldc 185, 2) := by decide +kernel
theorem dX8_undo_41 : decode cX8_undo 41 = .ok (.ireturn, 1) := by decide +kernel
set_option maxRecDepth 20000 in
theorem ggX8_ahead_X5_hasCard : GoodIn wsX8_ahead wsX5_hasCard := goodIn_r _ [10, 11, 38, 39, 40, 41, 42, 43, 44, 45, 46] (by decide +kernel) (by decide +kernel)
set_option maxRecDepth 20000 in
theorem gX8_ahead_X5_hasCard : GoodIn wsX8_ahead (wsV RX8 133 RX5 yX5_hasCard wsX5_hasCard) := goodIn_app (goodIn_of _ (by decide +kernel)) ggX8_ahead_X5_hasCard
set_option maxRecDepth 20000 in
theorem ggX8_ahead_X5_colourAt : GoodIn wsX8_ahead wsX5_colourAt := goodIn_r _ [15, 16, 17, 18, 9, 19, 38, 39, 40, 41, 42, 43, 44, 45, 46] (by decide +kernel) (by decide +kernel)
set_option maxRecDepth 20000 in
theorem gX8_ahead_X5_colourAt : GoodIn wsX8_ahead (wsV RX8 137 RX5 yX5_colourAt wsX5_colourAt) := goodIn_app (goodIn_of _ (by decide +kernel)) ggX8_ahead_X5_colourAt
theorem dX8_ahead_0 : decode cX8_ahead 0 = .ok (.aload_n 0, 1) := by decide +kernel
theorem dX8_ahead_1 : decode cX8_ahead 1 = .ok (.getfield 49, 3) := by decide +kernel
theorem dX8_ahead_4 : decode cX8_ahead 4 = .ok (.iload_n 1, 1) := by decide +kernel
theorem dX8_ahead_5 : decode cX8_ahead 5 = .ok (.invokevirtual 133, 3) := by decide +kernel
theorem dX8_ahead_8 : decode cX8_ahead 8 = .ok (.ifCond .ne 6, 3) := by decide +kernel
theorem dX8_ahead_11 : decode cX8_ahead 11 = .ok (.ldc 136, 2) := by decide +kernel
theorem dX8_ahead_13 : decode cX8_ahead 13 = .ok (.ireturn, 1) := by decide +kernel
theorem dX8_ahead_14 : decode cX8_ahead 14 = .ok (.iload_n 2, 1) := by decide +kernel
theorem dX8_ahead_15 : decode cX8_ahead 15 = .ok (.iconst 1, 1) := by decide +kernel
theorem dX8_ahead_16 : decode cX8_ahead 16 = .ok (.if_icmp .lt 18, 3) := by decide +kernel
theorem dX8_ahead_19 : decode cX8_ahead 19 = .ok (.iload_n 2, 1) := by decide +kernel
theorem dX8_ahead_20 : decode cX8_ahead 20 = .ok (.bipush 99, 2) := by decide +kernel
theorem dX8_ahead_22 : decode cX8_ahead 22 = .ok (.if_icmp .gt 12, 3) := by decide +kernel
theorem dX8_ahead_25 : decode cX8_ahead 25 = .ok (.iload_n 3, 1) := by decide +kernel
theorem dX8_ahead_26 : decode cX8_ahead 26 = .ok (.ifCond .lt 8, 3) := by decide +kernel
theorem dX8_ahead_29 : decode cX8_ahead 29 = .ok (.iload_n 3, 1) := by decide +kernel
theorem dX8_ahead_30 : decode cX8_ahead 30 = .ok (.iconst 1, 1) := by decide +kernel
theorem dX8_ahead_31 : decode cX8_ahead 31 = .ok (.if_icmp .le 6, 3) := by decide +kernel
theorem dX8_ahead_34 : decode cX8_ahead 34 = .ok (.ldc 57, 2) := by decide +kernel
theorem dX8_ahead_36 : decode cX8_ahead 36 = .ok (.ireturn, 1) := by decide +kernel
theorem dX8_ahead_37 : decode cX8_ahead 37 = .ok (.iload_n 3, 1) := by decide +kernel
theorem dX8_ahead_38 : decode cX8_ahead 38 = .ok (.ifCond .ne 19, 3) := by decide +kernel
theorem dX8_ahead_41 : decode cX8_ahead 41 = .ok (.aload_n 0, 1) := by decide +kernel
theorem dX8_ahead_42 : decode cX8_ahead 42 = .ok (.getfield 19, 3) := by decide +kernel
theorem dX8_ahead_45 : decode cX8_ahead 45 = .ok (.getfield 145, 3) := by decide +kernel
theorem dX8_ahead_48 : decode cX8_ahead 48 = .ok (.iload_n 1, 1) := by decide +kernel
theorem dX8_ahead_49 : decode cX8_ahead 49 = .ok (.iaload, 1) := by decide +kernel
theorem dX8_ahead_50 : decode cX8_ahead 50 = .ok (.iload_n 2, 1) := by decide +kernel
theorem dX8_ahead_51 : decode cX8_ahead 51 = .ok (.iadd, 1) := by decide +kernel
theorem dX8_ahead_52 : decode cX8_ahead 52 = .ok (.iconst 1, 1) := by decide +kernel
theorem dX8_ahead_53 : decode cX8_ahead 53 = .ok (.isub, 1) := by decide +kernel
theorem dX8_ahead_54 : decode cX8_ahead 54 = .ok (.goto 14, 3) := by decide +kernel
theorem dX8_ahead_57 : decode cX8_ahead 57 = .ok (.aload_n 0, 1) := by decide +kernel
theorem dX8_ahead_58 : decode cX8_ahead 58 = .ok (.getfield 19, 3) := by decide +kernel
theorem dX8_ahead_61 : decode cX8_ahead 61 = .ok (.getfield 145, 3) := by decide +kernel
theorem dX8_ahead_64 : decode cX8_ahead 64 = .ok (.iload_n 1, 1) := by decide +kernel
theorem dX8_ahead_65 : decode cX8_ahead 65 = .ok (.iaload, 1) := by decide +kernel
theorem dX8_ahead_66 : decode cX8_ahead 66 = .ok (.iload_n 2, 1) := by decide +kernel
theorem dX8_ahead_67 : decode cX8_ahead 67 = .ok (.isub, 1) := by decide +kernel
theorem dX8_ahead_68 : decode cX8_ahead 68 = .ok (.istore 4, 2) := by decide +kernel
theorem dX8_ahead_70 : decode cX8_ahead 70 = .ok (.aload_n 0, 1) := by decide +kernel
theorem dX8_ahead_71 : decode cX8_ahead 71 = .ok (.getfield 49, 3) := by decide +kernel
theorem dX8_ahead_74 : decode cX8_ahead 74 = .ok (.iload_n 1, 1) := by decide +kernel
theorem dX8_ahead_75 : decode cX8_ahead 75 = .ok (.iload 4, 2) := by decide +kernel
theorem dX8_ahead_77 : decode cX8_ahead 77 = .ok (.invokevirtual 137, 3) := by decide +kernel
theorem dX8_ahead_80 : decode cX8_ahead 80 = .ok (.ireturn, 1) := by decide +kernel
set_option maxRecDepth 20000 in
theorem ggX8_lasts_X5_takesMoves : GoodIn wsX8_lasts wsX5_takesMoves := goodIn_r _ [9, 10, 107, 108, 109, 110, 111, 112, 113, 114, 115] (by decide +kernel) (by decide +kernel)
set_option maxRecDepth 20000 in
theorem gX8_lasts_X5_takesMoves : GoodIn wsX8_lasts (wsV RX8 175 RX5 yX5_takesMoves wsX5_takesMoves) := goodIn_app (goodIn_of _ (by decide +kernel)) ggX8_lasts_X5_takesMoves
set_option maxRecDepth 20000 in
theorem ggX8_lasts_X8_isHowOrMoves : GoodIn wsX8_lasts wsX8_isHowOrMoves := goodIn_r _ [14] (by decide +kernel) (by decide +kernel)
set_option maxRecDepth 20000 in
theorem gX8_lasts_X8_isHowOrMoves : GoodIn wsX8_lasts (va_wsS RX8 206 yX8_isHowOrMoves wsX8_isHowOrMoves) := goodIn_app (goodIn_of _ (by decide +kernel)) ggX8_lasts_X8_isHowOrMoves
set_option maxRecDepth 20000 in
theorem ggX8_lasts_X5_isMade : GoodIn wsX8_lasts wsX5_isMade := goodIn_r _ [18, 19, 107, 108, 109, 110, 111, 112, 113, 114, 115] (by decide +kernel) (by decide +kernel)
set_option maxRecDepth 20000 in
theorem gX8_lasts_X5_isMade : GoodIn wsX8_lasts (wsV RX8 178 RX5 yX5_isMade wsX5_isMade) := goodIn_app (goodIn_of _ (by decide +kernel)) ggX8_lasts_X5_isMade
set_option maxRecDepth 20000 in
theorem ggX8_lasts_X8_countPicks : GoodIn wsX8_lasts wsX8_countPicks := goodIn_r _ [23, 4, 24, 1, 25, 26, 27, 28, 29, 30, 31, 32, 33, 34, 35, 36, 37, 38, 39, 40, 41, 42, 43, 44, 45, 46, 47, 48, 49, 50, 51, 52, 53, 8, 54, 55, 56, 57, 58, 59, 60, 61, 62, 63, 64, 65, 66, 67, 68, 69, 70, 71, 72, 73, 74, 75, 76, 77, 78, 79, 80, 81, 82, 83, 84, 85, 86, 87, 88, 89, 90, 91, 92, 93, 94, 95, 96, 98, 99, 100, 101, 102, 103, 104, 105, 106, 116, 117, 118, 119, 120, 121, 122, 123, 124, 107, 108, 109, 110, 111, 112, 113, 114, 115] (by decide +kernel) (by decide +kernel)
set_option maxRecDepth 20000 in
theorem gX8_lasts_X8_countPicks : GoodIn wsX8_lasts (wsV RX8 182 RX8 yX8_countPicks wsX8_countPicks) := goodIn_app (goodIn_of _ (by decide +kernel)) ggX8_lasts_X8_countPicks
set_option maxRecDepth 20000 in
theorem ggX8_lasts_X7_findLacking : GoodIn wsX8_lasts wsX7_findLacking := goodIn_r _ [59, 60, 61, 39, 62, 63, 64, 28, 65, 46, 66, 67, 68, 69, 51, 52, 53, 8, 54, 55, 70, 71, 72, 73, 35, 74, 75, 76, 77, 78, 79, 80, 81, 107, 108, 109, 110, 111, 112, 113, 114, 115, 116, 117, 118, 119, 120, 121, 122, 123, 124] (by decide +kernel) (by decide +kernel)
set_option maxRecDepth 20000 in
theorem gX8_lasts_X7_findLacking : GoodIn wsX8_lasts (wsV RX8 209 RX7 yX7_findLacking wsX7_findLacking) := goodIn_app (goodIn_of _ (by decide +kernel)) ggX8_lasts_X7_findLacking
theorem dX8_lasts_0 : decode cX8_lasts 0 = .ok (.aload_n 0, 1) := by decide +kernel
theorem dX8_lasts_1 : decode cX8_lasts 1 = .ok (.getfield 49, 3) := by decide +kernel
theorem dX8_lasts_4 : decode cX8_lasts 4 = .ok (.iload_n 1, 1) := by decide +kernel
theorem dX8_lasts_5 : decode cX8_lasts 5 = .ok (.invokevirtual 175, 3) := by decide +kernel
theorem dX8_lasts_8 : decode cX8_lasts 8 = .ok (.ifCond .eq 10, 3) := by decide +kernel
theorem dX8_lasts_11 : decode cX8_lasts 11 = .ok (.iload_n 2, 1) := by decide +kernel
theorem dX8_lasts_12 : decode cX8_lasts 12 = .ok (.invokestatic 206, 3) := by decide +kernel
theorem dX8_lasts_15 : decode cX8_lasts 15 = .ok (.ifCond .ne 6, 3) := by decide +kernel
theorem dX8_lasts_18 : decode cX8_lasts 18 = .ok (.ldc 57, 2) := by decide +kernel
theorem dX8_lasts_20 : decode cX8_lasts 20 = .ok (.ireturn, 1) := by decide +kernel
theorem dX8_lasts_21 : decode cX8_lasts 21 = .ok (.aload_n 0, 1) := by decide +kernel
theorem dX8_lasts_22 : decode cX8_lasts 22 = .ok (.getfield 49, 3) := by decide +kernel
theorem dX8_lasts_25 : decode cX8_lasts 25 = .ok (.invokevirtual 178, 3) := by decide +kernel
theorem dX8_lasts_28 : decode cX8_lasts 28 = .ok (.ifCond .ne 6, 3) := by decide +kernel
theorem dX8_lasts_31 : decode cX8_lasts 31 = .ok (.ldc 185, 2) := by decide +kernel
theorem dX8_lasts_33 : decode cX8_lasts 33 = .ok (.ireturn, 1) := by decide +kernel
theorem dX8_lasts_34 : decode cX8_lasts 34 = .ok (.aload_n 0, 1) := by decide +kernel
theorem dX8_lasts_35 : decode cX8_lasts 35 = .ok (.iload_n 1, 1) := by decide +kernel
theorem dX8_lasts_36 : decode cX8_lasts 36 = .ok (.bipush 99, 2) := by decide +kernel
theorem dX8_lasts_38 : decode cX8_lasts 38 = .ok (.invokevirtual 182, 3) := by decide +kernel
theorem dX8_lasts_41 : decode cX8_lasts 41 = .ok (.istore_n 3, 1) := by decide +kernel
theorem dX8_lasts_42 : decode cX8_lasts 42 = .ok (.iload_n 2, 1) := by decide +kernel
theorem dX8_lasts_43 : decode cX8_lasts 43 = .ok (.ifCond .ne 5, 3) := by decide +kernel
theorem dX8_lasts_46 : decode cX8_lasts 46 = .ok (.iload_n 3, 1) := by decide +kernel
theorem dX8_lasts_47 : decode cX8_lasts 47 = .ok (.ireturn, 1) := by decide +kernel
theorem dX8_lasts_48 : decode cX8_lasts 48 = .ok (.iload_n 3, 1) := by decide +kernel
theorem dX8_lasts_49 : decode cX8_lasts 49 = .ok (.bipush 99, 2) := by decide +kernel
theorem dX8_lasts_51 : decode cX8_lasts 51 = .ok (.if_icmp .ne 7, 3) := by decide +kernel
theorem dX8_lasts_54 : decode cX8_lasts 54 = .ok (.iconst (-1), 1) := by decide +kernel
theorem dX8_lasts_55 : decode cX8_lasts 55 = .ok (.goto 15, 3) := by decide +kernel
theorem dX8_lasts_58 : decode cX8_lasts 58 = .ok (.aload_n 0, 1) := by decide +kernel
theorem dX8_lasts_59 : decode cX8_lasts 59 = .ok (.getfield 23, 3) := by decide +kernel
theorem dX8_lasts_62 : decode cX8_lasts 62 = .ok (.aload_n 0, 1) := by decide +kernel
theorem dX8_lasts_63 : decode cX8_lasts 63 = .ok (.getfield 49, 3) := by decide +kernel
theorem dX8_lasts_66 : decode cX8_lasts 66 = .ok (.iload_n 1, 1) := by decide +kernel
theorem dX8_lasts_67 : decode cX8_lasts 67 = .ok (.invokevirtual 209, 3) := by decide +kernel
theorem dX8_lasts_70 : decode cX8_lasts 70 = .ok (.ireturn, 1) := by decide +kernel
set_option maxRecDepth 20000 in
theorem ggX8_untwist_X8_isHowOrMoves : GoodIn wsX8_untwist wsX8_isHowOrMoves := goodIn_r _ [8] (by decide +kernel) (by decide +kernel)
set_option maxRecDepth 20000 in
theorem gX8_untwist_X8_isHowOrMoves : GoodIn wsX8_untwist (va_wsS RX8 206 yX8_isHowOrMoves wsX8_isHowOrMoves) := goodIn_app (goodIn_of _ (by decide +kernel)) ggX8_untwist_X8_isHowOrMoves
set_option maxRecDepth 20000 in
theorem ggX8_untwist_X5_isMade : GoodIn wsX8_untwist wsX5_isMade := goodIn_r _ [13, 14, 52, 53, 54, 55, 56, 57, 58, 59, 60] (by decide +kernel) (by decide +kernel)
set_option maxRecDepth 20000 in
theorem gX8_untwist_X5_isMade : GoodIn wsX8_untwist (wsV RX8 178 RX5 yX5_isMade wsX5_isMade) := goodIn_app (goodIn_of _ (by decide +kernel)) ggX8_untwist_X5_isMade
set_option maxRecDepth 20000 in
theorem ggX8_untwist_X6_countUntwist : GoodIn wsX8_untwist wsX6_countUntwist := goodIn_r _ [18, 19, 20, 21, 22, 23, 24, 25, 26, 27, 28, 17, 29, 30, 31, 32, 33, 34, 35, 36, 37, 12, 38, 39, 52, 53, 54, 55, 56, 57, 58, 59, 60, 61, 62, 63, 64, 65, 66, 67, 68, 69] (by decide +kernel) (by decide +kernel)
set_option maxRecDepth 20000 in
theorem gX8_untwist_X6_countUntwist : GoodIn wsX8_untwist (va_wsS RX8 213 yX6_countUntwist wsX6_countUntwist) := goodIn_app (goodIn_of _ (by decide +kernel)) ggX8_untwist_X6_countUntwist
set_option maxRecDepth 20000 in
theorem ggX8_untwist_X6_firstUntwist : GoodIn wsX8_untwist wsX6_firstUntwist := goodIn_r _ [42, 19, 27, 28, 17, 29, 30, 31, 32, 33, 34, 35, 36, 37, 12, 38, 39, 52, 53, 54, 55, 56, 57, 58, 59, 60, 61, 62, 63, 64, 65, 66, 67, 68, 69] (by decide +kernel) (by decide +kernel)
set_option maxRecDepth 20000 in
theorem gX8_untwist_X6_firstUntwist : GoodIn wsX8_untwist (va_wsS RX8 218 yX6_firstUntwist wsX6_firstUntwist) := goodIn_app (goodIn_of _ (by decide +kernel)) ggX8_untwist_X6_firstUntwist
theorem dX8_untwist_0 : decode cX8_untwist 0 = .ok (.iload_n 1, 1) := by decide +kernel
theorem dX8_untwist_1 : decode cX8_untwist 1 = .ok (.invokestatic 206, 3) := by decide +kernel
theorem dX8_untwist_4 : decode cX8_untwist 4 = .ok (.ifCond .ne 6, 3) := by decide +kernel
theorem dX8_untwist_7 : decode cX8_untwist 7 = .ok (.ldc 57, 2) := by decide +kernel
theorem dX8_untwist_9 : decode cX8_untwist 9 = .ok (.ireturn, 1) := by decide +kernel
theorem dX8_untwist_10 : decode cX8_untwist 10 = .ok (.aload_n 0, 1) := by decide +kernel
theorem dX8_untwist_11 : decode cX8_untwist 11 = .ok (.getfield 49, 3) := by decide +kernel
theorem dX8_untwist_14 : decode cX8_untwist 14 = .ok (.invokevirtual 178, 3) := by decide +kernel
theorem dX8_untwist_17 : decode cX8_untwist 17 = .ok (.ifCond .ne 6, 3) := by decide +kernel
theorem dX8_untwist_20 : decode cX8_untwist 20 = .ok (.ldc 185, 2) := by decide +kernel
theorem dX8_untwist_22 : decode cX8_untwist 22 = .ok (.ireturn, 1) := by decide +kernel
theorem dX8_untwist_23 : decode cX8_untwist 23 = .ok (.iload_n 1, 1) := by decide +kernel
theorem dX8_untwist_24 : decode cX8_untwist 24 = .ok (.ifCond .ne 17, 3) := by decide +kernel
theorem dX8_untwist_27 : decode cX8_untwist 27 = .ok (.aload_n 0, 1) := by decide +kernel
theorem dX8_untwist_28 : decode cX8_untwist 28 = .ok (.getfield 19, 3) := by decide +kernel
theorem dX8_untwist_31 : decode cX8_untwist 31 = .ok (.aload_n 0, 1) := by decide +kernel
theorem dX8_untwist_32 : decode cX8_untwist 32 = .ok (.getfield 49, 3) := by decide +kernel
theorem dX8_untwist_35 : decode cX8_untwist 35 = .ok (.invokestatic 213, 3) := by decide +kernel
theorem dX8_untwist_38 : decode cX8_untwist 38 = .ok (.goto 14, 3) := by decide +kernel
theorem dX8_untwist_41 : decode cX8_untwist 41 = .ok (.aload_n 0, 1) := by decide +kernel
theorem dX8_untwist_42 : decode cX8_untwist 42 = .ok (.getfield 19, 3) := by decide +kernel
theorem dX8_untwist_45 : decode cX8_untwist 45 = .ok (.aload_n 0, 1) := by decide +kernel
theorem dX8_untwist_46 : decode cX8_untwist 46 = .ok (.getfield 49, 3) := by decide +kernel
theorem dX8_untwist_49 : decode cX8_untwist 49 = .ok (.invokestatic 218, 3) := by decide +kernel
theorem dX8_untwist_52 : decode cX8_untwist 52 = .ok (.ireturn, 1) := by decide +kernel
set_option maxRecDepth 20000 in
theorem ggX8_home_X8_isHowOrMoves : GoodIn wsX8_home wsX8_isHowOrMoves := goodIn_r _ [8] (by decide +kernel) (by decide +kernel)
set_option maxRecDepth 20000 in
theorem gX8_home_X8_isHowOrMoves : GoodIn wsX8_home (va_wsS RX8 206 yX8_isHowOrMoves wsX8_isHowOrMoves) := goodIn_app (goodIn_of _ (by decide +kernel)) ggX8_home_X8_isHowOrMoves
set_option maxRecDepth 20000 in
theorem ggX8_home_X5_isMade : GoodIn wsX8_home wsX5_isMade := goodIn_r _ [13, 14, 56, 57, 58, 59, 60, 61, 62, 63, 64] (by decide +kernel) (by decide +kernel)
set_option maxRecDepth 20000 in
theorem gX8_home_X5_isMade : GoodIn wsX8_home (wsV RX8 178 RX5 yX5_isMade wsX5_isMade) := goodIn_app (goodIn_of _ (by decide +kernel)) ggX8_home_X5_isMade
set_option maxRecDepth 20000 in
theorem ggX8_home_X6_packsStandAlike : GoodIn wsX8_home wsX6_packsStandAlike := goodIn_r _ [18, 19, 20, 21, 22, 23, 17, 24, 25, 26, 27, 28, 29, 30, 12, 31, 32, 56, 57, 58, 59, 60, 61, 62, 63, 64, 65, 66, 67, 68, 69, 70, 71, 72, 73] (by decide +kernel) (by decide +kernel)
set_option maxRecDepth 20000 in
theorem gX8_home_X6_packsStandAlike : GoodIn wsX8_home (va_wsS RX8 221 yX6_packsStandAlike wsX6_packsStandAlike) := goodIn_app (goodIn_of _ (by decide +kernel)) ggX8_home_X6_packsStandAlike
set_option maxRecDepth 20000 in
theorem ggX8_home_X6_countHome : GoodIn wsX8_home wsX6_countHome := goodIn_r _ [35, 36, 37, 38, 39, 40, 41, 42, 43, 22, 23, 17, 24, 21, 25, 26, 27, 19, 28, 29, 30, 12, 31, 32, 56, 57, 58, 59, 60, 61, 62, 63, 64, 65, 66, 67, 68, 69, 70, 71, 72, 73] (by decide +kernel) (by decide +kernel)
set_option maxRecDepth 20000 in
theorem gX8_home_X6_countHome : GoodIn wsX8_home (va_wsS RX8 225 yX6_countHome wsX6_countHome) := goodIn_app (goodIn_of _ (by decide +kernel)) ggX8_home_X6_countHome
set_option maxRecDepth 20000 in
theorem ggX8_home_X6_firstHome : GoodIn wsX8_home wsX6_firstHome := goodIn_r _ [46, 36, 22, 23, 17, 24, 21, 25, 26, 27, 19, 28, 29, 30, 12, 31, 32, 56, 57, 58, 59, 60, 61, 62, 63, 64, 65, 66, 67, 68, 69, 70, 71, 72, 73] (by decide +kernel) (by decide +kernel)
set_option maxRecDepth 20000 in
theorem gX8_home_X6_firstHome : GoodIn wsX8_home (va_wsS RX8 228 yX6_firstHome wsX6_firstHome) := goodIn_app (goodIn_of _ (by decide +kernel)) ggX8_home_X6_firstHome
theorem dX8_home_0 : decode cX8_home 0 = .ok (.iload_n 1, 1) := by decide +kernel
theorem dX8_home_1 : decode cX8_home 1 = .ok (.invokestatic 206, 3) := by decide +kernel
theorem dX8_home_4 : decode cX8_home 4 = .ok (.ifCond .ne 6, 3) := by decide +kernel
theorem dX8_home_7 : decode cX8_home 7 = .ok (.ldc 57, 2) := by decide +kernel
theorem dX8_home_9 : decode cX8_home 9 = .ok (.ireturn, 1) := by decide +kernel
theorem dX8_home_10 : decode cX8_home 10 = .ok (.aload_n 0, 1) := by decide +kernel
theorem dX8_home_11 : decode cX8_home 11 = .ok (.getfield 49, 3) := by decide +kernel
theorem dX8_home_14 : decode cX8_home 14 = .ok (.invokevirtual 178, 3) := by decide +kernel
theorem dX8_home_17 : decode cX8_home 17 = .ok (.ifCond .ne 6, 3) := by decide +kernel
theorem dX8_home_20 : decode cX8_home 20 = .ok (.ldc 185, 2) := by decide +kernel
theorem dX8_home_22 : decode cX8_home 22 = .ok (.ireturn, 1) := by decide +kernel
theorem dX8_home_23 : decode cX8_home 23 = .ok (.aload_n 0, 1) := by decide +kernel
theorem dX8_home_24 : decode cX8_home 24 = .ok (.getfield 19, 3) := by decide +kernel
theorem dX8_home_27 : decode cX8_home 27 = .ok (.aload_n 0, 1) := by decide +kernel
theorem dX8_home_28 : decode cX8_home 28 = .ok (.getfield 49, 3) := by decide +kernel
theorem dX8_home_31 : decode cX8_home 31 = .ok (.invokestatic 221, 3) := by decide +kernel
theorem dX8_home_34 : decode cX8_home 34 = .ok (.ifCond .ne 5, 3) := by decide +kernel
theorem dX8_home_37 : decode cX8_home 37 = .ok (.iconst (-1), 1) := by decide +kernel
theorem dX8_home_38 : decode cX8_home 38 = .ok (.ireturn, 1) := by decide +kernel
theorem dX8_home_39 : decode cX8_home 39 = .ok (.iload_n 1, 1) := by decide +kernel
theorem dX8_home_40 : decode cX8_home 40 = .ok (.ifCond .ne 17, 3) := by decide +kernel
theorem dX8_home_43 : decode cX8_home 43 = .ok (.aload_n 0, 1) := by decide +kernel
theorem dX8_home_44 : decode cX8_home 44 = .ok (.getfield 19, 3) := by decide +kernel
theorem dX8_home_47 : decode cX8_home 47 = .ok (.aload_n 0, 1) := by decide +kernel
theorem dX8_home_48 : decode cX8_home 48 = .ok (.getfield 49, 3) := by decide +kernel
theorem dX8_home_51 : decode cX8_home 51 = .ok (.invokestatic 225, 3) := by decide +kernel
theorem dX8_home_54 : decode cX8_home 54 = .ok (.goto 14, 3) := by decide +kernel
theorem dX8_home_57 : decode cX8_home 57 = .ok (.aload_n 0, 1) := by decide +kernel
theorem dX8_home_58 : decode cX8_home 58 = .ok (.getfield 19, 3) := by decide +kernel
theorem dX8_home_61 : decode cX8_home 61 = .ok (.aload_n 0, 1) := by decide +kernel
theorem dX8_home_62 : decode cX8_home 62 = .ok (.getfield 49, 3) := by decide +kernel
theorem dX8_home_65 : decode cX8_home 65 = .ok (.invokestatic 228, 3) := by decide +kernel
theorem dX8_home_68 : decode cX8_home 68 = .ok (.ireturn, 1) := by decide +kernel
set_option maxRecDepth 20000 in
theorem ggX8_together_X5_hasCards : GoodIn wsX8_together wsX5_hasCards := goodIn_r _ [10, 11, 71, 72, 73, 74, 75, 76, 77, 78, 79] (by decide +kernel) (by decide +kernel)
set_option maxRecDepth 20000 in
theorem gX8_together_X5_hasCards : GoodIn wsX8_together (wsV RX8 231 RX5 yX5_hasCards wsX5_hasCards) := goodIn_app (goodIn_of _ (by decide +kernel)) ggX8_together_X5_hasCards
set_option maxRecDepth 20000 in
theorem ggX8_together_X5_hasColour : GoodIn wsX8_together wsX5_hasColour := goodIn_r _ [15, 16, 71, 72, 73, 74, 75, 76, 77, 78, 79] (by decide +kernel) (by decide +kernel)
set_option maxRecDepth 20000 in
theorem gX8_together_X5_hasColour : GoodIn wsX8_together (wsV RX8 166 RX5 yX5_hasColour wsX5_hasColour) := goodIn_app (goodIn_of _ (by decide +kernel)) ggX8_together_X5_hasColour
set_option maxRecDepth 20000 in
theorem ggX8_together_X8_isHowOrMoves : GoodIn wsX8_together wsX8_isHowOrMoves := goodIn_r _ [20] (by decide +kernel) (by decide +kernel)
set_option maxRecDepth 20000 in
theorem gX8_together_X8_isHowOrMoves : GoodIn wsX8_together (va_wsS RX8 206 yX8_isHowOrMoves wsX8_isHowOrMoves) := goodIn_app (goodIn_of _ (by decide +kernel)) ggX8_together_X8_isHowOrMoves
set_option maxRecDepth 20000 in
theorem ggX8_together_X5_isMade : GoodIn wsX8_together wsX5_isMade := goodIn_r _ [24, 16, 71, 72, 73, 74, 75, 76, 77, 78, 79] (by decide +kernel) (by decide +kernel)
set_option maxRecDepth 20000 in
theorem gX8_together_X5_isMade : GoodIn wsX8_together (wsV RX8 178 RX5 yX5_isMade wsX5_isMade) := goodIn_app (goodIn_of _ (by decide +kernel)) ggX8_together_X5_isMade
set_option maxRecDepth 20000 in
theorem ggX8_together_X6_countTogether : GoodIn wsX8_together wsX6_countTogether := goodIn_r _ [28, 29, 30, 31, 32, 33, 34, 35, 36, 37, 27, 38, 39, 40, 41, 42, 43, 44, 45, 46, 47, 48, 49, 50, 9, 51, 52, 53, 54, 55, 71, 72, 73, 74, 75, 76, 77, 78, 79, 80, 81, 82, 83, 84, 85, 86, 87, 88] (by decide +kernel) (by decide +kernel)
set_option maxRecDepth 20000 in
theorem gX8_together_X6_countTogether : GoodIn wsX8_together (va_wsS RX8 234 yX6_countTogether wsX6_countTogether) := goodIn_app (goodIn_of _ (by decide +kernel)) ggX8_together_X6_countTogether
set_option maxRecDepth 20000 in
theorem ggX8_together_X6_firstTogether : GoodIn wsX8_together wsX6_firstTogether := goodIn_r _ [58, 30, 59, 60, 34, 61, 31, 41, 42, 27, 43, 36, 37, 38, 39, 40, 44, 45, 46, 47, 48, 49, 50, 9, 51, 52, 53, 54, 55, 71, 72, 73, 74, 75, 76, 77, 78, 79, 80, 81, 82, 83, 84, 85, 86, 87, 88] (by decide +kernel) (by decide +kernel)
set_option maxRecDepth 20000 in
theorem gX8_together_X6_firstTogether : GoodIn wsX8_together (va_wsS RX8 238 yX6_firstTogether wsX6_firstTogether) := goodIn_app (goodIn_of _ (by decide +kernel)) ggX8_together_X6_firstTogether
theorem dX8_together_0 : decode cX8_together 0 = .ok (.aload_n 0, 1) := by decide +kernel
theorem dX8_together_1 : decode cX8_together 1 = .ok (.getfield 49, 3) := by decide +kernel
theorem dX8_together_4 : decode cX8_together 4 = .ok (.iload_n 1, 1) := by decide +kernel
theorem dX8_together_5 : decode cX8_together 5 = .ok (.invokevirtual 231, 3) := by decide +kernel
theorem dX8_together_8 : decode cX8_together 8 = .ok (.ifCond .eq 14, 3) := by decide +kernel
theorem dX8_together_11 : decode cX8_together 11 = .ok (.aload_n 0, 1) := by decide +kernel
theorem dX8_together_12 : decode cX8_together 12 = .ok (.getfield 49, 3) := by decide +kernel
theorem dX8_together_15 : decode cX8_together 15 = .ok (.iload_n 2, 1) := by decide +kernel
theorem dX8_together_16 : decode cX8_together 16 = .ok (.invokevirtual 166, 3) := by decide +kernel
theorem dX8_together_19 : decode cX8_together 19 = .ok (.ifCond .ne 6, 3) := by decide +kernel
theorem dX8_together_22 : decode cX8_together 22 = .ok (.ldc 136, 2) := by decide +kernel
theorem dX8_together_24 : decode cX8_together 24 = .ok (.ireturn, 1) := by decide +kernel
theorem dX8_together_25 : decode cX8_together 25 = .ok (.iload_n 3, 1) := by decide +kernel
theorem dX8_together_26 : decode cX8_together 26 = .ok (.invokestatic 206, 3) := by decide +kernel
theorem dX8_together_29 : decode cX8_together 29 = .ok (.ifCond .ne 6, 3) := by decide +kernel
theorem dX8_together_32 : decode cX8_together 32 = .ok (.ldc 57, 2) := by decide +kernel
theorem dX8_together_34 : decode cX8_together 34 = .ok (.ireturn, 1) := by decide +kernel
theorem dX8_together_35 : decode cX8_together 35 = .ok (.aload_n 0, 1) := by decide +kernel
theorem dX8_together_36 : decode cX8_together 36 = .ok (.getfield 49, 3) := by decide +kernel
theorem dX8_together_39 : decode cX8_together 39 = .ok (.invokevirtual 178, 3) := by decide +kernel
theorem dX8_together_42 : decode cX8_together 42 = .ok (.ifCond .ne 6, 3) := by decide +kernel
theorem dX8_together_45 : decode cX8_together 45 = .ok (.ldc 185, 2) := by decide +kernel
theorem dX8_together_47 : decode cX8_together 47 = .ok (.ireturn, 1) := by decide +kernel
theorem dX8_together_48 : decode cX8_together 48 = .ok (.aload_n 0, 1) := by decide +kernel
theorem dX8_together_49 : decode cX8_together 49 = .ok (.getfield 19, 3) := by decide +kernel
theorem dX8_together_52 : decode cX8_together 52 = .ok (.aload_n 0, 1) := by decide +kernel
theorem dX8_together_53 : decode cX8_together 53 = .ok (.getfield 49, 3) := by decide +kernel
theorem dX8_together_56 : decode cX8_together 56 = .ok (.iload_n 1, 1) := by decide +kernel
theorem dX8_together_57 : decode cX8_together 57 = .ok (.iload_n 2, 1) := by decide +kernel
theorem dX8_together_58 : decode cX8_together 58 = .ok (.invokestatic 234, 3) := by decide +kernel
theorem dX8_together_61 : decode cX8_together 61 = .ok (.istore 4, 2) := by decide +kernel
theorem dX8_together_63 : decode cX8_together 63 = .ok (.iload_n 3, 1) := by decide +kernel
theorem dX8_together_64 : decode cX8_together 64 = .ok (.ifCond .eq 9, 3) := by decide +kernel
theorem dX8_together_67 : decode cX8_together 67 = .ok (.iload 4, 2) := by decide +kernel
theorem dX8_together_69 : decode cX8_together 69 = .ok (.iconst (-1), 1) := by decide +kernel
theorem dX8_together_70 : decode cX8_together 70 = .ok (.if_icmp .ne 6, 3) := by decide +kernel
theorem dX8_together_73 : decode cX8_together 73 = .ok (.iload 4, 2) := by decide +kernel
theorem dX8_together_75 : decode cX8_together 75 = .ok (.ireturn, 1) := by decide +kernel
theorem dX8_together_76 : decode cX8_together 76 = .ok (.aload_n 0, 1) := by decide +kernel
theorem dX8_together_77 : decode cX8_together 77 = .ok (.getfield 19, 3) := by decide +kernel
theorem dX8_together_80 : decode cX8_together 80 = .ok (.aload_n 0, 1) := by decide +kernel
theorem dX8_together_81 : decode cX8_together 81 = .ok (.getfield 49, 3) := by decide +kernel
theorem dX8_together_84 : decode cX8_together 84 = .ok (.iload_n 1, 1) := by decide +kernel
theorem dX8_together_85 : decode cX8_together 85 = .ok (.iload_n 2, 1) := by decide +kernel
theorem dX8_together_86 : decode cX8_together 86 = .ok (.iload 4, 2) := by decide +kernel
theorem dX8_together_88 : decode cX8_together 88 = .ok (.invokestatic 238, 3) := by decide +kernel
theorem dX8_together_91 : decode cX8_together 91 = .ok (.ireturn, 1) := by decide +kernel
set_option maxRecDepth 20000 in
theorem ggX8_repeat_X5_isMade : GoodIn wsX8_repeat wsX5_isMade := goodIn_r _ [7, 8, 31, 32, 33, 34, 35, 36, 37, 38, 39] (by decide +kernel) (by decide +kernel)
set_option maxRecDepth 20000 in
theorem gX8_repeat_X5_isMade : GoodIn wsX8_repeat (wsV RX8 178 RX5 yX5_isMade wsX5_isMade) := goodIn_app (goodIn_of _ (by decide +kernel)) ggX8_repeat_X5_isMade
set_option maxRecDepth 20000 in
theorem ggX8_repeat_X5_isSameAfter : GoodIn wsX8_repeat wsX5_isSameAfter := goodIn_r _ [12, 13, 14, 15, 16, 6, 17, 18, 19, 20, 21, 31, 32, 33, 34, 35, 36, 37, 38, 39] (by decide +kernel) (by decide +kernel)
set_option maxRecDepth 20000 in
theorem gX8_repeat_X5_isSameAfter : GoodIn wsX8_repeat (wsV RX8 242 RX5 yX5_isSameAfter wsX5_isSameAfter) := goodIn_app (goodIn_of _ (by decide +kernel)) ggX8_repeat_X5_isSameAfter
theorem dX8_repeat_0 : decode cX8_repeat 0 = .ok (.aload_n 0, 1) := by decide +kernel
theorem dX8_repeat_1 : decode cX8_repeat 1 = .ok (.getfield 49, 3) := by decide +kernel
theorem dX8_repeat_4 : decode cX8_repeat 4 = .ok (.invokevirtual 178, 3) := by decide +kernel
theorem dX8_repeat_7 : decode cX8_repeat 7 = .ok (.ifCond .ne 6, 3) := by decide +kernel
theorem dX8_repeat_10 : decode cX8_repeat 10 = .ok (.ldc 185, 2) := by decide +kernel
theorem dX8_repeat_12 : decode cX8_repeat 12 = .ok (.ireturn, 1) := by decide +kernel
theorem dX8_repeat_13 : decode cX8_repeat 13 = .ok (.aload_n 0, 1) := by decide +kernel
theorem dX8_repeat_14 : decode cX8_repeat 14 = .ok (.getfield 49, 3) := by decide +kernel
theorem dX8_repeat_17 : decode cX8_repeat 17 = .ok (.iconst 1, 1) := by decide +kernel
theorem dX8_repeat_18 : decode cX8_repeat 18 = .ok (.invokevirtual 242, 3) := by decide +kernel
theorem dX8_repeat_21 : decode cX8_repeat 21 = .ok (.ifCond .eq 5, 3) := by decide +kernel
theorem dX8_repeat_24 : decode cX8_repeat 24 = .ok (.iconst 1, 1) := by decide +kernel
theorem dX8_repeat_25 : decode cX8_repeat 25 = .ok (.ireturn, 1) := by decide +kernel
theorem dX8_repeat_26 : decode cX8_repeat 26 = .ok (.aload_n 0, 1) := by decide +kernel
theorem dX8_repeat_27 : decode cX8_repeat 27 = .ok (.getfield 49, 3) := by decide +kernel
theorem dX8_repeat_30 : decode cX8_repeat 30 = .ok (.iconst 2, 1) := by decide +kernel
theorem dX8_repeat_31 : decode cX8_repeat 31 = .ok (.invokevirtual 242, 3) := by decide +kernel
theorem dX8_repeat_34 : decode cX8_repeat 34 = .ok (.ifCond .eq 7, 3) := by decide +kernel
theorem dX8_repeat_37 : decode cX8_repeat 37 = .ok (.iconst 2, 1) := by decide +kernel
theorem dX8_repeat_38 : decode cX8_repeat 38 = .ok (.goto 4, 3) := by decide +kernel
theorem dX8_repeat_41 : decode cX8_repeat 41 = .ok (.iconst 4, 1) := by decide +kernel
theorem dX8_repeat_42 : decode cX8_repeat 42 = .ok (.ireturn, 1) := by decide +kernel
set_option maxRecDepth 20000 in
theorem ggX8_floats_X5_hasCard : GoodIn wsX8_floats wsX5_hasCard := goodIn_r _ [8, 9, 49, 50, 51, 52, 53, 54, 55, 56, 57] (by decide +kernel) (by decide +kernel)
set_option maxRecDepth 20000 in
theorem gX8_floats_X5_hasCard : GoodIn wsX8_floats (wsV RX8 133 RX5 yX5_hasCard wsX5_hasCard) := goodIn_app (goodIn_of _ (by decide +kernel)) ggX8_floats_X5_hasCard
set_option maxRecDepth 20000 in
theorem ggX8_floats_X0_findFloat : GoodIn wsX8_floats wsX0_findFloat := goodIn_r _ [13, 14, 15, 16, 17, 18, 19, 20, 21, 22, 23, 24, 25, 26, 27, 28, 29, 30, 31, 32, 33, 34, 35, 36, 37, 38, 39, 58, 59, 60, 61, 62, 63, 64, 65, 66] (by decide +kernel) (by decide +kernel)
set_option maxRecDepth 20000 in
theorem gX8_floats_X0_findFloat : GoodIn wsX8_floats (va_wsS RX8 245 yX0_findFloat wsX0_findFloat) := goodIn_app (goodIn_of _ (by decide +kernel)) ggX8_floats_X0_findFloat
theorem dX8_floats_0 : decode cX8_floats 0 = .ok (.aload_n 0, 1) := by decide +kernel
theorem dX8_floats_1 : decode cX8_floats 1 = .ok (.getfield 49, 3) := by decide +kernel
theorem dX8_floats_4 : decode cX8_floats 4 = .ok (.iload_n 1, 1) := by decide +kernel
theorem dX8_floats_5 : decode cX8_floats 5 = .ok (.invokevirtual 133, 3) := by decide +kernel
theorem dX8_floats_8 : decode cX8_floats 8 = .ok (.ifCond .eq 14, 3) := by decide +kernel
theorem dX8_floats_11 : decode cX8_floats 11 = .ok (.aload_n 0, 1) := by decide +kernel
theorem dX8_floats_12 : decode cX8_floats 12 = .ok (.getfield 19, 3) := by decide +kernel
theorem dX8_floats_15 : decode cX8_floats 15 = .ok (.iload_n 1, 1) := by decide +kernel
theorem dX8_floats_16 : decode cX8_floats 16 = .ok (.invokestatic 245, 3) := by decide +kernel
theorem dX8_floats_19 : decode cX8_floats 19 = .ok (.goto 5, 3) := by decide +kernel
theorem dX8_floats_22 : decode cX8_floats 22 = .ok (.ldc 136, 2) := by decide +kernel
theorem dX8_floats_24 : decode cX8_floats 24 = .ok (.ireturn, 1) := by decide +kernel
set_option maxRecDepth 20000 in
theorem ggX8_alike_X0_findAlike : GoodIn wsX8_alike wsX0_findAlike := goodIn_r _ [7, 8, 9, 6, 10, 11, 12, 13, 14, 15, 16, 17, 18, 19, 20, 21, 22, 23, 24, 25, 26, 27, 28, 29, 30, 31, 32, 33, 52, 53, 54, 55, 56, 57, 58, 59, 60] (by decide +kernel) (by decide +kernel)
set_option maxRecDepth 20000 in
theorem gX8_alike_X0_findAlike : GoodIn wsX8_alike (va_wsS RX8 248 yX0_findAlike wsX0_findAlike) := goodIn_app (goodIn_of _ (by decide +kernel)) ggX8_alike_X0_findAlike
theorem dX8_alike_0 : decode cX8_alike 0 = .ok (.aload_n 0, 1) := by decide +kernel
theorem dX8_alike_1 : decode cX8_alike 1 = .ok (.getfield 19, 3) := by decide +kernel
theorem dX8_alike_4 : decode cX8_alike 4 = .ok (.aload_n 0, 1) := by decide +kernel
theorem dX8_alike_5 : decode cX8_alike 5 = .ok (.getfield 49, 3) := by decide +kernel
theorem dX8_alike_8 : decode cX8_alike 8 = .ok (.getfield 85, 3) := by decide +kernel
theorem dX8_alike_11 : decode cX8_alike 11 = .ok (.iload_n 1, 1) := by decide +kernel
theorem dX8_alike_12 : decode cX8_alike 12 = .ok (.invokestatic 248, 3) := by decide +kernel
theorem dX8_alike_15 : decode cX8_alike 15 = .ok (.ireturn, 1) := by decide +kernel
set_option maxRecDepth 20000 in
theorem ggX8_shown_X5_hasColour : GoodIn wsX8_shown wsX5_hasColour := goodIn_r _ [9, 10, 47, 48, 49, 50, 51, 52, 53, 54, 55] (by decide +kernel) (by decide +kernel)
set_option maxRecDepth 20000 in
theorem gX8_shown_X5_hasColour : GoodIn wsX8_shown (wsV RX8 166 RX5 yX5_hasColour wsX5_hasColour) := goodIn_app (goodIn_of _ (by decide +kernel)) ggX8_shown_X5_hasColour
set_option maxRecDepth 20000 in
theorem ggX8_shown_X0_countShown : GoodIn wsX8_shown wsX0_countShown := goodIn_r _ [14, 15, 16, 17, 18, 19, 20, 21, 22, 23, 24, 25, 26, 27, 28, 29, 30, 31, 32, 33, 34, 35, 36, 37, 56, 57, 58, 59, 60, 61, 62, 63, 64] (by decide +kernel) (by decide +kernel)
set_option maxRecDepth 20000 in
theorem gX8_shown_X0_countShown : GoodIn wsX8_shown (va_wsS RX8 252 yX0_countShown wsX0_countShown) := goodIn_app (goodIn_of _ (by decide +kernel)) ggX8_shown_X0_countShown
theorem dX8_shown_0 : decode cX8_shown 0 = .ok (.aload_n 0, 1) := by decide +kernel
theorem dX8_shown_1 : decode cX8_shown 1 = .ok (.getfield 49, 3) := by decide +kernel
theorem dX8_shown_4 : decode cX8_shown 4 = .ok (.iload_n 1, 1) := by decide +kernel
theorem dX8_shown_5 : decode cX8_shown 5 = .ok (.invokevirtual 166, 3) := by decide +kernel
theorem dX8_shown_8 : decode cX8_shown 8 = .ok (.ifCond .eq 21, 3) := by decide +kernel
theorem dX8_shown_11 : decode cX8_shown 11 = .ok (.aload_n 0, 1) := by decide +kernel
theorem dX8_shown_12 : decode cX8_shown 12 = .ok (.getfield 19, 3) := by decide +kernel
theorem dX8_shown_15 : decode cX8_shown 15 = .ok (.aload_n 0, 1) := by decide +kernel
theorem dX8_shown_16 : decode cX8_shown 16 = .ok (.getfield 49, 3) := by decide +kernel
theorem dX8_shown_19 : decode cX8_shown 19 = .ok (.getfield 85, 3) := by decide +kernel
theorem dX8_shown_22 : decode cX8_shown 22 = .ok (.iload_n 1, 1) := by decide +kernel
theorem dX8_shown_23 : decode cX8_shown 23 = .ok (.invokestatic 252, 3) := by decide +kernel
theorem dX8_shown_26 : decode cX8_shown 26 = .ok (.goto 5, 3) := by decide +kernel
theorem dX8_shown_29 : decode cX8_shown 29 = .ok (.ldc 136, 2) := by decide +kernel
theorem dX8_shown_31 : decode cX8_shown 31 = .ok (.ireturn, 1) := by decide +kernel
set_option maxRecDepth 20000 in
theorem ggX8_turned_X5_hasCard : GoodIn wsX8_turned wsX5_hasCard := goodIn_r _ [10, 11, 56, 57, 58, 59, 60, 61, 62, 63, 64] (by decide +kernel) (by decide +kernel)
set_option maxRecDepth 20000 in
theorem gX8_turned_X5_hasCard : GoodIn wsX8_turned (wsV RX8 133 RX5 yX5_hasCard wsX5_hasCard) := goodIn_app (goodIn_of _ (by decide +kernel)) ggX8_turned_X5_hasCard
set_option maxRecDepth 20000 in
theorem ggX8_turned_X7_countRows : GoodIn wsX8_turned wsX7_countRows := goodIn_r _ [16, 17, 18, 19, 20, 21, 65, 66, 67, 68, 69, 70, 71, 72, 73] (by decide +kernel) (by decide +kernel)
set_option maxRecDepth 20000 in
theorem gX8_turned_X7_countRows : GoodIn wsX8_turned (wsV RX8 100 RX7 yX7_countRows wsX7_countRows) := goodIn_app (goodIn_of _ (by decide +kernel)) ggX8_turned_X7_countRows
set_option maxRecDepth 20000 in
theorem ggX8_turned_X7_showedAt : GoodIn wsX8_turned wsX7_showedAt := goodIn_r _ [25, 26, 17, 27, 13, 14, 15, 16, 18, 19, 20, 21, 28, 29, 30, 31, 32, 33, 34, 65, 66, 67, 68, 69, 70, 71, 72, 73] (by decide +kernel) (by decide +kernel)
set_option maxRecDepth 20000 in
theorem gX8_turned_X7_showedAt : GoodIn wsX8_turned (wsV RX8 172 RX7 yX7_showedAt wsX7_showedAt) := goodIn_app (goodIn_of _ (by decide +kernel)) ggX8_turned_X7_showedAt
set_option maxRecDepth 20000 in
theorem ggX8_turned_X0_findTurns : GoodIn wsX8_turned wsX0_findTurns := goodIn_r _ [38, 39, 40, 41, 9, 42, 43, 44, 45, 46, 56, 57, 58, 59, 60, 61, 62, 63, 64] (by decide +kernel) (by decide +kernel)
set_option maxRecDepth 20000 in
theorem gX8_turned_X0_findTurns : GoodIn wsX8_turned (va_wsS RX8 255 yX0_findTurns wsX0_findTurns) := goodIn_app (goodIn_of _ (by decide +kernel)) ggX8_turned_X0_findTurns
theorem dX8_turned_0 : decode cX8_turned 0 = .ok (.aload_n 0, 1) := by decide +kernel
theorem dX8_turned_1 : decode cX8_turned 1 = .ok (.getfield 49, 3) := by decide +kernel
theorem dX8_turned_4 : decode cX8_turned 4 = .ok (.iload_n 1, 1) := by decide +kernel
theorem dX8_turned_5 : decode cX8_turned 5 = .ok (.invokevirtual 133, 3) := by decide +kernel
theorem dX8_turned_8 : decode cX8_turned 8 = .ok (.ifCond .ne 6, 3) := by decide +kernel
theorem dX8_turned_11 : decode cX8_turned 11 = .ok (.ldc 136, 2) := by decide +kernel
theorem dX8_turned_13 : decode cX8_turned 13 = .ok (.ireturn, 1) := by decide +kernel
theorem dX8_turned_14 : decode cX8_turned 14 = .ok (.iload_n 2, 1) := by decide +kernel
theorem dX8_turned_15 : decode cX8_turned 15 = .ok (.ifCond .lt 9, 3) := by decide +kernel
theorem dX8_turned_18 : decode cX8_turned 18 = .ok (.iload_n 2, 1) := by decide +kernel
theorem dX8_turned_19 : decode cX8_turned 19 = .ok (.bipush 22, 2) := by decide +kernel
theorem dX8_turned_21 : decode cX8_turned 21 = .ok (.if_icmp .le 6, 3) := by decide +kernel
theorem dX8_turned_24 : decode cX8_turned 24 = .ok (.ldc 57, 2) := by decide +kernel
theorem dX8_turned_26 : decode cX8_turned 26 = .ok (.ireturn, 1) := by decide +kernel
theorem dX8_turned_27 : decode cX8_turned 27 = .ok (.iload_n 2, 1) := by decide +kernel
theorem dX8_turned_28 : decode cX8_turned 28 = .ok (.iconst 1, 1) := by decide +kernel
theorem dX8_turned_29 : decode cX8_turned 29 = .ok (.iadd, 1) := by decide +kernel
theorem dX8_turned_30 : decode cX8_turned 30 = .ok (.aload_n 0, 1) := by decide +kernel
theorem dX8_turned_31 : decode cX8_turned 31 = .ok (.getfield 19, 3) := by decide +kernel
theorem dX8_turned_34 : decode cX8_turned 34 = .ok (.invokevirtual 100, 3) := by decide +kernel
theorem dX8_turned_37 : decode cX8_turned 37 = .ok (.if_icmp .lt 6, 3) := by decide +kernel
theorem dX8_turned_40 : decode cX8_turned 40 = .ok (.ldc 185, 2) := by decide +kernel
theorem dX8_turned_42 : decode cX8_turned 42 = .ok (.ireturn, 1) := by decide +kernel
theorem dX8_turned_43 : decode cX8_turned 43 = .ok (.aload_n 0, 1) := by decide +kernel
theorem dX8_turned_44 : decode cX8_turned 44 = .ok (.getfield 49, 3) := by decide +kernel
theorem dX8_turned_47 : decode cX8_turned 47 = .ok (.iload_n 1, 1) := by decide +kernel
theorem dX8_turned_48 : decode cX8_turned 48 = .ok (.aload_n 0, 1) := by decide +kernel
theorem dX8_turned_49 : decode cX8_turned 49 = .ok (.getfield 19, 3) := by decide +kernel
theorem dX8_turned_52 : decode cX8_turned 52 = .ok (.iload_n 2, 1) := by decide +kernel
theorem dX8_turned_53 : decode cX8_turned 53 = .ok (.iload_n 1, 1) := by decide +kernel
theorem dX8_turned_54 : decode cX8_turned 54 = .ok (.invokevirtual 172, 3) := by decide +kernel
theorem dX8_turned_57 : decode cX8_turned 57 = .ok (.aload_n 0, 1) := by decide +kernel
theorem dX8_turned_58 : decode cX8_turned 58 = .ok (.getfield 19, 3) := by decide +kernel
theorem dX8_turned_61 : decode cX8_turned 61 = .ok (.iload_n 2, 1) := by decide +kernel
theorem dX8_turned_62 : decode cX8_turned 62 = .ok (.iconst 1, 1) := by decide +kernel
theorem dX8_turned_63 : decode cX8_turned 63 = .ok (.iadd, 1) := by decide +kernel
theorem dX8_turned_64 : decode cX8_turned 64 = .ok (.iload_n 1, 1) := by decide +kernel
theorem dX8_turned_65 : decode cX8_turned 65 = .ok (.invokevirtual 172, 3) := by decide +kernel
theorem dX8_turned_68 : decode cX8_turned 68 = .ok (.invokestatic 255, 3) := by decide +kernel
theorem dX8_turned_71 : decode cX8_turned 71 = .ok (.ireturn, 1) := by decide +kernel
set_option maxRecDepth 20000 in
theorem ggX8_share_X5_hasColour : GoodIn wsX8_share wsX5_hasColour := goodIn_r _ [8, 9, 30, 31, 32, 33, 34, 35, 36, 37, 38] (by decide +kernel) (by decide +kernel)
set_option maxRecDepth 20000 in
theorem gX8_share_X5_hasColour : GoodIn wsX8_share (wsV RX8 166 RX5 yX5_hasColour wsX5_hasColour) := goodIn_app (goodIn_of _ (by decide +kernel)) ggX8_share_X5_hasColour
set_option maxRecDepth 20000 in
theorem ggX8_share_X5_countLeftOver : GoodIn wsX8_share wsX5_countLeftOver := goodIn_r _ [13, 9, 14, 15, 16, 7, 17, 18, 19, 30, 31, 32, 33, 34, 35, 36, 37, 38] (by decide +kernel) (by decide +kernel)
set_option maxRecDepth 20000 in
theorem gX8_share_X5_countLeftOver : GoodIn wsX8_share (wsV RX8 259 RX5 yX5_countLeftOver wsX5_countLeftOver) := goodIn_app (goodIn_of _ (by decide +kernel)) ggX8_share_X5_countLeftOver
set_option maxRecDepth 20000 in
theorem ggX8_share_X5_shareOf : GoodIn wsX8_share wsX5_shareOf := goodIn_r _ [17, 18, 19, 30, 31, 32, 33, 34, 35, 36, 37, 38] (by decide +kernel) (by decide +kernel)
set_option maxRecDepth 20000 in
theorem gX8_share_X5_shareOf : GoodIn wsX8_share (wsV RX8 262 RX5 yX5_shareOf wsX5_shareOf) := goodIn_app (goodIn_of _ (by decide +kernel)) ggX8_share_X5_shareOf
theorem dX8_share_0 : decode cX8_share 0 = .ok (.iload_n 2, 1) := by decide +kernel
theorem dX8_share_1 : decode cX8_share 1 = .ok (.iconst (-1), 1) := by decide +kernel
theorem dX8_share_2 : decode cX8_share 2 = .ok (.if_icmp .eq 17, 3) := by decide +kernel
theorem dX8_share_5 : decode cX8_share 5 = .ok (.aload_n 0, 1) := by decide +kernel
theorem dX8_share_6 : decode cX8_share 6 = .ok (.getfield 49, 3) := by decide +kernel
theorem dX8_share_9 : decode cX8_share 9 = .ok (.iload_n 2, 1) := by decide +kernel
theorem dX8_share_10 : decode cX8_share 10 = .ok (.invokevirtual 166, 3) := by decide +kernel
theorem dX8_share_13 : decode cX8_share 13 = .ok (.ifCond .ne 6, 3) := by decide +kernel
theorem dX8_share_16 : decode cX8_share 16 = .ok (.ldc 136, 2) := by decide +kernel
theorem dX8_share_18 : decode cX8_share 18 = .ok (.ireturn, 1) := by decide +kernel
theorem dX8_share_19 : decode cX8_share 19 = .ok (.iload_n 1, 1) := by decide +kernel
theorem dX8_share_20 : decode cX8_share 20 = .ok (.ifCond .lt 10, 3) := by decide +kernel
theorem dX8_share_23 : decode cX8_share 23 = .ok (.iload_n 1, 1) := by decide +kernel
theorem dX8_share_24 : decode cX8_share 24 = .ok (.sipush 999, 3) := by decide +kernel
theorem dX8_share_27 : decode cX8_share 27 = .ok (.if_icmp .le 6, 3) := by decide +kernel
theorem dX8_share_30 : decode cX8_share 30 = .ok (.ldc 57, 2) := by decide +kernel
theorem dX8_share_32 : decode cX8_share 32 = .ok (.ireturn, 1) := by decide +kernel
theorem dX8_share_33 : decode cX8_share 33 = .ok (.iload_n 2, 1) := by decide +kernel
theorem dX8_share_34 : decode cX8_share 34 = .ok (.iconst (-1), 1) := by decide +kernel
theorem dX8_share_35 : decode cX8_share 35 = .ok (.if_icmp .ne 14, 3) := by decide +kernel
theorem dX8_share_38 : decode cX8_share 38 = .ok (.aload_n 0, 1) := by decide +kernel
theorem dX8_share_39 : decode cX8_share 39 = .ok (.getfield 49, 3) := by decide +kernel
theorem dX8_share_42 : decode cX8_share 42 = .ok (.iload_n 1, 1) := by decide +kernel
theorem dX8_share_43 : decode cX8_share 43 = .ok (.invokevirtual 259, 3) := by decide +kernel
theorem dX8_share_46 : decode cX8_share 46 = .ok (.goto 12, 3) := by decide +kernel
theorem dX8_share_49 : decode cX8_share 49 = .ok (.aload_n 0, 1) := by decide +kernel
theorem dX8_share_50 : decode cX8_share 50 = .ok (.getfield 49, 3) := by decide +kernel
theorem dX8_share_53 : decode cX8_share 53 = .ok (.iload_n 1, 1) := by decide +kernel
theorem dX8_share_54 : decode cX8_share 54 = .ok (.iload_n 2, 1) := by decide +kernel
theorem dX8_share_55 : decode cX8_share 55 = .ok (.invokevirtual 262, 3) := by decide +kernel
theorem dX8_share_58 : decode cX8_share 58 = .ok (.ireturn, 1) := by decide +kernel
theorem dX8_plain_0 : decode cX8_plain 0 = .ok (.iload_n 1, 1) := by decide +kernel
theorem dX8_plain_1 : decode cX8_plain 1 = .ok (.ifCond .lt 19, 3) := by decide +kernel
theorem dX8_plain_4 : decode cX8_plain 4 = .ok (.iload_n 1, 1) := by decide +kernel
theorem dX8_plain_5 : decode cX8_plain 5 = .ok (.bipush 60, 2) := by decide +kernel
theorem dX8_plain_7 : decode cX8_plain 7 = .ok (.if_icmp .gt 13, 3) := by decide +kernel
theorem dX8_plain_10 : decode cX8_plain 10 = .ok (.iload_n 2, 1) := by decide +kernel
theorem dX8_plain_11 : decode cX8_plain 11 = .ok (.ifCond .lt 9, 3) := by decide +kernel
theorem dX8_plain_14 : decode cX8_plain 14 = .ok (.iload_n 2, 1) := by decide +kernel
theorem dX8_plain_15 : decode cX8_plain 15 = .ok (.bipush 100, 2) := by decide +kernel
theorem dX8_plain_17 : decode cX8_plain 17 = .ok (.if_icmp .le 6, 3) := by decide +kernel
theorem dX8_plain_20 : decode cX8_plain 20 = .ok (.ldc 57, 2) := by decide +kernel
theorem dX8_plain_22 : decode cX8_plain 22 = .ok (.ireturn, 1) := by decide +kernel
theorem dX8_plain_23 : decode cX8_plain 23 = .ok (.ldc2_w 265, 3) := by decide +kernel
theorem dX8_plain_26 : decode cX8_plain 26 = .ok (.lstore_n 3, 1) := by decide +kernel
theorem dX8_plain_27 : decode cX8_plain 27 = .ok (.iconst 0, 1) := by decide +kernel
theorem dX8_plain_28 : decode cX8_plain 28 = .ok (.istore 5, 2) := by decide +kernel
theorem dX8_plain_30 : decode cX8_plain 30 = .ok (.iload 5, 2) := by decide +kernel
theorem dX8_plain_32 : decode cX8_plain 32 = .ok (.iload_n 1, 1) := by decide +kernel
theorem dX8_plain_33 : decode cX8_plain 33 = .ok (.if_icmp .ge 18, 3) := by decide +kernel
theorem dX8_plain_36 : decode cX8_plain 36 = .ok (.lload_n 3, 1) := by decide +kernel
theorem dX8_plain_37 : decode cX8_plain 37 = .ok (.iload_n 2, 1) := by decide +kernel
theorem dX8_plain_38 : decode cX8_plain 38 = .ok (.i2l, 1) := by decide +kernel
theorem dX8_plain_39 : decode cX8_plain 39 = .ok (.lmul, 1) := by decide +kernel
theorem dX8_plain_40 : decode cX8_plain 40 = .ok (.ldc2_w 267, 3) := by decide +kernel
theorem dX8_plain_43 : decode cX8_plain 43 = .ok (.ldiv, 1) := by decide +kernel
theorem dX8_plain_44 : decode cX8_plain 44 = .ok (.lstore_n 3, 1) := by decide +kernel
theorem dX8_plain_45 : decode cX8_plain 45 = .ok (.iinc 5 1, 3) := by decide +kernel
theorem dX8_plain_48 : decode cX8_plain 48 = .ok (.goto (-18), 3) := by decide +kernel
theorem dX8_plain_51 : decode cX8_plain 51 = .ok (.lload_n 3, 1) := by decide +kernel
theorem dX8_plain_52 : decode cX8_plain 52 = .ok (.l2i, 1) := by decide +kernel
theorem dX8_plain_53 : decode cX8_plain 53 = .ok (.ireturn, 1) := by decide +kernel
set_option maxRecDepth 20000 in
theorem ggX8_see_X5_hasCard : GoodIn wsX8_see wsX5_hasCard := goodIn_r _ [11, 12, 43, 44, 45, 46, 47, 48, 49, 50, 51] (by decide +kernel) (by decide +kernel)
set_option maxRecDepth 20000 in
theorem gX8_see_X5_hasCard : GoodIn wsX8_see (wsV RX8 133 RX5 yX5_hasCard wsX5_hasCard) := goodIn_app (goodIn_of _ (by decide +kernel)) ggX8_see_X5_hasCard
set_option maxRecDepth 20000 in
theorem ggX8_see_X5_hasColour : GoodIn wsX8_see wsX5_hasColour := goodIn_r _ [16, 17, 43, 44, 45, 46, 47, 48, 49, 50, 51] (by decide +kernel) (by decide +kernel)
set_option maxRecDepth 20000 in
theorem gX8_see_X5_hasColour : GoodIn wsX8_see (wsV RX8 166 RX5 yX5_hasColour wsX5_hasColour) := goodIn_app (goodIn_of _ (by decide +kernel)) ggX8_see_X5_hasColour
set_option maxRecDepth 20000 in
theorem ggX8_see_X3_addSeen : GoodIn wsX8_see wsX3_addSeen := goodIn_r _ [22, 23, 24, 25, 26, 36, 37, 38, 39, 40, 41, 42] (by decide +kernel) (by decide +kernel)
set_option maxRecDepth 20000 in
theorem gX8_see_X3_addSeen : GoodIn wsX8_see (wsV RX8 269 RX3 yX3_addSeen wsX3_addSeen) := goodIn_app (goodIn_of _ (by decide +kernel)) ggX8_see_X3_addSeen
theorem dX8_see_0 : decode cX8_see 0 = .ok (.aload_n 0, 1) := by decide +kernel
theorem dX8_see_1 : decode cX8_see 1 = .ok (.getfield 49, 3) := by decide +kernel
theorem dX8_see_4 : decode cX8_see 4 = .ok (.iload_n 1, 1) := by decide +kernel
theorem dX8_see_5 : decode cX8_see 5 = .ok (.invokevirtual 133, 3) := by decide +kernel
theorem dX8_see_8 : decode cX8_see 8 = .ok (.ifCond .eq 14, 3) := by decide +kernel
theorem dX8_see_11 : decode cX8_see 11 = .ok (.aload_n 0, 1) := by decide +kernel
theorem dX8_see_12 : decode cX8_see 12 = .ok (.getfield 49, 3) := by decide +kernel
theorem dX8_see_15 : decode cX8_see 15 = .ok (.iload_n 3, 1) := by decide +kernel
theorem dX8_see_16 : decode cX8_see 16 = .ok (.invokevirtual 166, 3) := by decide +kernel
theorem dX8_see_19 : decode cX8_see 19 = .ok (.ifCond .ne 6, 3) := by decide +kernel
theorem dX8_see_22 : decode cX8_see 22 = .ok (.ldc 136, 2) := by decide +kernel
theorem dX8_see_24 : decode cX8_see 24 = .ok (.ireturn, 1) := by decide +kernel
theorem dX8_see_25 : decode cX8_see 25 = .ok (.iload_n 2, 1) := by decide +kernel
theorem dX8_see_26 : decode cX8_see 26 = .ok (.iconst 1, 1) := by decide +kernel
theorem dX8_see_27 : decode cX8_see 27 = .ok (.if_icmp .lt 9, 3) := by decide +kernel
theorem dX8_see_30 : decode cX8_see 30 = .ok (.iload_n 2, 1) := by decide +kernel
theorem dX8_see_31 : decode cX8_see 31 = .ok (.bipush 99, 2) := by decide +kernel
theorem dX8_see_33 : decode cX8_see 33 = .ok (.if_icmp .le 6, 3) := by decide +kernel
theorem dX8_see_36 : decode cX8_see 36 = .ok (.ldc 57, 2) := by decide +kernel
theorem dX8_see_38 : decode cX8_see 38 = .ok (.ireturn, 1) := by decide +kernel
theorem dX8_see_39 : decode cX8_see 39 = .ok (.aload_n 0, 1) := by decide +kernel
theorem dX8_see_40 : decode cX8_see 40 = .ok (.getfield 36, 3) := by decide +kernel
theorem dX8_see_43 : decode cX8_see 43 = .ok (.iload_n 1, 1) := by decide +kernel
theorem dX8_see_44 : decode cX8_see 44 = .ok (.iload_n 2, 1) := by decide +kernel
theorem dX8_see_45 : decode cX8_see 45 = .ok (.iload_n 3, 1) := by decide +kernel
theorem dX8_see_46 : decode cX8_see 46 = .ok (.invokevirtual 269, 3) := by decide +kernel
theorem dX8_see_49 : decode cX8_see 49 = .ok (.ifCond .eq 13, 3) := by decide +kernel
theorem dX8_see_52 : decode cX8_see 52 = .ok (.aload_n 0, 1) := by decide +kernel
theorem dX8_see_53 : decode cX8_see 53 = .ok (.getfield 36, 3) := by decide +kernel
theorem dX8_see_56 : decode cX8_see 56 = .ok (.getfield 124, 3) := by decide +kernel
theorem dX8_see_59 : decode cX8_see 59 = .ok (.goto 5, 3) := by decide +kernel
theorem dX8_see_62 : decode cX8_see 62 = .ok (.ldc 62, 2) := by decide +kernel
theorem dX8_see_64 : decode cX8_see 64 = .ok (.ireturn, 1) := by decide +kernel
set_option maxRecDepth 20000 in
theorem ggX8_holes_X5_hasCard : GoodIn wsX8_holes wsX5_hasCard := goodIn_r _ [8, 9, 39, 40, 41, 42, 43, 44, 45, 46, 47] (by decide +kernel) (by decide +kernel)
set_option maxRecDepth 20000 in
theorem gX8_holes_X5_hasCard : GoodIn wsX8_holes (wsV RX8 133 RX5 yX5_hasCard wsX5_hasCard) := goodIn_app (goodIn_of _ (by decide +kernel)) ggX8_holes_X5_hasCard
set_option maxRecDepth 20000 in
theorem ggX8_holes_X3_findHoles : GoodIn wsX8_holes wsX3_findHoles := goodIn_r _ [14, 15, 16, 17, 18, 19, 20, 13, 21, 22, 23, 24, 7, 25, 26, 27, 28, 29, 48, 49, 50, 51, 52, 53, 54, 39, 40, 41, 42, 43, 44, 45, 46, 47] (by decide +kernel) (by decide +kernel)
set_option maxRecDepth 20000 in
theorem gX8_holes_X3_findHoles : GoodIn wsX8_holes (wsV RX8 273 RX3 yX3_findHoles wsX3_findHoles) := goodIn_app (goodIn_of _ (by decide +kernel)) ggX8_holes_X3_findHoles
theorem dX8_holes_0 : decode cX8_holes 0 = .ok (.aload_n 0, 1) := by decide +kernel
theorem dX8_holes_1 : decode cX8_holes 1 = .ok (.getfield 49, 3) := by decide +kernel
theorem dX8_holes_4 : decode cX8_holes 4 = .ok (.iload_n 1, 1) := by decide +kernel
theorem dX8_holes_5 : decode cX8_holes 5 = .ok (.invokevirtual 133, 3) := by decide +kernel
theorem dX8_holes_8 : decode cX8_holes 8 = .ok (.ifCond .eq 18, 3) := by decide +kernel
theorem dX8_holes_11 : decode cX8_holes 11 = .ok (.aload_n 0, 1) := by decide +kernel
theorem dX8_holes_12 : decode cX8_holes 12 = .ok (.getfield 36, 3) := by decide +kernel
theorem dX8_holes_15 : decode cX8_holes 15 = .ok (.aload_n 0, 1) := by decide +kernel
theorem dX8_holes_16 : decode cX8_holes 16 = .ok (.getfield 49, 3) := by decide +kernel
theorem dX8_holes_19 : decode cX8_holes 19 = .ok (.iload_n 1, 1) := by decide +kernel
theorem dX8_holes_20 : decode cX8_holes 20 = .ok (.invokevirtual 273, 3) := by decide +kernel
theorem dX8_holes_23 : decode cX8_holes 23 = .ok (.goto 5, 3) := by decide +kernel
theorem dX8_holes_26 : decode cX8_holes 26 = .ok (.ldc 136, 2) := by decide +kernel
theorem dX8_holes_28 : decode cX8_holes 28 = .ok (.ireturn, 1) := by decide +kernel
set_option maxRecDepth 20000 in
theorem ggX8_lookAt_X5_hasCard : GoodIn wsX8_lookAt wsX5_hasCard := goodIn_r _ [8, 9, 58, 59, 60, 61, 62, 63, 64, 65, 66] (by decide +kernel) (by decide +kernel)
set_option maxRecDepth 20000 in
theorem gX8_lookAt_X5_hasCard : GoodIn wsX8_lookAt (wsV RX8 133 RX5 yX5_hasCard wsX5_hasCard) := goodIn_app (goodIn_of _ (by decide +kernel)) ggX8_lookAt_X5_hasCard
set_option maxRecDepth 20000 in
theorem ggX8_lookAt_X3_findLook : GoodIn wsX8_lookAt wsX3_findLook := goodIn_r _ [14, 15, 16, 17, 13, 18, 19, 20, 21, 22, 23, 24, 25, 26, 27, 28, 7, 29, 30, 31, 32, 33, 34, 35, 36, 37, 38, 39, 40, 41, 42, 43, 44, 45, 46, 47, 48, 67, 68, 69, 70, 71, 72, 73, 58, 59, 60, 61, 62, 63, 64, 65, 66] (by decide +kernel) (by decide +kernel)
set_option maxRecDepth 20000 in
theorem gX8_lookAt_X3_findLook : GoodIn wsX8_lookAt (wsV RX8 276 RX3 yX3_findLook wsX3_findLook) := goodIn_app (goodIn_of _ (by decide +kernel)) ggX8_lookAt_X3_findLook
theorem dX8_lookAt_0 : decode cX8_lookAt 0 = .ok (.aload_n 0, 1) := by decide +kernel
theorem dX8_lookAt_1 : decode cX8_lookAt 1 = .ok (.getfield 49, 3) := by decide +kernel
theorem dX8_lookAt_4 : decode cX8_lookAt 4 = .ok (.iload_n 1, 1) := by decide +kernel
theorem dX8_lookAt_5 : decode cX8_lookAt 5 = .ok (.invokevirtual 133, 3) := by decide +kernel
theorem dX8_lookAt_8 : decode cX8_lookAt 8 = .ok (.ifCond .eq 18, 3) := by decide +kernel
theorem dX8_lookAt_11 : decode cX8_lookAt 11 = .ok (.aload_n 0, 1) := by decide +kernel
theorem dX8_lookAt_12 : decode cX8_lookAt 12 = .ok (.getfield 36, 3) := by decide +kernel
theorem dX8_lookAt_15 : decode cX8_lookAt 15 = .ok (.aload_n 0, 1) := by decide +kernel
theorem dX8_lookAt_16 : decode cX8_lookAt 16 = .ok (.getfield 49, 3) := by decide +kernel
theorem dX8_lookAt_19 : decode cX8_lookAt 19 = .ok (.iload_n 1, 1) := by decide +kernel
theorem dX8_lookAt_20 : decode cX8_lookAt 20 = .ok (.invokevirtual 276, 3) := by decide +kernel
theorem dX8_lookAt_23 : decode cX8_lookAt 23 = .ok (.goto 5, 3) := by decide +kernel
theorem dX8_lookAt_26 : decode cX8_lookAt 26 = .ok (.ldc 136, 2) := by decide +kernel
theorem dX8_lookAt_28 : decode cX8_lookAt 28 = .ok (.ireturn, 1) := by decide +kernel
set_option maxRecDepth 20000 in
theorem ggX8_write_X5_hasCard : GoodIn wsX8_write wsX5_hasCard := goodIn_r _ [10, 11, 41, 42, 43, 44, 45, 46, 47, 48, 49] (by decide +kernel) (by decide +kernel)
set_option maxRecDepth 20000 in
theorem gX8_write_X5_hasCard : GoodIn wsX8_write (wsV RX8 133 RX5 yX5_hasCard wsX5_hasCard) := goodIn_app (goodIn_of _ (by decide +kernel)) ggX8_write_X5_hasCard
set_option maxRecDepth 20000 in
theorem ggX8_write_X5_hasColour : GoodIn wsX8_write wsX5_hasColour := goodIn_r _ [15, 16, 41, 42, 43, 44, 45, 46, 47, 48, 49] (by decide +kernel) (by decide +kernel)
set_option maxRecDepth 20000 in
theorem gX8_write_X5_hasColour : GoodIn wsX8_write (wsV RX8 166 RX5 yX5_hasColour wsX5_hasColour) := goodIn_app (goodIn_of _ (by decide +kernel)) ggX8_write_X5_hasColour
set_option maxRecDepth 20000 in
theorem ggX8_write_X3_addEntry : GoodIn wsX8_write wsX3_addEntry := goodIn_r _ [21, 22, 23, 24, 34, 35, 36, 37, 38, 39, 40] (by decide +kernel) (by decide +kernel)
set_option maxRecDepth 20000 in
theorem gX8_write_X3_addEntry : GoodIn wsX8_write (wsV RX8 279 RX3 yX3_addEntry wsX3_addEntry) := goodIn_app (goodIn_of _ (by decide +kernel)) ggX8_write_X3_addEntry
theorem dX8_write_0 : decode cX8_write 0 = .ok (.aload_n 0, 1) := by decide +kernel
theorem dX8_write_1 : decode cX8_write 1 = .ok (.getfield 49, 3) := by decide +kernel
theorem dX8_write_4 : decode cX8_write 4 = .ok (.iload_n 1, 1) := by decide +kernel
theorem dX8_write_5 : decode cX8_write 5 = .ok (.invokevirtual 133, 3) := by decide +kernel
theorem dX8_write_8 : decode cX8_write 8 = .ok (.ifCond .eq 19, 3) := by decide +kernel
theorem dX8_write_11 : decode cX8_write 11 = .ok (.iload_n 2, 1) := by decide +kernel
theorem dX8_write_12 : decode cX8_write 12 = .ok (.iconst (-1), 1) := by decide +kernel
theorem dX8_write_13 : decode cX8_write 13 = .ok (.if_icmp .eq 17, 3) := by decide +kernel
theorem dX8_write_16 : decode cX8_write 16 = .ok (.aload_n 0, 1) := by decide +kernel
theorem dX8_write_17 : decode cX8_write 17 = .ok (.getfield 49, 3) := by decide +kernel
theorem dX8_write_20 : decode cX8_write 20 = .ok (.iload_n 2, 1) := by decide +kernel
theorem dX8_write_21 : decode cX8_write 21 = .ok (.invokevirtual 166, 3) := by decide +kernel
theorem dX8_write_24 : decode cX8_write 24 = .ok (.ifCond .ne 6, 3) := by decide +kernel
theorem dX8_write_27 : decode cX8_write 27 = .ok (.ldc 136, 2) := by decide +kernel
theorem dX8_write_29 : decode cX8_write 29 = .ok (.ireturn, 1) := by decide +kernel
theorem dX8_write_30 : decode cX8_write 30 = .ok (.aload_n 0, 1) := by decide +kernel
theorem dX8_write_31 : decode cX8_write 31 = .ok (.getfield 36, 3) := by decide +kernel
theorem dX8_write_34 : decode cX8_write 34 = .ok (.iload_n 1, 1) := by decide +kernel
theorem dX8_write_35 : decode cX8_write 35 = .ok (.iload_n 2, 1) := by decide +kernel
theorem dX8_write_36 : decode cX8_write 36 = .ok (.invokevirtual 279, 3) := by decide +kernel
theorem dX8_write_39 : decode cX8_write 39 = .ok (.ifCond .eq 13, 3) := by decide +kernel
theorem dX8_write_42 : decode cX8_write 42 = .ok (.aload_n 0, 1) := by decide +kernel
theorem dX8_write_43 : decode cX8_write 43 = .ok (.getfield 36, 3) := by decide +kernel
theorem dX8_write_46 : decode cX8_write 46 = .ok (.getfield 127, 3) := by decide +kernel
theorem dX8_write_49 : decode cX8_write 49 = .ok (.goto 5, 3) := by decide +kernel
theorem dX8_write_52 : decode cX8_write 52 = .ok (.ldc 62, 2) := by decide +kernel
theorem dX8_write_54 : decode cX8_write 54 = .ok (.ireturn, 1) := by decide +kernel
set_option maxRecDepth 20000 in
theorem ggX8_judge_X3_findWrong : GoodIn wsX8_judge wsX3_findWrong := goodIn_r _ [7, 8, 9, 10, 11, 21, 22, 23, 24, 25, 26, 27, 28, 29, 30, 31, 32, 33, 34, 35, 36] (by decide +kernel) (by decide +kernel)
set_option maxRecDepth 20000 in
theorem gX8_judge_X3_findWrong : GoodIn wsX8_judge (wsV RX8 283 RX3 yX3_findWrong wsX3_findWrong) := goodIn_app (goodIn_of _ (by decide +kernel)) ggX8_judge_X3_findWrong
theorem dX8_judge_0 : decode cX8_judge 0 = .ok (.aload_n 0, 1) := by decide +kernel
theorem dX8_judge_1 : decode cX8_judge 1 = .ok (.getfield 36, 3) := by decide +kernel
theorem dX8_judge_4 : decode cX8_judge 4 = .ok (.aload_n 0, 1) := by decide +kernel
theorem dX8_judge_5 : decode cX8_judge 5 = .ok (.getfield 19, 3) := by decide +kernel
theorem dX8_judge_8 : decode cX8_judge 8 = .ok (.invokevirtual 283, 3) := by decide +kernel
theorem dX8_judge_11 : decode cX8_judge 11 = .ok (.ireturn, 1) := by decide +kernel
set_option maxRecDepth 20000 in
theorem ggX8_tear_X3_forget : GoodIn wsX8_tear wsX3_forget := goodIn_r _ [8, 9, 10, 20, 21, 22, 23, 24, 25, 26] (by decide +kernel) (by decide +kernel)
set_option maxRecDepth 20000 in
theorem gX8_tear_X3_forget : GoodIn wsX8_tear (wsV RX8 81 RX3 yX3_forget wsX3_forget) := goodIn_app (goodIn_of _ (by decide +kernel)) ggX8_tear_X3_forget
theorem dX8_tear_0 : decode cX8_tear 0 = .ok (.aload_n 0, 1) := by decide +kernel
theorem dX8_tear_1 : decode cX8_tear 1 = .ok (.getfield 36, 3) := by decide +kernel
theorem dX8_tear_4 : decode cX8_tear 4 = .ok (.getfield 124, 3) := by decide +kernel
theorem dX8_tear_7 : decode cX8_tear 7 = .ok (.aload_n 0, 1) := by decide +kernel
theorem dX8_tear_8 : decode cX8_tear 8 = .ok (.getfield 36, 3) := by decide +kernel
theorem dX8_tear_11 : decode cX8_tear 11 = .ok (.getfield 127, 3) := by decide +kernel
theorem dX8_tear_14 : decode cX8_tear 14 = .ok (.iadd, 1) := by decide +kernel
theorem dX8_tear_15 : decode cX8_tear 15 = .ok (.istore_n 1, 1) := by decide +kernel
theorem dX8_tear_16 : decode cX8_tear 16 = .ok (.aload_n 0, 1) := by decide +kernel
theorem dX8_tear_17 : decode cX8_tear 17 = .ok (.getfield 36, 3) := by decide +kernel
theorem dX8_tear_20 : decode cX8_tear 20 = .ok (.invokevirtual 81, 3) := by decide +kernel
theorem dX8_tear_23 : decode cX8_tear 23 = .ok (.iload_n 1, 1) := by decide +kernel
theorem dX8_tear_24 : decode cX8_tear 24 = .ok (.ireturn, 1) := by decide +kernel
theorem dX8_seed_0 : decode cX8_seed 0 = .ok (.iload_n 1, 1) := by decide +kernel
theorem dX8_seed_1 : decode cX8_seed 1 = .ok (.ifCond .ge 6, 3) := by decide +kernel
theorem dX8_seed_4 : decode cX8_seed 4 = .ok (.ldc 57, 2) := by decide +kernel
theorem dX8_seed_6 : decode cX8_seed 6 = .ok (.ireturn, 1) := by decide +kernel
theorem dX8_seed_7 : decode cX8_seed 7 = .ok (.aload_n 0, 1) := by decide +kernel
theorem dX8_seed_8 : decode cX8_seed 8 = .ok (.getfield 287, 3) := by decide +kernel
theorem dX8_seed_11 : decode cX8_seed 11 = .ok (.l2i, 1) := by decide +kernel
theorem dX8_seed_12 : decode cX8_seed 12 = .ok (.istore_n 2, 1) := by decide +kernel
theorem dX8_seed_13 : decode cX8_seed 13 = .ok (.aload_n 0, 1) := by decide +kernel
theorem dX8_seed_14 : decode cX8_seed 14 = .ok (.iload_n 1, 1) := by decide +kernel
theorem dX8_seed_15 : decode cX8_seed 15 = .ok (.i2l, 1) := by decide +kernel
theorem dX8_seed_16 : decode cX8_seed 16 = .ok (.putfield 287, 3) := by decide +kernel
theorem dX8_seed_19 : decode cX8_seed 19 = .ok (.iload_n 2, 1) := by decide +kernel
theorem dX8_seed_20 : decode cX8_seed 20 = .ok (.ireturn, 1) := by decide +kernel
set_option maxRecDepth 20000 in
theorem ggX8_keep_X8_imageAt : GoodIn wsX8_keep wsX8_imageAt := goodIn_r _ [12, 13, 40, 41, 42, 43, 44, 45, 46, 47, 48] (by decide +kernel) (by decide +kernel)
set_option maxRecDepth 20000 in
theorem gX8_keep_X8_imageAt : GoodIn wsX8_keep (wsV RX8 291 RX8 yX8_imageAt wsX8_imageAt) := goodIn_app (goodIn_of _ (by decide +kernel)) ggX8_keep_X8_imageAt
set_option maxRecDepth 20000 in
theorem ggX8_keep_X7_become : GoodIn wsX8_keep wsX7_become := goodIn_r _ [18, 19, 20, 21, 22, 23, 24, 25, 26, 27, 28, 29, 30, 49, 50, 51, 52, 53, 54, 55, 56, 57] (by decide +kernel) (by decide +kernel)
set_option maxRecDepth 20000 in
theorem gX8_keep_X7_become : GoodIn wsX8_keep (wsV RX8 296 RX7 yX7_become wsX7_become) := goodIn_app (goodIn_of _ (by decide +kernel)) ggX8_keep_X7_become
set_option maxRecDepth 20000 in
theorem ggX8_keep_X1_forget : GoodIn wsX8_keep wsX1_forget := goodIn_r _ [35, 36, 58, 59, 60] (by decide +kernel) (by decide +kernel)
set_option maxRecDepth 20000 in
theorem gX8_keep_X1_forget : GoodIn wsX8_keep (wsV RX8 78 RX1 yX1_forget wsX1_forget) := goodIn_app (goodIn_of _ (by decide +kernel)) ggX8_keep_X1_forget
theorem dX8_keep_0 : decode cX8_keep 0 = .ok (.aload_n 0, 1) := by decide +kernel
theorem dX8_keep_1 : decode cX8_keep 1 = .ok (.iload_n 1, 1) := by decide +kernel
theorem dX8_keep_2 : decode cX8_keep 2 = .ok (.invokevirtual 291, 3) := by decide +kernel
theorem dX8_keep_5 : decode cX8_keep 5 = .ok (.astore_n 2, 1) := by decide +kernel
theorem dX8_keep_6 : decode cX8_keep 6 = .ok (.aload_n 2, 1) := by decide +kernel
theorem dX8_keep_7 : decode cX8_keep 7 = .ok (.ifnonnull 6, 3) := by decide +kernel
theorem dX8_keep_10 : decode cX8_keep 10 = .ok (.ldc 136, 2) := by decide +kernel
theorem dX8_keep_12 : decode cX8_keep 12 = .ok (.ireturn, 1) := by decide +kernel
theorem dX8_keep_13 : decode cX8_keep 13 = .ok (.aload_n 2, 1) := by decide +kernel
theorem dX8_keep_14 : decode cX8_keep 14 = .ok (.getfield 295, 3) := by decide +kernel
theorem dX8_keep_17 : decode cX8_keep 17 = .ok (.aload_n 0, 1) := by decide +kernel
theorem dX8_keep_18 : decode cX8_keep 18 = .ok (.getfield 19, 3) := by decide +kernel
theorem dX8_keep_21 : decode cX8_keep 21 = .ok (.invokevirtual 296, 3) := by decide +kernel
theorem dX8_keep_24 : decode cX8_keep 24 = .ok (.aload_n 2, 1) := by decide +kernel
theorem dX8_keep_25 : decode cX8_keep 25 = .ok (.aload_n 0, 1) := by decide +kernel
theorem dX8_keep_26 : decode cX8_keep 26 = .ok (.getfield 287, 3) := by decide +kernel
theorem dX8_keep_29 : decode cX8_keep 29 = .ok (.putfield 299, 3) := by decide +kernel
theorem dX8_keep_32 : decode cX8_keep 32 = .ok (.aload_n 2, 1) := by decide +kernel
theorem dX8_keep_33 : decode cX8_keep 33 = .ok (.iconst 1, 1) := by decide +kernel
theorem dX8_keep_34 : decode cX8_keep 34 = .ok (.putfield 300, 3) := by decide +kernel
theorem dX8_keep_37 : decode cX8_keep 37 = .ok (.aload_n 0, 1) := by decide +kernel
theorem dX8_keep_38 : decode cX8_keep 38 = .ok (.getfield 29, 3) := by decide +kernel
theorem dX8_keep_41 : decode cX8_keep 41 = .ok (.invokevirtual 78, 3) := by decide +kernel
theorem dX8_keep_44 : decode cX8_keep 44 = .ok (.iconst 1, 1) := by decide +kernel
theorem dX8_keep_45 : decode cX8_keep 45 = .ok (.ireturn, 1) := by decide +kernel
set_option maxRecDepth 20000 in
theorem ggX8_goBack_X8_imageAt : GoodIn wsX8_goBack wsX8_imageAt := goodIn_r _ [13, 14, 41, 42, 43, 44, 45, 46, 47, 48, 49] (by decide +kernel) (by decide +kernel)
set_option maxRecDepth 20000 in
theorem gX8_goBack_X8_imageAt : GoodIn wsX8_goBack (wsV RX8 291 RX8 yX8_imageAt wsX8_imageAt) := goodIn_app (goodIn_of _ (by decide +kernel)) ggX8_goBack_X8_imageAt
set_option maxRecDepth 20000 in
theorem ggX8_goBack_X7_become : GoodIn wsX8_goBack wsX7_become := goodIn_r _ [19, 20, 21, 22, 23, 24, 25, 26, 27, 28, 29, 30, 31, 50, 51, 52, 53, 54, 55, 56, 57, 58] (by decide +kernel) (by decide +kernel)
set_option maxRecDepth 20000 in
theorem gX8_goBack_X7_become : GoodIn wsX8_goBack (wsV RX8 296 RX7 yX7_become wsX7_become) := goodIn_app (goodIn_of _ (by decide +kernel)) ggX8_goBack_X7_become
set_option maxRecDepth 20000 in
theorem ggX8_goBack_X1_forget : GoodIn wsX8_goBack wsX1_forget := goodIn_r _ [36, 37, 59, 60, 61] (by decide +kernel) (by decide +kernel)
set_option maxRecDepth 20000 in
theorem gX8_goBack_X1_forget : GoodIn wsX8_goBack (wsV RX8 78 RX1 yX1_forget wsX1_forget) := goodIn_app (goodIn_of _ (by decide +kernel)) ggX8_goBack_X1_forget
theorem dX8_goBack_0 : decode cX8_goBack 0 = .ok (.aload_n 0, 1) := by decide +kernel
theorem dX8_goBack_1 : decode cX8_goBack 1 = .ok (.iload_n 1, 1) := by decide +kernel
theorem dX8_goBack_2 : decode cX8_goBack 2 = .ok (.invokevirtual 291, 3) := by decide +kernel
theorem dX8_goBack_5 : decode cX8_goBack 5 = .ok (.astore_n 2, 1) := by decide +kernel
theorem dX8_goBack_6 : decode cX8_goBack 6 = .ok (.aload_n 2, 1) := by decide +kernel
theorem dX8_goBack_7 : decode cX8_goBack 7 = .ok (.ifnonnull 6, 3) := by decide +kernel
theorem dX8_goBack_10 : decode cX8_goBack 10 = .ok (.ldc 136, 2) := by decide +kernel
theorem dX8_goBack_12 : decode cX8_goBack 12 = .ok (.ireturn, 1) := by decide +kernel
theorem dX8_goBack_13 : decode cX8_goBack 13 = .ok (.aload_n 2, 1) := by decide +kernel
theorem dX8_goBack_14 : decode cX8_goBack 14 = .ok (.getfield 300, 3) := by decide +kernel
theorem dX8_goBack_17 : decode cX8_goBack 17 = .ok (.ifCond .ne 6, 3) := by decide +kernel
theorem dX8_goBack_20 : decode cX8_goBack 20 = .ok (.ldc 185, 2) := by decide +kernel
theorem dX8_goBack_22 : decode cX8_goBack 22 = .ok (.ireturn, 1) := by decide +kernel
theorem dX8_goBack_23 : decode cX8_goBack 23 = .ok (.aload_n 0, 1) := by decide +kernel
theorem dX8_goBack_24 : decode cX8_goBack 24 = .ok (.getfield 19, 3) := by decide +kernel
theorem dX8_goBack_27 : decode cX8_goBack 27 = .ok (.aload_n 2, 1) := by decide +kernel
theorem dX8_goBack_28 : decode cX8_goBack 28 = .ok (.getfield 295, 3) := by decide +kernel
theorem dX8_goBack_31 : decode cX8_goBack 31 = .ok (.invokevirtual 296, 3) := by decide +kernel
theorem dX8_goBack_34 : decode cX8_goBack 34 = .ok (.aload_n 0, 1) := by decide +kernel
theorem dX8_goBack_35 : decode cX8_goBack 35 = .ok (.aload_n 2, 1) := by decide +kernel
theorem dX8_goBack_36 : decode cX8_goBack 36 = .ok (.getfield 299, 3) := by decide +kernel
theorem dX8_goBack_39 : decode cX8_goBack 39 = .ok (.putfield 287, 3) := by decide +kernel
theorem dX8_goBack_42 : decode cX8_goBack 42 = .ok (.aload_n 0, 1) := by decide +kernel
theorem dX8_goBack_43 : decode cX8_goBack 43 = .ok (.getfield 29, 3) := by decide +kernel
theorem dX8_goBack_46 : decode cX8_goBack 46 = .ok (.invokevirtual 78, 3) := by decide +kernel
theorem dX8_goBack_49 : decode cX8_goBack 49 = .ok (.iconst 1, 1) := by decide +kernel
theorem dX8_goBack_50 : decode cX8_goBack 50 = .ok (.ireturn, 1) := by decide +kernel
theorem dX8_imageAt_0 : decode cX8_imageAt 0 = .ok (.iload_n 1, 1) := by decide +kernel
theorem dX8_imageAt_1 : decode cX8_imageAt 1 = .ok (.ifCond .lt 21, 3) := by decide +kernel
theorem dX8_imageAt_4 : decode cX8_imageAt 4 = .ok (.iload_n 1, 1) := by decide +kernel
theorem dX8_imageAt_5 : decode cX8_imageAt 5 = .ok (.aload_n 0, 1) := by decide +kernel
theorem dX8_imageAt_6 : decode cX8_imageAt 6 = .ok (.getfield 42, 3) := by decide +kernel
theorem dX8_imageAt_9 : decode cX8_imageAt 9 = .ok (.arraylength, 1) := by decide +kernel
theorem dX8_imageAt_10 : decode cX8_imageAt 10 = .ok (.if_icmp .ge 12, 3) := by decide +kernel
theorem dX8_imageAt_13 : decode cX8_imageAt 13 = .ok (.aload_n 0, 1) := by decide +kernel
theorem dX8_imageAt_14 : decode cX8_imageAt 14 = .ok (.getfield 42, 3) := by decide +kernel
theorem dX8_imageAt_17 : decode cX8_imageAt 17 = .ok (.iload_n 1, 1) := by decide +kernel
theorem dX8_imageAt_18 : decode cX8_imageAt 18 = .ok (.aaload, 1) := by decide +kernel
theorem dX8_imageAt_19 : decode cX8_imageAt 19 = .ok (.goto 4, 3) := by decide +kernel
theorem dX8_imageAt_22 : decode cX8_imageAt 22 = .ok (.aconst_null, 1) := by decide +kernel
theorem dX8_imageAt_23 : decode cX8_imageAt 23 = .ok (.areturn, 1) := by decide +kernel
theorem dX8_forgetImages_0 : decode cX8_forgetImages 0 = .ok (.iconst 0, 1) := by decide +kernel
theorem dX8_forgetImages_1 : decode cX8_forgetImages 1 = .ok (.istore_n 1, 1) := by decide +kernel
theorem dX8_forgetImages_2 : decode cX8_forgetImages 2 = .ok (.iload_n 1, 1) := by decide +kernel
theorem dX8_forgetImages_3 : decode cX8_forgetImages 3 = .ok (.aload_n 0, 1) := by decide +kernel
theorem dX8_forgetImages_4 : decode cX8_forgetImages 4 = .ok (.getfield 42, 3) := by decide +kernel
theorem dX8_forgetImages_7 : decode cX8_forgetImages 7 = .ok (.arraylength, 1) := by decide +kernel
theorem dX8_forgetImages_8 : decode cX8_forgetImages 8 = .ok (.if_icmp .ge 25, 3) := by decide +kernel
theorem dX8_forgetImages_11 : decode cX8_forgetImages 11 = .ok (.aload_n 0, 1) := by decide +kernel
theorem dX8_forgetImages_12 : decode cX8_forgetImages 12 = .ok (.getfield 42, 3) := by decide +kernel
theorem dX8_forgetImages_15 : decode cX8_forgetImages 15 = .ok (.iload_n 1, 1) := by decide +kernel
theorem dX8_forgetImages_16 : decode cX8_forgetImages 16 = .ok (.aaload, 1) := by decide +kernel
theorem dX8_forgetImages_17 : decode cX8_forgetImages 17 = .ok (.astore_n 2, 1) := by decide +kernel
theorem dX8_forgetImages_18 : decode cX8_forgetImages 18 = .ok (.aload_n 2, 1) := by decide +kernel
theorem dX8_forgetImages_19 : decode cX8_forgetImages 19 = .ok (.ifnull 8, 3) := by decide +kernel
theorem dX8_forgetImages_22 : decode cX8_forgetImages 22 = .ok (.aload_n 2, 1) := by decide +kernel
theorem dX8_forgetImages_23 : decode cX8_forgetImages 23 = .ok (.iconst 0, 1) := by decide +kernel
theorem dX8_forgetImages_24 : decode cX8_forgetImages 24 = .ok (.putfield 300, 3) := by decide +kernel
theorem dX8_forgetImages_27 : decode cX8_forgetImages 27 = .ok (.iinc 1 1, 3) := by decide +kernel
theorem dX8_forgetImages_30 : decode cX8_forgetImages 30 = .ok (.goto (-28), 3) := by decide +kernel
theorem dX8_forgetImages_33 : decode cX8_forgetImages 33 = .ok (.return_, 1) := by decide +kernel
theorem dX8_isHowOrMoves_0 : decode cX8_isHowOrMoves 0 = .ok (.iload_n 0, 1) := by decide +kernel
theorem dX8_isHowOrMoves_1 : decode cX8_isHowOrMoves 1 = .ok (.ifCond .eq 8, 3) := by decide +kernel
theorem dX8_isHowOrMoves_4 : decode cX8_isHowOrMoves 4 = .ok (.iload_n 0, 1) := by decide +kernel
theorem dX8_isHowOrMoves_5 : decode cX8_isHowOrMoves 5 = .ok (.iconst 1, 1) := by decide +kernel
theorem dX8_isHowOrMoves_6 : decode cX8_isHowOrMoves 6 = .ok (.if_icmp .ne 7, 3) := by decide +kernel
theorem dX8_isHowOrMoves_9 : decode cX8_isHowOrMoves 9 = .ok (.iconst 1, 1) := by decide +kernel
theorem dX8_isHowOrMoves_10 : decode cX8_isHowOrMoves 10 = .ok (.goto 4, 3) := by decide +kernel
theorem dX8_isHowOrMoves_13 : decode cX8_isHowOrMoves 13 = .ok (.iconst 0, 1) := by decide +kernel
theorem dX8_isHowOrMoves_14 : decode cX8_isHowOrMoves 14 = .ok (.ireturn, 1) := by decide +kernel
set_option maxRecDepth 20000 in
theorem ggX8_countPicks_X7_become : GoodIn wsX8_countPicks wsX7_become := goodIn_r _ [8, 9, 10, 11, 12, 13, 14, 15, 16, 17, 18, 19, 20, 86, 87, 88, 89, 90, 91, 92, 93, 94] (by decide +kernel) (by decide +kernel)
set_option maxRecDepth 20000 in
theorem gX8_countPicks_X7_become : GoodIn wsX8_countPicks (wsV RX8 296 RX7 yX7_become wsX7_become) := goodIn_app (goodIn_of _ (by decide +kernel)) ggX8_countPicks_X7_become
set_option maxRecDepth 20000 in
theorem ggX8_countPicks_X7_weaveOnce : GoodIn wsX8_countPicks wsX7_weaveOnce := goodIn_r _ [24, 25, 26, 27, 28, 7, 29, 15, 30, 31, 32, 33, 34, 35, 36, 37, 38, 39, 40, 41, 18, 42, 43, 44, 45, 46, 47, 48, 49, 50, 51, 52, 53, 14, 54, 55, 56, 57, 58, 59, 60, 61, 62, 63, 64, 65, 17, 9, 16, 66, 67, 68, 69, 19, 20, 10, 11, 12, 13, 70, 71, 72, 73, 74, 75, 76, 95, 96, 97, 98, 99, 100, 101, 102, 103, 86, 87, 88, 89, 90, 91, 92, 93, 94] (by decide +kernel) (by decide +kernel)
set_option maxRecDepth 20000 in
theorem gX8_countPicks_X7_weaveOnce : GoodIn wsX8_countPicks (wsV RX8 190 RX7 yX7_weaveOnce wsX7_weaveOnce) := goodIn_app (goodIn_of _ (by decide +kernel)) ggX8_countPicks_X7_weaveOnce
theorem dX8_countPicks_0 : decode cX8_countPicks 0 = .ok (.aload_n 0, 1) := by decide +kernel
theorem dX8_countPicks_1 : decode cX8_countPicks 1 = .ok (.getfield 23, 3) := by decide +kernel
theorem dX8_countPicks_4 : decode cX8_countPicks 4 = .ok (.aload_n 0, 1) := by decide +kernel
theorem dX8_countPicks_5 : decode cX8_countPicks 5 = .ok (.getfield 19, 3) := by decide +kernel
theorem dX8_countPicks_8 : decode cX8_countPicks 8 = .ok (.invokevirtual 296, 3) := by decide +kernel
theorem dX8_countPicks_11 : decode cX8_countPicks 11 = .ok (.iconst 0, 1) := by decide +kernel
theorem dX8_countPicks_12 : decode cX8_countPicks 12 = .ok (.istore_n 3, 1) := by decide +kernel
theorem dX8_countPicks_13 : decode cX8_countPicks 13 = .ok (.iload_n 3, 1) := by decide +kernel
theorem dX8_countPicks_14 : decode cX8_countPicks 14 = .ok (.iload_n 2, 1) := by decide +kernel
theorem dX8_countPicks_15 : decode cX8_countPicks 15 = .ok (.if_icmp .ge 24, 3) := by decide +kernel
theorem dX8_countPicks_18 : decode cX8_countPicks 18 = .ok (.aload_n 0, 1) := by decide +kernel
theorem dX8_countPicks_19 : decode cX8_countPicks 19 = .ok (.getfield 23, 3) := by decide +kernel
theorem dX8_countPicks_22 : decode cX8_countPicks 22 = .ok (.aload_n 0, 1) := by decide +kernel
theorem dX8_countPicks_23 : decode cX8_countPicks 23 = .ok (.getfield 49, 3) := by decide +kernel
theorem dX8_countPicks_26 : decode cX8_countPicks 26 = .ok (.iload_n 1, 1) := by decide +kernel
theorem dX8_countPicks_27 : decode cX8_countPicks 27 = .ok (.invokevirtual 190, 3) := by decide +kernel
theorem dX8_countPicks_30 : decode cX8_countPicks 30 = .ok (.ifCond .eq 9, 3) := by decide +kernel
theorem dX8_countPicks_33 : decode cX8_countPicks 33 = .ok (.iinc 3 1, 3) := by decide +kernel
theorem dX8_countPicks_36 : decode cX8_countPicks 36 = .ok (.goto (-23), 3) := by decide +kernel
theorem dX8_countPicks_39 : decode cX8_countPicks 39 = .ok (.iload_n 3, 1) := by decide +kernel
theorem dX8_countPicks_40 : decode cX8_countPicks 40 = .ok (.ireturn, 1) := by decide +kernel
set_option maxRecDepth 20000 in
theorem ggX8_drawMoves_X8_drawFigure : GoodIn wsX8_drawMoves wsX8_drawFigure := goodIn_r _ [7, 8, 9, 10, 11, 12, 13, 14, 15, 16, 17, 18, 19, 20, 21, 22] (by decide +kernel) (by decide +kernel)
set_option maxRecDepth 20000 in
theorem gX8_drawMoves_X8_drawFigure : GoodIn wsX8_drawMoves (wsV RX8 304 RX8 yX8_drawFigure wsX8_drawFigure) := goodIn_app (goodIn_of _ (by decide +kernel)) ggX8_drawMoves_X8_drawFigure
theorem dX8_drawMoves_0 : decode cX8_drawMoves 0 = .ok (.iconst 0, 1) := by decide +kernel
theorem dX8_drawMoves_1 : decode cX8_drawMoves 1 = .ok (.istore_n 1, 1) := by decide +kernel
theorem dX8_drawMoves_2 : decode cX8_drawMoves 2 = .ok (.iconst 1, 1) := by decide +kernel
theorem dX8_drawMoves_3 : decode cX8_drawMoves 3 = .ok (.istore_n 2, 1) := by decide +kernel
theorem dX8_drawMoves_4 : decode cX8_drawMoves 4 = .ok (.iconst 0, 1) := by decide +kernel
theorem dX8_drawMoves_5 : decode cX8_drawMoves 5 = .ok (.istore_n 3, 1) := by decide +kernel
theorem dX8_drawMoves_6 : decode cX8_drawMoves 6 = .ok (.iload_n 3, 1) := by decide +kernel
theorem dX8_drawMoves_7 : decode cX8_drawMoves 7 = .ok (.aload_n 0, 1) := by decide +kernel
theorem dX8_drawMoves_8 : decode cX8_drawMoves 8 = .ok (.getfield 49, 3) := by decide +kernel
theorem dX8_drawMoves_11 : decode cX8_drawMoves 11 = .ok (.getfield 94, 3) := by decide +kernel
theorem dX8_drawMoves_14 : decode cX8_drawMoves 14 = .ok (.if_icmp .ge 22, 3) := by decide +kernel
theorem dX8_drawMoves_17 : decode cX8_drawMoves 17 = .ok (.iload_n 1, 1) := by decide +kernel
theorem dX8_drawMoves_18 : decode cX8_drawMoves 18 = .ok (.aload_n 0, 1) := by decide +kernel
theorem dX8_drawMoves_19 : decode cX8_drawMoves 19 = .ok (.invokevirtual 304, 3) := by decide +kernel
theorem dX8_drawMoves_22 : decode cX8_drawMoves 22 = .ok (.iload_n 2, 1) := by decide +kernel
theorem dX8_drawMoves_23 : decode cX8_drawMoves 23 = .ok (.imul, 1) := by decide +kernel
theorem dX8_drawMoves_24 : decode cX8_drawMoves 24 = .ok (.iadd, 1) := by decide +kernel
theorem dX8_drawMoves_25 : decode cX8_drawMoves 25 = .ok (.istore_n 1, 1) := by decide +kernel
theorem dX8_drawMoves_26 : decode cX8_drawMoves 26 = .ok (.iload_n 2, 1) := by decide +kernel
theorem dX8_drawMoves_27 : decode cX8_drawMoves 27 = .ok (.iconst 3, 1) := by decide +kernel
theorem dX8_drawMoves_28 : decode cX8_drawMoves 28 = .ok (.imul, 1) := by decide +kernel
theorem dX8_drawMoves_29 : decode cX8_drawMoves 29 = .ok (.istore_n 2, 1) := by decide +kernel
theorem dX8_drawMoves_30 : decode cX8_drawMoves 30 = .ok (.iinc 3 1, 3) := by decide +kernel
theorem dX8_drawMoves_33 : decode cX8_drawMoves 33 = .ok (.goto (-27), 3) := by decide +kernel
theorem dX8_drawMoves_36 : decode cX8_drawMoves 36 = .ok (.iload_n 1, 1) := by decide +kernel
theorem dX8_drawMoves_37 : decode cX8_drawMoves 37 = .ok (.ireturn, 1) := by decide +kernel
theorem dX8_drawFigure_0 : decode cX8_drawFigure 0 = .ok (.aload_n 0, 1) := by decide +kernel
theorem dX8_drawFigure_1 : decode cX8_drawFigure 1 = .ok (.aload_n 0, 1) := by decide +kernel
theorem dX8_drawFigure_2 : decode cX8_drawFigure 2 = .ok (.getfield 287, 3) := by decide +kernel
theorem dX8_drawFigure_5 : decode cX8_drawFigure 5 = .ok (.ldc2_w 307, 3) := by decide +kernel
theorem dX8_drawFigure_8 : decode cX8_drawFigure 8 = .ok (.lmul, 1) := by decide +kernel
theorem dX8_drawFigure_9 : decode cX8_drawFigure 9 = .ok (.ldc2_w 309, 3) := by decide +kernel
theorem dX8_drawFigure_12 : decode cX8_drawFigure 12 = .ok (.ladd, 1) := by decide +kernel
theorem dX8_drawFigure_13 : decode cX8_drawFigure 13 = .ok (.ldc2_w 311, 3) := by decide +kernel
theorem dX8_drawFigure_16 : decode cX8_drawFigure 16 = .ok (.lrem, 1) := by decide +kernel
theorem dX8_drawFigure_17 : decode cX8_drawFigure 17 = .ok (.putfield 287, 3) := by decide +kernel
theorem dX8_drawFigure_20 : decode cX8_drawFigure 20 = .ok (.aload_n 0, 1) := by decide +kernel
theorem dX8_drawFigure_21 : decode cX8_drawFigure 21 = .ok (.getfield 287, 3) := by decide +kernel
theorem dX8_drawFigure_24 : decode cX8_drawFigure 24 = .ok (.ldc2_w 313, 3) := by decide +kernel
theorem dX8_drawFigure_27 : decode cX8_drawFigure 27 = .ok (.ldiv, 1) := by decide +kernel
theorem dX8_drawFigure_28 : decode cX8_drawFigure 28 = .ok (.ldc2_w 315, 3) := by decide +kernel
theorem dX8_drawFigure_31 : decode cX8_drawFigure 31 = .ok (.lrem, 1) := by decide +kernel
theorem dX8_drawFigure_32 : decode cX8_drawFigure 32 = .ok (.l2i, 1) := by decide +kernel
theorem dX8_drawFigure_33 : decode cX8_drawFigure 33 = .ok (.ireturn, 1) := by decide +kernel

theorem dX3_copyRow_4 : decode cX3_copyRow 4 = .ok (.aload_n 0, 1) := by decide +kernel
theorem dX3_copyRow_5 : decode cX3_copyRow 5 = .ok (.arraylength, 1) := by decide +kernel
theorem dX3_copyRow_6 : decode cX3_copyRow 6 = .ok (.aload_n 1, 1) := by decide +kernel
theorem dX3_copyRow_7 : decode cX3_copyRow 7 = .ok (.arraylength, 1) := by decide +kernel
theorem dX3_copyRow_8 : decode cX3_copyRow 8 = .ok (.invokestatic 91, 3) := by decide +kernel
theorem dX3_copyRow_11 : decode cX3_copyRow 11 = .ok (.invokestatic 85, 3) := by decide +kernel
theorem dX3_copyRow_14 : decode cX3_copyRow 14 = .ok (.return_, 1) := by decide +kernel
set_option maxRecDepth 20000 in
theorem ggX4_init_X10_init : GoodIn wsX4_init wsX10_init := goodIn_r _ [3, 4, 5, 6, 7, 8, 9] (by decide +kernel) (by decide +kernel)
set_option maxRecDepth 20000 in
theorem gX4_init_X10_init_n1 : GoodIn wsX4_init (wsX10_init) := ggX4_init_X10_init
theorem dX4_init_0 : decode cX4_init 0 = .ok (.aload_n 0, 1) := by decide +kernel
theorem dX4_init_1 : decode cX4_init 1 = .ok (.invokespecial 1, 3) := by decide +kernel
theorem dX4_init_4 : decode cX4_init 4 = .ok (.return_, 1) := by decide +kernel
set_option maxRecDepth 20000 in
theorem ggX4_ask_X10_ask : GoodIn wsX4_ask wsX10_ask := goodIn_r _ [7, 8, 9, 10, 11, 12, 13, 14, 15, 16, 17, 18, 19, 20, 21, 22, 23, 24, 25, 26, 27, 28, 29, 30, 31, 32, 33, 34, 35, 36, 37, 38, 39, 40, 41, 42, 43, 44, 45, 46, 47, 48, 49, 50, 51, 52, 53, 54, 55, 56, 57, 58, 59, 60, 61, 62, 63, 64, 65, 66, 67, 68, 69, 70, 71] (by decide +kernel) (by decide +kernel)
set_option maxRecDepth 20000 in
theorem gX4_ask_X10_ask_s15 : GoodIn wsX4_ask (va_wsSU RX4 15 yX10_ask wsX10_ask) := goodIn_app (goodIn_of _ (by decide +kernel)) ggX4_ask_X10_ask
theorem dX4_ask_0 : decode cX4_ask 0 = .ok (.aload_n 1, 1) := by decide +kernel
theorem dX4_ask_1 : decode cX4_ask 1 = .ok (.dup, 1) := by decide +kernel
theorem dX4_ask_2 : decode cX4_ask 2 = .ok (.getfield 7, 3) := by decide +kernel
theorem dX4_ask_5 : decode cX4_ask 5 = .ok (.ldc2_w 13, 3) := by decide +kernel
theorem dX4_ask_8 : decode cX4_ask 8 = .ok (.ladd, 1) := by decide +kernel
theorem dX4_ask_9 : decode cX4_ask 9 = .ok (.putfield 7, 3) := by decide +kernel
theorem dX4_ask_12 : decode cX4_ask 12 = .ok (.iconst 2, 1) := by decide +kernel
theorem dX4_ask_13 : decode cX4_ask 13 = .ok (.aload_n 0, 1) := by decide +kernel
theorem dX4_ask_14 : decode cX4_ask 14 = .ok (.aload_n 1, 1) := by decide +kernel
theorem dX4_ask_15 : decode cX4_ask 15 = .ok (.iload_n 2, 1) := by decide +kernel
theorem dX4_ask_16 : decode cX4_ask 16 = .ok (.invokespecial 15, 3) := by decide +kernel
theorem dX4_ask_19 : decode cX4_ask 19 = .ok (.imul, 1) := by decide +kernel
theorem dX4_ask_20 : decode cX4_ask 20 = .ok (.ireturn, 1) := by decide +kernel
set_option maxRecDepth 20000 in
theorem ggX5_init_X1_init : GoodIn wsX5_init wsX1_init := goodIn_r _ [3, 4, 5, 6] (by decide +kernel) (by decide +kernel)
set_option maxRecDepth 20000 in
theorem gX5_init_X1_init_n1 : GoodIn wsX5_init (wsX1_init) := ggX5_init_X1_init
theorem dX5_init_0 : decode cX5_init 0 = .ok (.aload_n 0, 1) := by decide +kernel
theorem dX5_init_1 : decode cX5_init 1 = .ok (.invokespecial 1, 3) := by decide +kernel
theorem dX5_init_4 : decode cX5_init 4 = .ok (.return_, 1) := by decide +kernel
set_option maxRecDepth 20000 in
theorem ggX5_ask_X1_ask : GoodIn wsX5_ask wsX1_ask := goodIn_r _ [8, 9, 10, 11, 12, 13, 14, 15, 16, 17, 18, 19, 20, 21, 22, 23, 24, 25, 26, 39, 40, 41, 42, 43, 44, 45, 46, 47, 48, 49, 50] (by decide +kernel) (by decide +kernel)
set_option maxRecDepth 20000 in
theorem gX5_ask_X1_ask_s15 : GoodIn wsX5_ask (va_wsSU RX5 15 yX1_ask wsX1_ask) := goodIn_app (goodIn_of _ (by decide +kernel)) ggX5_ask_X1_ask
theorem dX5_ask_0 : decode cX5_ask 0 = .ok (.aload_n 1, 1) := by decide +kernel
theorem dX5_ask_1 : decode cX5_ask 1 = .ok (.dup, 1) := by decide +kernel
theorem dX5_ask_2 : decode cX5_ask 2 = .ok (.getfield 7, 3) := by decide +kernel
theorem dX5_ask_5 : decode cX5_ask 5 = .ok (.ldc2_w 13, 3) := by decide +kernel
theorem dX5_ask_8 : decode cX5_ask 8 = .ok (.ladd, 1) := by decide +kernel
theorem dX5_ask_9 : decode cX5_ask 9 = .ok (.putfield 7, 3) := by decide +kernel
theorem dX5_ask_12 : decode cX5_ask 12 = .ok (.aload_n 0, 1) := by decide +kernel
theorem dX5_ask_13 : decode cX5_ask 13 = .ok (.aload_n 1, 1) := by decide +kernel
theorem dX5_ask_14 : decode cX5_ask 14 = .ok (.iload_n 2, 1) := by decide +kernel
theorem dX5_ask_15 : decode cX5_ask 15 = .ok (.invokespecial 15, 3) := by decide +kernel
theorem dX5_ask_18 : decode cX5_ask 18 = .ok (.aload_n 1, 1) := by decide +kernel
theorem dX5_ask_19 : decode cX5_ask 19 = .ok (.getfield 19, 3) := by decide +kernel
theorem dX5_ask_22 : decode cX5_ask 22 = .ok (.getfield 23, 3) := by decide +kernel
theorem dX5_ask_25 : decode cX5_ask 25 = .ok (.iload_n 2, 1) := by decide +kernel
theorem dX5_ask_26 : decode cX5_ask 26 = .ok (.iaload, 1) := by decide +kernel
theorem dX5_ask_27 : decode cX5_ask 27 = .ok (.iadd, 1) := by decide +kernel
theorem dX5_ask_28 : decode cX5_ask 28 = .ok (.ireturn, 1) := by decide +kernel
set_option maxRecDepth 20000 in
theorem ggX6_init_X8_init : GoodIn wsX6_init wsX8_init := goodIn_r _ [11, 12, 2, 3, 13, 14, 15, 16, 17, 18, 19] (by decide +kernel) (by decide +kernel)
set_option maxRecDepth 20000 in
theorem gX6_init_X8_init_n11 : GoodIn wsX6_init (wsX8_init) := ggX6_init_X8_init
theorem dX6_init_0 : decode cX6_init 0 = .ok (.aload_n 0, 1) := by decide +kernel
theorem dX6_init_1 : decode cX6_init 1 = .ok (.invokespecial 3, 3) := by decide +kernel
theorem dX6_init_4 : decode cX6_init 4 = .ok (.aload_n 0, 1) := by decide +kernel
theorem dX6_init_5 : decode cX6_init 5 = .ok (.new 9, 3) := by decide +kernel
theorem dX6_init_8 : decode cX6_init 8 = .ok (.dup, 1) := by decide +kernel
theorem dX6_init_9 : decode cX6_init 9 = .ok (.invokespecial 11, 3) := by decide +kernel
theorem dX6_init_12 : decode cX6_init 12 = .ok (.putfield 12, 3) := by decide +kernel
theorem dX6_init_15 : decode cX6_init 15 = .ok (.aload_n 0, 1) := by decide +kernel
theorem dX6_init_16 : decode cX6_init 16 = .ok (.new 9, 3) := by decide +kernel
theorem dX6_init_19 : decode cX6_init 19 = .ok (.dup, 1) := by decide +kernel
theorem dX6_init_20 : decode cX6_init 20 = .ok (.invokespecial 11, 3) := by decide +kernel
theorem dX6_init_23 : decode cX6_init 23 = .ok (.putfield 18, 3) := by decide +kernel
theorem dX6_init_26 : decode cX6_init 26 = .ok (.aload_n 0, 1) := by decide +kernel
theorem dX6_init_27 : decode cX6_init 27 = .ok (.new 9, 3) := by decide +kernel
theorem dX6_init_30 : decode cX6_init 30 = .ok (.dup, 1) := by decide +kernel
theorem dX6_init_31 : decode cX6_init 31 = .ok (.invokespecial 11, 3) := by decide +kernel
theorem dX6_init_34 : decode cX6_init 34 = .ok (.putfield 21, 3) := by decide +kernel
theorem dX6_init_37 : decode cX6_init 37 = .ok (.return_, 1) := by decide +kernel
set_option maxRecDepth 20000 in
theorem ggX6_seek_X8_goAs : GoodIn wsX6_seek wsX8_goAs := goodIn_r _ [13, 14, 15, 16, 17, 18, 12, 19, 20, 21, 22, 23, 24, 25, 26, 27, 28, 29, 30, 31, 32, 33, 34, 35, 36, 37, 38, 39, 40, 41, 42, 43, 90, 91, 92, 93, 94, 95, 96, 97, 98, 99, 100, 101, 85, 86, 87, 88, 89, 102, 103, 104, 105, 106, 107, 108, 109, 110, 111, 112, 113] (by decide +kernel) (by decide +kernel)
set_option maxRecDepth 20000 in
theorem gX6_seek_X8_goAs : GoodIn wsX6_seek (wsV RX6 34 RX8 yX8_goAs wsX8_goAs) := goodIn_app (goodIn_of _ (by decide +kernel)) ggX6_seek_X8_goAs
set_option maxRecDepth 20000 in
theorem ggX6_seek_X6_turnSide : GoodIn wsX6_seek wsX6_turnSide := goodIn_r _ [47, 48, 49, 50, 51, 52, 53, 54, 55, 39, 40, 41, 42, 43, 56, 57, 58, 102, 103, 104, 105, 106, 107, 108, 109, 110, 111, 112, 113, 90, 91, 92, 93, 94, 95, 96, 97, 98, 99, 100, 101] (by decide +kernel) (by decide +kernel)
set_option maxRecDepth 20000 in
theorem gX6_seek_X6_turnSide : GoodIn wsX6_seek (va_wsS RX6 48 yX6_turnSide wsX6_turnSide) := goodIn_app (goodIn_of _ (by decide +kernel)) ggX6_seek_X6_turnSide
set_option maxRecDepth 20000 in
theorem ggX6_seek_X6_offerOne : GoodIn wsX6_seek wsX6_offerOne := goodIn_r _ [62, 1, 2, 3, 79, 80, 81, 82, 83, 84] (by decide +kernel) (by decide +kernel)
set_option maxRecDepth 20000 in
theorem gX6_seek_X6_offerOne : GoodIn wsX6_seek (wsV RX6 52 RX6 yX6_offerOne wsX6_offerOne) := goodIn_app (goodIn_of _ (by decide +kernel)) ggX6_seek_X6_offerOne
set_option maxRecDepth 20000 in
theorem ggX6_seek_X6_seekSecond : GoodIn wsX6_seek wsX6_seekSecond := goodIn_r _ [66, 8, 6, 7, 67, 5, 68, 69, 70, 71, 72, 73, 74, 44, 45, 46, 47, 48, 49, 50, 51, 52, 53, 54, 55, 39, 40, 41, 42, 43, 56, 57, 58, 9, 10, 11, 12, 13, 14, 15, 16, 17, 18, 19, 20, 21, 22, 23, 24, 25, 26, 27, 28, 29, 30, 31, 32, 33, 34, 35, 36, 37, 38, 75, 76, 77, 78, 1, 2, 3, 79, 80, 81, 82, 83, 84, 85, 86, 87, 88, 89, 102, 103, 104, 105, 106, 107, 108, 109, 110, 111, 112, 113, 90, 91, 92, 93, 94, 95, 96, 97, 98, 99, 100, 101] (by decide +kernel) (by decide +kernel)
set_option maxRecDepth 20000 in
theorem gX6_seek_X6_seekSecond : GoodIn wsX6_seek (wsV RX6 56 RX6 yX6_seekSecond wsX6_seekSecond) := goodIn_app (goodIn_of _ (by decide +kernel)) ggX6_seek_X6_seekSecond
theorem dX6_seek_0 : decode cX6_seek 0 = .ok (.aload_n 0, 1) := by decide +kernel
theorem dX6_seek_1 : decode cX6_seek 1 = .ok (.bipush (-9), 2) := by decide +kernel
theorem dX6_seek_3 : decode cX6_seek 3 = .ok (.putfield 24, 3) := by decide +kernel
theorem dX6_seek_6 : decode cX6_seek 6 = .ok (.aload_n 0, 1) := by decide +kernel
theorem dX6_seek_7 : decode cX6_seek 7 = .ok (.iconst (-1), 1) := by decide +kernel
theorem dX6_seek_8 : decode cX6_seek 8 = .ok (.putfield 28, 3) := by decide +kernel
theorem dX6_seek_11 : decode cX6_seek 11 = .ok (.aload_n 0, 1) := by decide +kernel
theorem dX6_seek_12 : decode cX6_seek 12 = .ok (.iconst (-1), 1) := by decide +kernel
theorem dX6_seek_13 : decode cX6_seek 13 = .ok (.putfield 31, 3) := by decide +kernel
theorem dX6_seek_16 : decode cX6_seek 16 = .ok (.aload_n 0, 1) := by decide +kernel
theorem dX6_seek_17 : decode cX6_seek 17 = .ok (.getfield 12, 3) := by decide +kernel
theorem dX6_seek_20 : decode cX6_seek 20 = .ok (.aload_n 1, 1) := by decide +kernel
theorem dX6_seek_21 : decode cX6_seek 21 = .ok (.aload_n 2, 1) := by decide +kernel
theorem dX6_seek_22 : decode cX6_seek 22 = .ok (.iload_n 3, 1) := by decide +kernel
theorem dX6_seek_23 : decode cX6_seek 23 = .ok (.iload 4, 2) := by decide +kernel
theorem dX6_seek_25 : decode cX6_seek 25 = .ok (.invokevirtual 34, 3) := by decide +kernel
theorem dX6_seek_28 : decode cX6_seek 28 = .ok (.aload_n 0, 1) := by decide +kernel
theorem dX6_seek_29 : decode cX6_seek 29 = .ok (.getfield 12, 3) := by decide +kernel
theorem dX6_seek_32 : decode cX6_seek 32 = .ok (.getfield 38, 3) := by decide +kernel
theorem dX6_seek_35 : decode cX6_seek 35 = .ok (.iload 5, 2) := by decide +kernel
theorem dX6_seek_37 : decode cX6_seek 37 = .ok (.if_icmp .ne 9, 3) := by decide +kernel
theorem dX6_seek_40 : decode cX6_seek 40 = .ok (.aload_n 0, 1) := by decide +kernel
theorem dX6_seek_41 : decode cX6_seek 41 = .ok (.iconst 0, 1) := by decide +kernel
theorem dX6_seek_42 : decode cX6_seek 42 = .ok (.putfield 24, 3) := by decide +kernel
theorem dX6_seek_45 : decode cX6_seek 45 = .ok (.return_, 1) := by decide +kernel
theorem dX6_seek_46 : decode cX6_seek 46 = .ok (.iconst 0, 1) := by decide +kernel
theorem dX6_seek_47 : decode cX6_seek 47 = .ok (.istore 6, 2) := by decide +kernel
theorem dX6_seek_49 : decode cX6_seek 49 = .ok (.iload 6, 2) := by decide +kernel
theorem dX6_seek_51 : decode cX6_seek 51 = .ok (.aload_n 0, 1) := by decide +kernel
theorem dX6_seek_52 : decode cX6_seek 52 = .ok (.getfield 12, 3) := by decide +kernel
theorem dX6_seek_55 : decode cX6_seek 55 = .ok (.getfield 41, 3) := by decide +kernel
theorem dX6_seek_58 : decode cX6_seek 58 = .ok (.if_icmp .ge 89, 3) := by decide +kernel
theorem dX6_seek_61 : decode cX6_seek 61 = .ok (.aload_n 0, 1) := by decide +kernel
theorem dX6_seek_62 : decode cX6_seek 62 = .ok (.getfield 12, 3) := by decide +kernel
theorem dX6_seek_65 : decode cX6_seek 65 = .ok (.getfield 44, 3) := by decide +kernel
theorem dX6_seek_68 : decode cX6_seek 68 = .ok (.iload 6, 2) := by decide +kernel
theorem dX6_seek_70 : decode cX6_seek 70 = .ok (.iaload, 1) := by decide +kernel
theorem dX6_seek_71 : decode cX6_seek 71 = .ok (.istore 7, 2) := by decide +kernel
theorem dX6_seek_73 : decode cX6_seek 73 = .ok (.aload_n 1, 1) := by decide +kernel
theorem dX6_seek_74 : decode cX6_seek 74 = .ok (.aload_n 2, 1) := by decide +kernel
theorem dX6_seek_75 : decode cX6_seek 75 = .ok (.iload 7, 2) := by decide +kernel
theorem dX6_seek_77 : decode cX6_seek 77 = .ok (.invokestatic 48, 3) := by decide +kernel
theorem dX6_seek_80 : decode cX6_seek 80 = .ok (.aload_n 0, 1) := by decide +kernel
theorem dX6_seek_81 : decode cX6_seek 81 = .ok (.getfield 18, 3) := by decide +kernel
theorem dX6_seek_84 : decode cX6_seek 84 = .ok (.aload_n 1, 1) := by decide +kernel
theorem dX6_seek_85 : decode cX6_seek 85 = .ok (.aload_n 2, 1) := by decide +kernel
theorem dX6_seek_86 : decode cX6_seek 86 = .ok (.iload_n 3, 1) := by decide +kernel
theorem dX6_seek_87 : decode cX6_seek 87 = .ok (.iload 4, 2) := by decide +kernel
theorem dX6_seek_89 : decode cX6_seek 89 = .ok (.invokevirtual 34, 3) := by decide +kernel
theorem dX6_seek_92 : decode cX6_seek 92 = .ok (.aload_n 0, 1) := by decide +kernel
theorem dX6_seek_93 : decode cX6_seek 93 = .ok (.getfield 18, 3) := by decide +kernel
theorem dX6_seek_96 : decode cX6_seek 96 = .ok (.getfield 38, 3) := by decide +kernel
theorem dX6_seek_99 : decode cX6_seek 99 = .ok (.iload 5, 2) := by decide +kernel
theorem dX6_seek_101 : decode cX6_seek 101 = .ok (.if_icmp .ne 12, 3) := by decide +kernel
theorem dX6_seek_104 : decode cX6_seek 104 = .ok (.aload_n 0, 1) := by decide +kernel
theorem dX6_seek_105 : decode cX6_seek 105 = .ok (.iload 7, 2) := by decide +kernel
theorem dX6_seek_107 : decode cX6_seek 107 = .ok (.invokevirtual 52, 3) := by decide +kernel
theorem dX6_seek_110 : decode cX6_seek 110 = .ok (.goto 24, 3) := by decide +kernel
theorem dX6_seek_113 : decode cX6_seek 113 = .ok (.aload_n 0, 1) := by decide +kernel
theorem dX6_seek_114 : decode cX6_seek 114 = .ok (.getfield 24, 3) := by decide +kernel
theorem dX6_seek_117 : decode cX6_seek 117 = .ok (.iconst 1, 1) := by decide +kernel
theorem dX6_seek_118 : decode cX6_seek 118 = .ok (.if_icmp .eq 16, 3) := by decide +kernel
theorem dX6_seek_121 : decode cX6_seek 121 = .ok (.aload_n 0, 1) := by decide +kernel
theorem dX6_seek_122 : decode cX6_seek 122 = .ok (.aload_n 1, 1) := by decide +kernel
theorem dX6_seek_123 : decode cX6_seek 123 = .ok (.aload_n 2, 1) := by decide +kernel
theorem dX6_seek_124 : decode cX6_seek 124 = .ok (.iload_n 3, 1) := by decide +kernel
theorem dX6_seek_125 : decode cX6_seek 125 = .ok (.iload 4, 2) := by decide +kernel
theorem dX6_seek_127 : decode cX6_seek 127 = .ok (.iload 5, 2) := by decide +kernel
theorem dX6_seek_129 : decode cX6_seek 129 = .ok (.iload 7, 2) := by decide +kernel
theorem dX6_seek_131 : decode cX6_seek 131 = .ok (.invokevirtual 56, 3) := by decide +kernel
theorem dX6_seek_134 : decode cX6_seek 134 = .ok (.aload_n 1, 1) := by decide +kernel
theorem dX6_seek_135 : decode cX6_seek 135 = .ok (.aload_n 2, 1) := by decide +kernel
theorem dX6_seek_136 : decode cX6_seek 136 = .ok (.iload 7, 2) := by decide +kernel
theorem dX6_seek_138 : decode cX6_seek 138 = .ok (.invokestatic 48, 3) := by decide +kernel
theorem dX6_seek_141 : decode cX6_seek 141 = .ok (.iinc 6 1, 3) := by decide +kernel
theorem dX6_seek_144 : decode cX6_seek 144 = .ok (.goto (-95), 3) := by decide +kernel
theorem dX6_seek_147 : decode cX6_seek 147 = .ok (.return_, 1) := by decide +kernel
set_option maxRecDepth 20000 in
theorem ggX6_seekSecond_X6_turnSide : GoodIn wsX6_seekSecond wsX6_turnSide := goodIn_r _ [16, 17, 18, 19, 20, 21, 22, 23, 24, 25, 26, 27, 28, 29, 30, 31, 32, 81, 82, 83, 84, 85, 86, 87, 88, 89, 90, 91, 92, 93, 94, 95, 96, 97, 98, 99, 100, 101, 102, 103, 104] (by decide +kernel) (by decide +kernel)
set_option maxRecDepth 20000 in
theorem gX6_seekSecond_X6_turnSide : GoodIn wsX6_seekSecond (va_wsS RX6 48 yX6_turnSide wsX6_turnSide) := goodIn_app (goodIn_of _ (by decide +kernel)) ggX6_seekSecond_X6_turnSide
set_option maxRecDepth 20000 in
theorem ggX6_seekSecond_X8_goAs : GoodIn wsX6_seekSecond wsX8_goAs := goodIn_r _ [37, 38, 39, 40, 41, 42, 36, 43, 44, 45, 46, 47, 48, 49, 50, 51, 52, 53, 54, 55, 56, 57, 58, 59, 60, 61, 62, 25, 26, 27, 28, 29, 93, 94, 95, 96, 97, 98, 99, 100, 101, 102, 103, 104, 76, 77, 78, 79, 80, 81, 82, 83, 84, 85, 86, 87, 88, 89, 90, 91, 92] (by decide +kernel) (by decide +kernel)
set_option maxRecDepth 20000 in
theorem gX6_seekSecond_X8_goAs : GoodIn wsX6_seekSecond (wsV RX6 34 RX8 yX8_goAs wsX8_goAs) := goodIn_app (goodIn_of _ (by decide +kernel)) ggX6_seekSecond_X8_goAs
set_option maxRecDepth 20000 in
theorem ggX6_seekSecond_X6_offerTwo : GoodIn wsX6_seekSecond wsX6_offerTwo := goodIn_r _ [66, 67, 68, 69, 70, 71, 72, 73, 74, 75] (by decide +kernel) (by decide +kernel)
set_option maxRecDepth 20000 in
theorem gX6_seekSecond_X6_offerTwo : GoodIn wsX6_seekSecond (wsV RX6 69 RX6 yX6_offerTwo wsX6_offerTwo) := goodIn_app (goodIn_of _ (by decide +kernel)) ggX6_seekSecond_X6_offerTwo
theorem dX6_seekSecond_0 : decode cX6_seekSecond 0 = .ok (.iconst 0, 1) := by decide +kernel
theorem dX6_seekSecond_1 : decode cX6_seekSecond 1 = .ok (.istore 7, 2) := by decide +kernel
theorem dX6_seekSecond_3 : decode cX6_seekSecond 3 = .ok (.iload 7, 2) := by decide +kernel
theorem dX6_seekSecond_5 : decode cX6_seekSecond 5 = .ok (.aload_n 0, 1) := by decide +kernel
theorem dX6_seekSecond_6 : decode cX6_seekSecond 6 = .ok (.getfield 18, 3) := by decide +kernel
theorem dX6_seekSecond_9 : decode cX6_seekSecond 9 = .ok (.getfield 41, 3) := by decide +kernel
theorem dX6_seekSecond_12 : decode cX6_seekSecond 12 = .ok (.if_icmp .ge 77, 3) := by decide +kernel
theorem dX6_seekSecond_15 : decode cX6_seekSecond 15 = .ok (.aload_n 0, 1) := by decide +kernel
theorem dX6_seekSecond_16 : decode cX6_seekSecond 16 = .ok (.getfield 18, 3) := by decide +kernel
theorem dX6_seekSecond_19 : decode cX6_seekSecond 19 = .ok (.getfield 44, 3) := by decide +kernel
theorem dX6_seekSecond_22 : decode cX6_seekSecond 22 = .ok (.iload 7, 2) := by decide +kernel
theorem dX6_seekSecond_24 : decode cX6_seekSecond 24 = .ok (.iaload, 1) := by decide +kernel
theorem dX6_seekSecond_25 : decode cX6_seekSecond 25 = .ok (.istore 8, 2) := by decide +kernel
theorem dX6_seekSecond_27 : decode cX6_seekSecond 27 = .ok (.aload_n 1, 1) := by decide +kernel
theorem dX6_seekSecond_28 : decode cX6_seekSecond 28 = .ok (.aload_n 2, 1) := by decide +kernel
theorem dX6_seekSecond_29 : decode cX6_seekSecond 29 = .ok (.iload 8, 2) := by decide +kernel
theorem dX6_seekSecond_31 : decode cX6_seekSecond 31 = .ok (.invokestatic 48, 3) := by decide +kernel
theorem dX6_seekSecond_34 : decode cX6_seekSecond 34 = .ok (.aload_n 0, 1) := by decide +kernel
theorem dX6_seekSecond_35 : decode cX6_seekSecond 35 = .ok (.getfield 21, 3) := by decide +kernel
theorem dX6_seekSecond_38 : decode cX6_seekSecond 38 = .ok (.aload_n 1, 1) := by decide +kernel
theorem dX6_seekSecond_39 : decode cX6_seekSecond 39 = .ok (.aload_n 2, 1) := by decide +kernel
theorem dX6_seekSecond_40 : decode cX6_seekSecond 40 = .ok (.iload_n 3, 1) := by decide +kernel
theorem dX6_seekSecond_41 : decode cX6_seekSecond 41 = .ok (.iload 4, 2) := by decide +kernel
theorem dX6_seekSecond_43 : decode cX6_seekSecond 43 = .ok (.invokevirtual 34, 3) := by decide +kernel
theorem dX6_seekSecond_46 : decode cX6_seekSecond 46 = .ok (.aload_n 0, 1) := by decide +kernel
theorem dX6_seekSecond_47 : decode cX6_seekSecond 47 = .ok (.getfield 21, 3) := by decide +kernel
theorem dX6_seekSecond_50 : decode cX6_seekSecond 50 = .ok (.getfield 38, 3) := by decide +kernel
theorem dX6_seekSecond_53 : decode cX6_seekSecond 53 = .ok (.iload 5, 2) := by decide +kernel
theorem dX6_seekSecond_55 : decode cX6_seekSecond 55 = .ok (.if_icmp .ne 21, 3) := by decide +kernel
theorem dX6_seekSecond_58 : decode cX6_seekSecond 58 = .ok (.aload_n 0, 1) := by decide +kernel
theorem dX6_seekSecond_59 : decode cX6_seekSecond 59 = .ok (.iload 6, 2) := by decide +kernel
theorem dX6_seekSecond_61 : decode cX6_seekSecond 61 = .ok (.iload 8, 2) := by decide +kernel
theorem dX6_seekSecond_63 : decode cX6_seekSecond 63 = .ok (.invokestatic 60, 3) := by decide +kernel
theorem dX6_seekSecond_66 : decode cX6_seekSecond 66 = .ok (.iload 6, 2) := by decide +kernel
theorem dX6_seekSecond_68 : decode cX6_seekSecond 68 = .ok (.iload 8, 2) := by decide +kernel
theorem dX6_seekSecond_70 : decode cX6_seekSecond 70 = .ok (.invokestatic 66, 3) := by decide +kernel
theorem dX6_seekSecond_73 : decode cX6_seekSecond 73 = .ok (.invokevirtual 69, 3) := by decide +kernel
theorem dX6_seekSecond_76 : decode cX6_seekSecond 76 = .ok (.aload_n 1, 1) := by decide +kernel
theorem dX6_seekSecond_77 : decode cX6_seekSecond 77 = .ok (.aload_n 2, 1) := by decide +kernel
theorem dX6_seekSecond_78 : decode cX6_seekSecond 78 = .ok (.iload 8, 2) := by decide +kernel
theorem dX6_seekSecond_80 : decode cX6_seekSecond 80 = .ok (.invokestatic 48, 3) := by decide +kernel
theorem dX6_seekSecond_83 : decode cX6_seekSecond 83 = .ok (.iinc 7 1, 3) := by decide +kernel
theorem dX6_seekSecond_86 : decode cX6_seekSecond 86 = .ok (.goto (-83), 3) := by decide +kernel
theorem dX6_seekSecond_89 : decode cX6_seekSecond 89 = .ok (.return_, 1) := by decide +kernel
theorem dX6_offerOne_0 : decode cX6_offerOne 0 = .ok (.aload_n 0, 1) := by decide +kernel
theorem dX6_offerOne_1 : decode cX6_offerOne 1 = .ok (.getfield 24, 3) := by decide +kernel
theorem dX6_offerOne_4 : decode cX6_offerOne 4 = .ok (.iconst 1, 1) := by decide +kernel
theorem dX6_offerOne_5 : decode cX6_offerOne 5 = .ok (.if_icmp .ne 11, 3) := by decide +kernel
theorem dX6_offerOne_8 : decode cX6_offerOne 8 = .ok (.iload_n 1, 1) := by decide +kernel
theorem dX6_offerOne_9 : decode cX6_offerOne 9 = .ok (.aload_n 0, 1) := by decide +kernel
theorem dX6_offerOne_10 : decode cX6_offerOne 10 = .ok (.getfield 28, 3) := by decide +kernel
theorem dX6_offerOne_13 : decode cX6_offerOne 13 = .ok (.if_icmp .ge 18, 3) := by decide +kernel
theorem dX6_offerOne_16 : decode cX6_offerOne 16 = .ok (.aload_n 0, 1) := by decide +kernel
theorem dX6_offerOne_17 : decode cX6_offerOne 17 = .ok (.iconst 1, 1) := by decide +kernel
theorem dX6_offerOne_18 : decode cX6_offerOne 18 = .ok (.putfield 24, 3) := by decide +kernel
theorem dX6_offerOne_21 : decode cX6_offerOne 21 = .ok (.aload_n 0, 1) := by decide +kernel
theorem dX6_offerOne_22 : decode cX6_offerOne 22 = .ok (.iload_n 1, 1) := by decide +kernel
theorem dX6_offerOne_23 : decode cX6_offerOne 23 = .ok (.putfield 28, 3) := by decide +kernel
theorem dX6_offerOne_26 : decode cX6_offerOne 26 = .ok (.aload_n 0, 1) := by decide +kernel
theorem dX6_offerOne_27 : decode cX6_offerOne 27 = .ok (.iconst (-1), 1) := by decide +kernel
theorem dX6_offerOne_28 : decode cX6_offerOne 28 = .ok (.putfield 31, 3) := by decide +kernel
theorem dX6_offerOne_31 : decode cX6_offerOne 31 = .ok (.return_, 1) := by decide +kernel
theorem dX6_offerTwo_0 : decode cX6_offerTwo 0 = .ok (.aload_n 0, 1) := by decide +kernel
theorem dX6_offerTwo_1 : decode cX6_offerTwo 1 = .ok (.getfield 24, 3) := by decide +kernel
theorem dX6_offerTwo_4 : decode cX6_offerTwo 4 = .ok (.bipush (-9), 2) := by decide +kernel
theorem dX6_offerTwo_6 : decode cX6_offerTwo 6 = .ok (.if_icmp .eq 27, 3) := by decide +kernel
theorem dX6_offerTwo_9 : decode cX6_offerTwo 9 = .ok (.iload_n 1, 1) := by decide +kernel
theorem dX6_offerTwo_10 : decode cX6_offerTwo 10 = .ok (.aload_n 0, 1) := by decide +kernel
theorem dX6_offerTwo_11 : decode cX6_offerTwo 11 = .ok (.getfield 28, 3) := by decide +kernel
theorem dX6_offerTwo_14 : decode cX6_offerTwo 14 = .ok (.if_icmp .lt 19, 3) := by decide +kernel
theorem dX6_offerTwo_17 : decode cX6_offerTwo 17 = .ok (.iload_n 1, 1) := by decide +kernel
theorem dX6_offerTwo_18 : decode cX6_offerTwo 18 = .ok (.aload_n 0, 1) := by decide +kernel
theorem dX6_offerTwo_19 : decode cX6_offerTwo 19 = .ok (.getfield 28, 3) := by decide +kernel
theorem dX6_offerTwo_22 : decode cX6_offerTwo 22 = .ok (.if_icmp .ne 26, 3) := by decide +kernel
theorem dX6_offerTwo_25 : decode cX6_offerTwo 25 = .ok (.iload_n 2, 1) := by decide +kernel
theorem dX6_offerTwo_26 : decode cX6_offerTwo 26 = .ok (.aload_n 0, 1) := by decide +kernel
theorem dX6_offerTwo_27 : decode cX6_offerTwo 27 = .ok (.getfield 31, 3) := by decide +kernel
theorem dX6_offerTwo_30 : decode cX6_offerTwo 30 = .ok (.if_icmp .ge 18, 3) := by decide +kernel
theorem dX6_offerTwo_33 : decode cX6_offerTwo 33 = .ok (.aload_n 0, 1) := by decide +kernel
theorem dX6_offerTwo_34 : decode cX6_offerTwo 34 = .ok (.iconst 2, 1) := by decide +kernel
theorem dX6_offerTwo_35 : decode cX6_offerTwo 35 = .ok (.putfield 24, 3) := by decide +kernel
theorem dX6_offerTwo_38 : decode cX6_offerTwo 38 = .ok (.aload_n 0, 1) := by decide +kernel
theorem dX6_offerTwo_39 : decode cX6_offerTwo 39 = .ok (.iload_n 1, 1) := by decide +kernel
theorem dX6_offerTwo_40 : decode cX6_offerTwo 40 = .ok (.putfield 28, 3) := by decide +kernel
theorem dX6_offerTwo_43 : decode cX6_offerTwo 43 = .ok (.aload_n 0, 1) := by decide +kernel
theorem dX6_offerTwo_44 : decode cX6_offerTwo 44 = .ok (.iload_n 2, 1) := by decide +kernel
theorem dX6_offerTwo_45 : decode cX6_offerTwo 45 = .ok (.putfield 31, 3) := by decide +kernel
theorem dX6_offerTwo_48 : decode cX6_offerTwo 48 = .ok (.return_, 1) := by decide +kernel
set_option maxRecDepth 20000 in
theorem ggX6_turnSide_X3_turnPlank : GoodIn wsX6_turnSide wsX3_turnPlank := goodIn_r _ [5, 6, 7, 8, 9, 10, 11, 12, 13, 14, 15, 16, 17, 18, 19, 20, 21, 22, 23, 24, 25, 26, 27, 28, 29, 30, 31, 32, 33, 34, 35, 36, 37, 38, 39, 40] (by decide +kernel) (by decide +kernel)
set_option maxRecDepth 20000 in
theorem gX6_turnSide_X3_turnPlank : GoodIn wsX6_turnSide (wsV RX6 73 RX3 yX3_turnPlank wsX3_turnPlank) := goodIn_app (goodIn_of _ (by decide +kernel)) ggX6_turnSide_X3_turnPlank
theorem dX6_turnSide_0 : decode cX6_turnSide 0 = .ok (.aload_n 1, 1) := by decide +kernel
theorem dX6_turnSide_1 : decode cX6_turnSide 1 = .ok (.aload_n 0, 1) := by decide +kernel
theorem dX6_turnSide_2 : decode cX6_turnSide 2 = .ok (.iload_n 2, 1) := by decide +kernel
theorem dX6_turnSide_3 : decode cX6_turnSide 3 = .ok (.iconst 2, 1) := by decide +kernel
theorem dX6_turnSide_4 : decode cX6_turnSide 4 = .ok (.idiv, 1) := by decide +kernel
theorem dX6_turnSide_5 : decode cX6_turnSide 5 = .ok (.iload_n 2, 1) := by decide +kernel
theorem dX6_turnSide_6 : decode cX6_turnSide 6 = .ok (.iconst 2, 1) := by decide +kernel
theorem dX6_turnSide_7 : decode cX6_turnSide 7 = .ok (.irem, 1) := by decide +kernel
theorem dX6_turnSide_8 : decode cX6_turnSide 8 = .ok (.ifCond .ne 7, 3) := by decide +kernel
theorem dX6_turnSide_11 : decode cX6_turnSide 11 = .ok (.iconst 1, 1) := by decide +kernel
theorem dX6_turnSide_12 : decode cX6_turnSide 12 = .ok (.goto 4, 3) := by decide +kernel
theorem dX6_turnSide_15 : decode cX6_turnSide 15 = .ok (.iconst 2, 1) := by decide +kernel
theorem dX6_turnSide_16 : decode cX6_turnSide 16 = .ok (.invokevirtual 73, 3) := by decide +kernel
theorem dX6_turnSide_19 : decode cX6_turnSide 19 = .ok (.return_, 1) := by decide +kernel
theorem dX7_init_0 : decode cX7_init 0 = .ok (.aload_n 0, 1) := by decide +kernel
theorem dX7_init_1 : decode cX7_init 1 = .ok (.invokespecial 3, 3) := by decide +kernel
theorem dX7_init_4 : decode cX7_init 4 = .ok (.aload_n 0, 1) := by decide +kernel
theorem dX7_init_5 : decode cX7_init 5 = .ok (.iconst 0, 1) := by decide +kernel
theorem dX7_init_6 : decode cX7_init 6 = .ok (.newarray .char, 2) := by decide +kernel
theorem dX7_init_8 : decode cX7_init 8 = .ok (.putfield 9, 3) := by decide +kernel
theorem dX7_init_11 : decode cX7_init 11 = .ok (.return_, 1) := by decide +kernel
set_option maxRecDepth 20000 in
theorem ggX7_readText_X2_wipe : GoodIn wsX7_readText wsX2_wipe := goodIn_r _ [14, 15, 16, 17, 18, 19, 20, 21, 22, 23, 24, 25, 127, 128, 129, 130, 131, 132, 133, 134, 135, 136, 137, 138] (by decide +kernel) (by decide +kernel)
set_option maxRecDepth 20000 in
theorem gX7_readText_X2_wipe : GoodIn wsX7_readText (wsV RX7 31 RX2 yX2_wipe wsX2_wipe) := goodIn_app (goodIn_of _ (by decide +kernel)) ggX7_readText_X2_wipe
set_option maxRecDepth 20000 in
theorem ggX7_readText_X7_nextToken : GoodIn wsX7_readText wsX7_nextToken := goodIn_r _ [30, 7, 31, 32, 9, 6, 33, 34, 35, 29, 36, 1, 37, 38, 39, 40, 41, 42, 43, 44, 120, 121, 122, 123, 124, 125, 126] (by decide +kernel) (by decide +kernel)
set_option maxRecDepth 20000 in
theorem gX7_readText_X7_nextToken : GoodIn wsX7_readText (wsV RX7 36 RX7 yX7_nextToken wsX7_nextToken) := goodIn_app (goodIn_of _ (by decide +kernel)) ggX7_readText_X7_nextToken
set_option maxRecDepth 20000 in
theorem ggX7_readText_X7_readItem : GoodIn wsX7_readText wsX7_readItem := goodIn_r _ [48, 9, 32, 49, 50, 51, 29, 52, 8, 31, 53, 54, 55, 56, 57, 58, 59, 60, 61, 62, 26, 27, 28, 30, 7, 6, 33, 34, 35, 36, 1, 37, 38, 39, 40, 41, 42, 43, 44, 63, 64, 65, 13, 66, 15, 16, 17, 67, 68, 69, 70, 71, 72, 73, 74, 75, 20, 76, 77, 78, 79, 80, 81, 82, 83, 84, 85, 86, 87, 88, 89, 90, 91, 92, 93, 94, 95, 96, 97, 98, 99, 100, 101, 102, 103, 104, 105, 106, 107, 108, 109, 110, 111, 112, 19, 113, 114, 115, 116, 117, 118, 119, 120, 121, 122, 123, 124, 125, 126, 127, 128, 129, 130, 131, 132, 133, 134, 135, 136, 137, 138] (by decide +kernel) (by decide +kernel)
set_option maxRecDepth 20000 in
theorem gX7_readText_X7_readItem : GoodIn wsX7_readText (wsV RX7 42 RX7 yX7_readItem wsX7_readItem) := goodIn_app (goodIn_of _ (by decide +kernel)) ggX7_readText_X7_readItem
theorem dX7_readText_0 : decode cX7_readText 0 = .ok (.aload_n 0, 1) := by decide +kernel
theorem dX7_readText_1 : decode cX7_readText 1 = .ok (.aload_n 1, 1) := by decide +kernel
theorem dX7_readText_2 : decode cX7_readText 2 = .ok (.putfield 9, 3) := by decide +kernel
theorem dX7_readText_5 : decode cX7_readText 5 = .ok (.aload_n 0, 1) := by decide +kernel
theorem dX7_readText_6 : decode cX7_readText 6 = .ok (.iload_n 2, 1) := by decide +kernel
theorem dX7_readText_7 : decode cX7_readText 7 = .ok (.aload_n 1, 1) := by decide +kernel
theorem dX7_readText_8 : decode cX7_readText 8 = .ok (.arraylength, 1) := by decide +kernel
theorem dX7_readText_9 : decode cX7_readText 9 = .ok (.invokestatic 15, 3) := by decide +kernel
theorem dX7_readText_12 : decode cX7_readText 12 = .ok (.putfield 21, 3) := by decide +kernel
theorem dX7_readText_15 : decode cX7_readText 15 = .ok (.aload_n 0, 1) := by decide +kernel
theorem dX7_readText_16 : decode cX7_readText 16 = .ok (.iconst 0, 1) := by decide +kernel
theorem dX7_readText_17 : decode cX7_readText 17 = .ok (.putfield 25, 3) := by decide +kernel
theorem dX7_readText_20 : decode cX7_readText 20 = .ok (.aload_n 0, 1) := by decide +kernel
theorem dX7_readText_21 : decode cX7_readText 21 = .ok (.iconst (-1), 1) := by decide +kernel
theorem dX7_readText_22 : decode cX7_readText 22 = .ok (.putfield 28, 3) := by decide +kernel
theorem dX7_readText_25 : decode cX7_readText 25 = .ok (.aload_n 3, 1) := by decide +kernel
theorem dX7_readText_26 : decode cX7_readText 26 = .ok (.invokevirtual 31, 3) := by decide +kernel
theorem dX7_readText_29 : decode cX7_readText 29 = .ok (.iconst 0, 1) := by decide +kernel
theorem dX7_readText_30 : decode cX7_readText 30 = .ok (.istore 4, 2) := by decide +kernel
theorem dX7_readText_32 : decode cX7_readText 32 = .ok (.iconst 0, 1) := by decide +kernel
theorem dX7_readText_33 : decode cX7_readText 33 = .ok (.istore 5, 2) := by decide +kernel
theorem dX7_readText_35 : decode cX7_readText 35 = .ok (.iload 5, 2) := by decide +kernel
theorem dX7_readText_37 : decode cX7_readText 37 = .ok (.sipush 200, 3) := by decide +kernel
theorem dX7_readText_40 : decode cX7_readText 40 = .ok (.if_icmp .gt 57, 3) := by decide +kernel
theorem dX7_readText_43 : decode cX7_readText 43 = .ok (.aload_n 0, 1) := by decide +kernel
theorem dX7_readText_44 : decode cX7_readText 44 = .ok (.invokevirtual 36, 3) := by decide +kernel
theorem dX7_readText_47 : decode cX7_readText 47 = .ok (.aload_n 0, 1) := by decide +kernel
theorem dX7_readText_48 : decode cX7_readText 48 = .ok (.getfield 39, 3) := by decide +kernel
theorem dX7_readText_51 : decode cX7_readText 51 = .ok (.ifCond .ne 6, 3) := by decide +kernel
theorem dX7_readText_54 : decode cX7_readText 54 = .ok (.goto 43, 3) := by decide +kernel
theorem dX7_readText_57 : decode cX7_readText 57 = .ok (.aload_n 0, 1) := by decide +kernel
theorem dX7_readText_58 : decode cX7_readText 58 = .ok (.aload_n 3, 1) := by decide +kernel
theorem dX7_readText_59 : decode cX7_readText 59 = .ok (.iload 4, 2) := by decide +kernel
theorem dX7_readText_61 : decode cX7_readText 61 = .ok (.ifCond .ne 7, 3) := by decide +kernel
theorem dX7_readText_64 : decode cX7_readText 64 = .ok (.iconst 1, 1) := by decide +kernel
theorem dX7_readText_65 : decode cX7_readText 65 = .ok (.goto 4, 3) := by decide +kernel
theorem dX7_readText_68 : decode cX7_readText 68 = .ok (.iconst 0, 1) := by decide +kernel
theorem dX7_readText_69 : decode cX7_readText 69 = .ok (.invokevirtual 42, 3) := by decide +kernel
theorem dX7_readText_72 : decode cX7_readText 72 = .ok (.aload_n 0, 1) := by decide +kernel
theorem dX7_readText_73 : decode cX7_readText 73 = .ok (.getfield 28, 3) := by decide +kernel
theorem dX7_readText_76 : decode cX7_readText 76 = .ok (.iconst (-1), 1) := by decide +kernel
theorem dX7_readText_77 : decode cX7_readText 77 = .ok (.if_icmp .eq 11, 3) := by decide +kernel
theorem dX7_readText_80 : decode cX7_readText 80 = .ok (.bipush (-10), 2) := by decide +kernel
theorem dX7_readText_82 : decode cX7_readText 82 = .ok (.aload_n 0, 1) := by decide +kernel
theorem dX7_readText_83 : decode cX7_readText 83 = .ok (.getfield 28, 3) := by decide +kernel
theorem dX7_readText_86 : decode cX7_readText 86 = .ok (.isub, 1) := by decide +kernel
theorem dX7_readText_87 : decode cX7_readText 87 = .ok (.ireturn, 1) := by decide +kernel
theorem dX7_readText_88 : decode cX7_readText 88 = .ok (.iinc 4 1, 3) := by decide +kernel
theorem dX7_readText_91 : decode cX7_readText 91 = .ok (.iinc 5 1, 3) := by decide +kernel
theorem dX7_readText_94 : decode cX7_readText 94 = .ok (.goto (-59), 3) := by decide +kernel
theorem dX7_readText_97 : decode cX7_readText 97 = .ok (.iload 4, 2) := by decide +kernel
theorem dX7_readText_99 : decode cX7_readText 99 = .ok (.ireturn, 1) := by decide +kernel
set_option maxRecDepth 20000 in
theorem ggX7_readItem_X7_fail : GoodIn wsX7_readItem wsX7_fail := goodIn_r _ [7, 8, 9, 102, 103, 104, 105, 106, 107, 108] (by decide +kernel) (by decide +kernel)
set_option maxRecDepth 20000 in
theorem gX7_readItem_X7_fail : GoodIn wsX7_readItem (wsV RX7 49 RX7 yX7_fail wsX7_fail) := goodIn_app (goodIn_of _ (by decide +kernel)) ggX7_readItem_X7_fail
set_option maxRecDepth 20000 in
theorem ggX7_readItem_X7_readGround : GoodIn wsX7_readItem wsX7_readGround := goodIn_r _ [13, 8, 14, 15, 16, 17, 18, 6, 19, 1, 2, 20, 21, 22, 23, 24, 9, 25, 26, 27, 28, 29, 30, 31, 32, 33, 34, 35, 36, 37, 38, 3, 4, 5, 7, 39, 40, 41, 42, 43, 44, 45, 46, 47, 48, 49, 50, 51, 52, 53, 54, 55, 56, 57, 58, 59, 60, 102, 103, 104, 105, 106, 107, 108, 109, 110, 111, 112, 113, 114, 115, 116, 117, 118, 119, 120] (by decide +kernel) (by decide +kernel)
set_option maxRecDepth 20000 in
theorem gX7_readItem_X7_readGround : GoodIn wsX7_readItem (wsV RX7 52 RX7 yX7_readGround wsX7_readGround) := goodIn_app (goodIn_of _ (by decide +kernel)) ggX7_readItem_X7_readGround
set_option maxRecDepth 20000 in
theorem ggX7_readItem_X7_readKerb : GoodIn wsX7_readItem wsX7_readKerb := goodIn_r _ [64, 65, 66, 8, 16, 17, 18, 6, 19, 1, 2, 20, 21, 22, 23, 24, 9, 25, 26, 27, 28, 29, 30, 31, 32, 33, 34, 35, 36, 37, 38, 3, 4, 5, 7, 67, 48, 49, 42, 50, 44, 45, 68, 69, 70, 71, 56, 72, 73, 74, 75, 55, 76, 77, 78, 109, 110, 111, 112, 113, 114, 115, 116, 117, 118, 119, 120, 102, 103, 104, 105, 106, 107, 108] (by decide +kernel) (by decide +kernel)
set_option maxRecDepth 20000 in
theorem gX7_readItem_X7_readKerb : GoodIn wsX7_readItem (wsV RX7 56 RX7 yX7_readKerb wsX7_readKerb) := goodIn_app (goodIn_of _ (by decide +kernel)) ggX7_readItem_X7_readKerb
set_option maxRecDepth 20000 in
theorem ggX7_readItem_X7_readGrating : GoodIn wsX7_readItem wsX7_readGrating := goodIn_r _ [82, 83, 65, 66, 8, 84, 3, 4, 5, 6, 7, 9, 16, 17, 18, 19, 1, 2, 20, 21, 22, 23, 24, 25, 26, 27, 28, 29, 30, 31, 32, 33, 34, 35, 36, 37, 38, 67, 48, 49, 42, 50, 44, 45, 109, 110, 111, 112, 113, 114, 115, 116, 117, 118, 119, 120, 102, 103, 104, 105, 106, 107, 108] (by decide +kernel) (by decide +kernel)
set_option maxRecDepth 20000 in
theorem gX7_readItem_X7_readGrating : GoodIn wsX7_readItem (wsV RX7 59 RX7 yX7_readGrating wsX7_readGrating) := goodIn_app (goodIn_of _ (by decide +kernel)) ggX7_readItem_X7_readGrating
set_option maxRecDepth 20000 in
theorem ggX7_readItem_X7_readKind : GoodIn wsX7_readItem wsX7_readKind := goodIn_r _ [88, 89, 8, 3, 4, 5, 6, 7, 9, 16, 17, 18, 19, 1, 2, 20, 21, 22, 23, 24, 25, 26, 27, 28, 29, 30, 31, 32, 33, 34, 35, 36, 37, 38, 90, 91, 92, 42, 93, 94, 95, 96, 97, 109, 110, 111, 112, 113, 114, 115, 116, 117, 118, 119, 120, 102, 103, 104, 105, 106, 107, 108] (by decide +kernel) (by decide +kernel)
set_option maxRecDepth 20000 in
theorem gX7_readItem_X7_readKind : GoodIn wsX7_readItem (wsV RX7 62 RX7 yX7_readKind wsX7_readKind) := goodIn_app (goodIn_of _ (by decide +kernel)) ggX7_readItem_X7_readKind
set_option maxRecDepth 20000 in
theorem ggX7_readItem_X7_readClosing : GoodIn wsX7_readItem wsX7_readClosing := goodIn_r _ [101, 8, 1, 20, 21, 22, 6, 23, 24, 9, 2, 25, 26, 27, 28, 29, 30, 31, 32, 33, 34, 35, 36, 37, 38, 3, 4, 5, 7, 102, 103, 104, 105, 106, 107, 108] (by decide +kernel) (by decide +kernel)
set_option maxRecDepth 20000 in
theorem gX7_readItem_X7_readClosing : GoodIn wsX7_readItem (wsV RX7 65 RX7 yX7_readClosing wsX7_readClosing) := goodIn_app (goodIn_of _ (by decide +kernel)) ggX7_readItem_X7_readClosing
theorem dX7_readItem_0 : decode cX7_readItem 0 = .ok (.aload_n 0, 1) := by decide +kernel
theorem dX7_readItem_1 : decode cX7_readItem 1 = .ok (.getfield 39, 3) := by decide +kernel
theorem dX7_readItem_4 : decode cX7_readItem 4 = .ok (.iconst 1, 1) := by decide +kernel
theorem dX7_readItem_5 : decode cX7_readItem 5 = .ok (.if_icmp .ne 21, 3) := by decide +kernel
theorem dX7_readItem_8 : decode cX7_readItem 8 = .ok (.iload_n 2, 1) := by decide +kernel
theorem dX7_readItem_9 : decode cX7_readItem 9 = .ok (.aload_n 0, 1) := by decide +kernel
theorem dX7_readItem_10 : decode cX7_readItem 10 = .ok (.getfield 46, 3) := by decide +kernel
theorem dX7_readItem_13 : decode cX7_readItem 13 = .ok (.bipush 103, 2) := by decide +kernel
theorem dX7_readItem_15 : decode cX7_readItem 15 = .ok (.if_icmp .ne 7, 3) := by decide +kernel
theorem dX7_readItem_18 : decode cX7_readItem 18 = .ok (.iconst 1, 1) := by decide +kernel
theorem dX7_readItem_19 : decode cX7_readItem 19 = .ok (.goto 4, 3) := by decide +kernel
theorem dX7_readItem_22 : decode cX7_readItem 22 = .ok (.iconst 0, 1) := by decide +kernel
theorem dX7_readItem_23 : decode cX7_readItem 23 = .ok (.if_icmp .eq 8, 3) := by decide +kernel
theorem dX7_readItem_26 : decode cX7_readItem 26 = .ok (.aload_n 0, 1) := by decide +kernel
theorem dX7_readItem_27 : decode cX7_readItem 27 = .ok (.invokevirtual 49, 3) := by decide +kernel
theorem dX7_readItem_30 : decode cX7_readItem 30 = .ok (.return_, 1) := by decide +kernel
theorem dX7_readItem_31 : decode cX7_readItem 31 = .ok (.aload_n 0, 1) := by decide +kernel
theorem dX7_readItem_32 : decode cX7_readItem 32 = .ok (.getfield 46, 3) := by decide +kernel
theorem dX7_readItem_35 : decode cX7_readItem 35 = .ok (.lookupswitch 73 #[(99, 65), (103, 41), (107, 49), (111, 57)], 41) := by decide +kernel
theorem dX7_readItem_76 : decode cX7_readItem 76 = .ok (.aload_n 0, 1) := by decide +kernel
theorem dX7_readItem_77 : decode cX7_readItem 77 = .ok (.aload_n 1, 1) := by decide +kernel
theorem dX7_readItem_78 : decode cX7_readItem 78 = .ok (.invokevirtual 52, 3) := by decide +kernel
theorem dX7_readItem_81 : decode cX7_readItem 81 = .ok (.goto 31, 3) := by decide +kernel
theorem dX7_readItem_84 : decode cX7_readItem 84 = .ok (.aload_n 0, 1) := by decide +kernel
theorem dX7_readItem_85 : decode cX7_readItem 85 = .ok (.aload_n 1, 1) := by decide +kernel
theorem dX7_readItem_86 : decode cX7_readItem 86 = .ok (.invokevirtual 56, 3) := by decide +kernel
theorem dX7_readItem_89 : decode cX7_readItem 89 = .ok (.goto 23, 3) := by decide +kernel
theorem dX7_readItem_92 : decode cX7_readItem 92 = .ok (.aload_n 0, 1) := by decide +kernel
theorem dX7_readItem_93 : decode cX7_readItem 93 = .ok (.aload_n 1, 1) := by decide +kernel
theorem dX7_readItem_94 : decode cX7_readItem 94 = .ok (.invokevirtual 59, 3) := by decide +kernel
theorem dX7_readItem_97 : decode cX7_readItem 97 = .ok (.goto 15, 3) := by decide +kernel
theorem dX7_readItem_100 : decode cX7_readItem 100 = .ok (.aload_n 0, 1) := by decide +kernel
theorem dX7_readItem_101 : decode cX7_readItem 101 = .ok (.aload_n 1, 1) := by decide +kernel
theorem dX7_readItem_102 : decode cX7_readItem 102 = .ok (.invokevirtual 62, 3) := by decide +kernel
theorem dX7_readItem_105 : decode cX7_readItem 105 = .ok (.goto 7, 3) := by decide +kernel
theorem dX7_readItem_108 : decode cX7_readItem 108 = .ok (.aload_n 0, 1) := by decide +kernel
theorem dX7_readItem_109 : decode cX7_readItem 109 = .ok (.invokevirtual 49, 3) := by decide +kernel
theorem dX7_readItem_112 : decode cX7_readItem 112 = .ok (.aload_n 0, 1) := by decide +kernel
theorem dX7_readItem_113 : decode cX7_readItem 113 = .ok (.invokevirtual 65, 3) := by decide +kernel
theorem dX7_readItem_116 : decode cX7_readItem 116 = .ok (.return_, 1) := by decide +kernel
set_option maxRecDepth 20000 in
theorem ggX7_readGround_X7_readNumber : GoodIn wsX7_readGround wsX7_readNumber := goodIn_r _ [8, 1, 9, 10, 11, 12, 13, 7, 14, 15, 16, 17, 18, 19, 20, 21, 22, 23, 24, 25, 26, 27, 28, 29, 30, 31, 32, 33, 34, 57, 58, 59, 60, 61, 62, 63] (by decide +kernel) (by decide +kernel)
set_option maxRecDepth 20000 in
theorem gX7_readGround_X7_readNumber : GoodIn wsX7_readGround (wsV RX7 68 RX7 yX7_readNumber wsX7_readNumber) := goodIn_app (goodIn_of _ (by decide +kernel)) ggX7_readGround_X7_readNumber
set_option maxRecDepth 20000 in
theorem ggX7_readGround_X2_stretch : GoodIn wsX7_readGround wsX2_stretch := goodIn_r _ [39, 40, 41, 42, 43, 44, 45, 38, 46, 47, 48, 49, 50, 51, 52, 64, 65, 66, 67, 68, 69, 70, 71, 72, 73, 74, 75] (by decide +kernel) (by decide +kernel)
set_option maxRecDepth 20000 in
theorem gX7_readGround_X2_stretch : GoodIn wsX7_readGround (wsV RX7 71 RX2 yX2_stretch wsX2_stretch) := goodIn_app (goodIn_of _ (by decide +kernel)) ggX7_readGround_X2_stretch
set_option maxRecDepth 20000 in
theorem ggX7_readGround_X7_readFigure : GoodIn wsX7_readGround wsX7_readFigure := goodIn_r _ [56, 1, 15, 16, 22, 18, 19, 20, 7, 21, 17, 23, 24, 25, 26, 31, 32, 33, 34, 57, 58, 59, 60, 61, 62, 63] (by decide +kernel) (by decide +kernel)
set_option maxRecDepth 20000 in
theorem gX7_readGround_X7_readFigure : GoodIn wsX7_readGround (wsV RX7 82 RX7 yX7_readFigure wsX7_readFigure) := goodIn_app (goodIn_of _ (by decide +kernel)) ggX7_readGround_X7_readFigure
theorem dX7_readGround_0 : decode cX7_readGround 0 = .ok (.aload_n 0, 1) := by decide +kernel
theorem dX7_readGround_1 : decode cX7_readGround 1 = .ok (.iconst 1, 1) := by decide +kernel
theorem dX7_readGround_2 : decode cX7_readGround 2 = .ok (.bipush 6, 2) := by decide +kernel
theorem dX7_readGround_4 : decode cX7_readGround 4 = .ok (.invokevirtual 68, 3) := by decide +kernel
theorem dX7_readGround_7 : decode cX7_readGround 7 = .ok (.istore_n 2, 1) := by decide +kernel
theorem dX7_readGround_8 : decode cX7_readGround 8 = .ok (.aload_n 0, 1) := by decide +kernel
theorem dX7_readGround_9 : decode cX7_readGround 9 = .ok (.iconst 1, 1) := by decide +kernel
theorem dX7_readGround_10 : decode cX7_readGround 10 = .ok (.iconst 5, 1) := by decide +kernel
theorem dX7_readGround_11 : decode cX7_readGround 11 = .ok (.invokevirtual 68, 3) := by decide +kernel
theorem dX7_readGround_14 : decode cX7_readGround 14 = .ok (.istore_n 3, 1) := by decide +kernel
theorem dX7_readGround_15 : decode cX7_readGround 15 = .ok (.aload_n 0, 1) := by decide +kernel
theorem dX7_readGround_16 : decode cX7_readGround 16 = .ok (.getfield 28, 3) := by decide +kernel
theorem dX7_readGround_19 : decode cX7_readGround 19 = .ok (.iconst (-1), 1) := by decide +kernel
theorem dX7_readGround_20 : decode cX7_readGround 20 = .ok (.if_icmp .eq 4, 3) := by decide +kernel
theorem dX7_readGround_23 : decode cX7_readGround 23 = .ok (.return_, 1) := by decide +kernel
theorem dX7_readGround_24 : decode cX7_readGround 24 = .ok (.aload_n 1, 1) := by decide +kernel
theorem dX7_readGround_25 : decode cX7_readGround 25 = .ok (.iload_n 2, 1) := by decide +kernel
theorem dX7_readGround_26 : decode cX7_readGround 26 = .ok (.iload_n 3, 1) := by decide +kernel
theorem dX7_readGround_27 : decode cX7_readGround 27 = .ok (.invokevirtual 71, 3) := by decide +kernel
theorem dX7_readGround_30 : decode cX7_readGround 30 = .ok (.iconst 0, 1) := by decide +kernel
theorem dX7_readGround_31 : decode cX7_readGround 31 = .ok (.istore 4, 2) := by decide +kernel
theorem dX7_readGround_33 : decode cX7_readGround 33 = .ok (.iload 4, 2) := by decide +kernel
theorem dX7_readGround_35 : decode cX7_readGround 35 = .ok (.aload_n 1, 1) := by decide +kernel
theorem dX7_readGround_36 : decode cX7_readGround 36 = .ok (.getfield 75, 3) := by decide +kernel
theorem dX7_readGround_39 : decode cX7_readGround 39 = .ok (.if_icmp .ge 20, 3) := by decide +kernel
theorem dX7_readGround_42 : decode cX7_readGround 42 = .ok (.aload_n 1, 1) := by decide +kernel
theorem dX7_readGround_43 : decode cX7_readGround 43 = .ok (.getfield 78, 3) := by decide +kernel
theorem dX7_readGround_46 : decode cX7_readGround 46 = .ok (.iload 4, 2) := by decide +kernel
theorem dX7_readGround_48 : decode cX7_readGround 48 = .ok (.aload_n 0, 1) := by decide +kernel
theorem dX7_readGround_49 : decode cX7_readGround 49 = .ok (.invokevirtual 82, 3) := by decide +kernel
theorem dX7_readGround_52 : decode cX7_readGround 52 = .ok (.iastore, 1) := by decide +kernel
theorem dX7_readGround_53 : decode cX7_readGround 53 = .ok (.iinc 4 1, 3) := by decide +kernel
theorem dX7_readGround_56 : decode cX7_readGround 56 = .ok (.goto (-23), 3) := by decide +kernel
theorem dX7_readGround_59 : decode cX7_readGround 59 = .ok (.return_, 1) := by decide +kernel
set_option maxRecDepth 20000 in
theorem ggX7_readKerb_X7_readNumber : GoodIn wsX7_readKerb wsX7_readNumber := goodIn_r _ [8, 3, 9, 10, 11, 12, 13, 7, 14, 15, 16, 17, 18, 19, 20, 21, 22, 23, 24, 25, 26, 27, 28, 29, 30, 31, 32, 33, 34, 67, 68, 69, 70, 71, 72, 73] (by decide +kernel) (by decide +kernel)
set_option maxRecDepth 20000 in
theorem gX7_readKerb_X7_readNumber : GoodIn wsX7_readKerb (wsV RX7 68 RX7 yX7_readNumber wsX7_readNumber) := goodIn_app (goodIn_of _ (by decide +kernel)) ggX7_readKerb_X7_readNumber
set_option maxRecDepth 20000 in
theorem ggX7_readKerb_X2_cellAt : GoodIn wsX7_readKerb wsX2_cellAt := goodIn_r _ [39, 40, 41, 55, 56, 57, 58, 59, 60, 61, 62, 63, 64, 65, 66] (by decide +kernel) (by decide +kernel)
set_option maxRecDepth 20000 in
theorem gX7_readKerb_X2_cellAt : GoodIn wsX7_readKerb (wsV RX7 92 RX2 yX2_cellAt wsX2_cellAt) := goodIn_app (goodIn_of _ (by decide +kernel)) ggX7_readKerb_X2_cellAt
set_option maxRecDepth 20000 in
theorem ggX7_readKerb_X2_addKerb : GoodIn wsX7_readKerb wsX2_addKerb := goodIn_r _ [45, 46, 47, 48, 49, 38, 50, 51, 52, 53, 54, 55, 56, 57, 58, 59, 60, 61, 62, 63, 64, 65, 66] (by decide +kernel) (by decide +kernel)
set_option maxRecDepth 20000 in
theorem gX7_readKerb_X2_addKerb : GoodIn wsX7_readKerb (wsV RX7 95 RX2 yX2_addKerb wsX2_addKerb) := goodIn_app (goodIn_of _ (by decide +kernel)) ggX7_readKerb_X2_addKerb
theorem dX7_readKerb_0 : decode cX7_readKerb 0 = .ok (.aload_n 0, 1) := by decide +kernel
theorem dX7_readKerb_1 : decode cX7_readKerb 1 = .ok (.iconst 0, 1) := by decide +kernel
theorem dX7_readKerb_2 : decode cX7_readKerb 2 = .ok (.aload_n 1, 1) := by decide +kernel
theorem dX7_readKerb_3 : decode cX7_readKerb 3 = .ok (.getfield 86, 3) := by decide +kernel
theorem dX7_readKerb_6 : decode cX7_readKerb 6 = .ok (.iconst 1, 1) := by decide +kernel
theorem dX7_readKerb_7 : decode cX7_readKerb 7 = .ok (.isub, 1) := by decide +kernel
theorem dX7_readKerb_8 : decode cX7_readKerb 8 = .ok (.invokevirtual 68, 3) := by decide +kernel
theorem dX7_readKerb_11 : decode cX7_readKerb 11 = .ok (.istore_n 2, 1) := by decide +kernel
theorem dX7_readKerb_12 : decode cX7_readKerb 12 = .ok (.aload_n 0, 1) := by decide +kernel
theorem dX7_readKerb_13 : decode cX7_readKerb 13 = .ok (.iconst 0, 1) := by decide +kernel
theorem dX7_readKerb_14 : decode cX7_readKerb 14 = .ok (.aload_n 1, 1) := by decide +kernel
theorem dX7_readKerb_15 : decode cX7_readKerb 15 = .ok (.getfield 89, 3) := by decide +kernel
theorem dX7_readKerb_18 : decode cX7_readKerb 18 = .ok (.iconst 1, 1) := by decide +kernel
theorem dX7_readKerb_19 : decode cX7_readKerb 19 = .ok (.isub, 1) := by decide +kernel
theorem dX7_readKerb_20 : decode cX7_readKerb 20 = .ok (.invokevirtual 68, 3) := by decide +kernel
theorem dX7_readKerb_23 : decode cX7_readKerb 23 = .ok (.istore_n 3, 1) := by decide +kernel
theorem dX7_readKerb_24 : decode cX7_readKerb 24 = .ok (.aload_n 0, 1) := by decide +kernel
theorem dX7_readKerb_25 : decode cX7_readKerb 25 = .ok (.iconst 0, 1) := by decide +kernel
theorem dX7_readKerb_26 : decode cX7_readKerb 26 = .ok (.iconst 3, 1) := by decide +kernel
theorem dX7_readKerb_27 : decode cX7_readKerb 27 = .ok (.invokevirtual 68, 3) := by decide +kernel
theorem dX7_readKerb_30 : decode cX7_readKerb 30 = .ok (.istore 4, 2) := by decide +kernel
theorem dX7_readKerb_32 : decode cX7_readKerb 32 = .ok (.aload_n 0, 1) := by decide +kernel
theorem dX7_readKerb_33 : decode cX7_readKerb 33 = .ok (.getfield 28, 3) := by decide +kernel
theorem dX7_readKerb_36 : decode cX7_readKerb 36 = .ok (.iconst (-1), 1) := by decide +kernel
theorem dX7_readKerb_37 : decode cX7_readKerb 37 = .ok (.if_icmp .ne 15, 3) := by decide +kernel
theorem dX7_readKerb_40 : decode cX7_readKerb 40 = .ok (.aload_n 1, 1) := by decide +kernel
theorem dX7_readKerb_41 : decode cX7_readKerb 41 = .ok (.aload_n 1, 1) := by decide +kernel
theorem dX7_readKerb_42 : decode cX7_readKerb 42 = .ok (.iload_n 2, 1) := by decide +kernel
theorem dX7_readKerb_43 : decode cX7_readKerb 43 = .ok (.iload_n 3, 1) := by decide +kernel
theorem dX7_readKerb_44 : decode cX7_readKerb 44 = .ok (.invokevirtual 92, 3) := by decide +kernel
theorem dX7_readKerb_47 : decode cX7_readKerb 47 = .ok (.iload 4, 2) := by decide +kernel
theorem dX7_readKerb_49 : decode cX7_readKerb 49 = .ok (.invokevirtual 95, 3) := by decide +kernel
theorem dX7_readKerb_52 : decode cX7_readKerb 52 = .ok (.return_, 1) := by decide +kernel
set_option maxRecDepth 20000 in
theorem ggX7_readGrating_X7_fail : GoodIn wsX7_readGrating wsX7_fail := goodIn_r _ [10, 4, 11, 56, 57, 58, 59, 60, 61, 62] (by decide +kernel) (by decide +kernel)
set_option maxRecDepth 20000 in
theorem gX7_readGrating_X7_fail : GoodIn wsX7_readGrating (wsV RX7 49 RX7 yX7_fail wsX7_fail) := goodIn_app (goodIn_of _ (by decide +kernel)) ggX7_readGrating_X7_fail
set_option maxRecDepth 20000 in
theorem ggX7_readGrating_X7_readNumber : GoodIn wsX7_readGrating wsX7_readNumber := goodIn_r _ [15, 4, 16, 17, 18, 19, 20, 9, 21, 22, 11, 23, 24, 25, 26, 27, 28, 29, 30, 31, 32, 33, 34, 35, 36, 6, 7, 8, 10, 56, 57, 58, 59, 60, 61, 62] (by decide +kernel) (by decide +kernel)
set_option maxRecDepth 20000 in
theorem gX7_readGrating_X7_readNumber : GoodIn wsX7_readGrating (wsV RX7 68 RX7 yX7_readNumber wsX7_readNumber) := goodIn_app (goodIn_of _ (by decide +kernel)) ggX7_readGrating_X7_readNumber
set_option maxRecDepth 20000 in
theorem ggX7_readGrating_X2_cellAt : GoodIn wsX7_readGrating wsX2_cellAt := goodIn_r _ [41, 42, 43, 44, 45, 46, 47, 48, 49, 50, 51, 52, 53, 54, 55] (by decide +kernel) (by decide +kernel)
set_option maxRecDepth 20000 in
theorem gX7_readGrating_X2_cellAt : GoodIn wsX7_readGrating (wsV RX7 92 RX2 yX2_cellAt wsX2_cellAt) := goodIn_app (goodIn_of _ (by decide +kernel)) ggX7_readGrating_X2_cellAt
theorem dX7_readGrating_0 : decode cX7_readGrating 0 = .ok (.aload_n 1, 1) := by decide +kernel
theorem dX7_readGrating_1 : decode cX7_readGrating 1 = .ok (.getfield 98, 3) := by decide +kernel
theorem dX7_readGrating_4 : decode cX7_readGrating 4 = .ok (.iconst 4, 1) := by decide +kernel
theorem dX7_readGrating_5 : decode cX7_readGrating 5 = .ok (.if_icmp .lt 8, 3) := by decide +kernel
theorem dX7_readGrating_8 : decode cX7_readGrating 8 = .ok (.aload_n 0, 1) := by decide +kernel
theorem dX7_readGrating_9 : decode cX7_readGrating 9 = .ok (.invokevirtual 49, 3) := by decide +kernel
theorem dX7_readGrating_12 : decode cX7_readGrating 12 = .ok (.return_, 1) := by decide +kernel
theorem dX7_readGrating_13 : decode cX7_readGrating 13 = .ok (.aload_n 0, 1) := by decide +kernel
theorem dX7_readGrating_14 : decode cX7_readGrating 14 = .ok (.iconst 0, 1) := by decide +kernel
theorem dX7_readGrating_15 : decode cX7_readGrating 15 = .ok (.aload_n 1, 1) := by decide +kernel
theorem dX7_readGrating_16 : decode cX7_readGrating 16 = .ok (.getfield 86, 3) := by decide +kernel
theorem dX7_readGrating_19 : decode cX7_readGrating 19 = .ok (.iconst 1, 1) := by decide +kernel
theorem dX7_readGrating_20 : decode cX7_readGrating 20 = .ok (.isub, 1) := by decide +kernel
theorem dX7_readGrating_21 : decode cX7_readGrating 21 = .ok (.invokevirtual 68, 3) := by decide +kernel
theorem dX7_readGrating_24 : decode cX7_readGrating 24 = .ok (.istore_n 2, 1) := by decide +kernel
theorem dX7_readGrating_25 : decode cX7_readGrating 25 = .ok (.aload_n 0, 1) := by decide +kernel
theorem dX7_readGrating_26 : decode cX7_readGrating 26 = .ok (.iconst 0, 1) := by decide +kernel
theorem dX7_readGrating_27 : decode cX7_readGrating 27 = .ok (.aload_n 1, 1) := by decide +kernel
theorem dX7_readGrating_28 : decode cX7_readGrating 28 = .ok (.getfield 89, 3) := by decide +kernel
theorem dX7_readGrating_31 : decode cX7_readGrating 31 = .ok (.iconst 1, 1) := by decide +kernel
theorem dX7_readGrating_32 : decode cX7_readGrating 32 = .ok (.isub, 1) := by decide +kernel
theorem dX7_readGrating_33 : decode cX7_readGrating 33 = .ok (.invokevirtual 68, 3) := by decide +kernel
theorem dX7_readGrating_36 : decode cX7_readGrating 36 = .ok (.istore_n 3, 1) := by decide +kernel
theorem dX7_readGrating_37 : decode cX7_readGrating 37 = .ok (.aload_n 0, 1) := by decide +kernel
theorem dX7_readGrating_38 : decode cX7_readGrating 38 = .ok (.getfield 28, 3) := by decide +kernel
theorem dX7_readGrating_41 : decode cX7_readGrating 41 = .ok (.iconst (-1), 1) := by decide +kernel
theorem dX7_readGrating_42 : decode cX7_readGrating 42 = .ok (.if_icmp .eq 4, 3) := by decide +kernel
theorem dX7_readGrating_45 : decode cX7_readGrating 45 = .ok (.return_, 1) := by decide +kernel
theorem dX7_readGrating_46 : decode cX7_readGrating 46 = .ok (.aload_n 1, 1) := by decide +kernel
theorem dX7_readGrating_47 : decode cX7_readGrating 47 = .ok (.iload_n 2, 1) := by decide +kernel
theorem dX7_readGrating_48 : decode cX7_readGrating 48 = .ok (.iload_n 3, 1) := by decide +kernel
theorem dX7_readGrating_49 : decode cX7_readGrating 49 = .ok (.invokevirtual 92, 3) := by decide +kernel
theorem dX7_readGrating_52 : decode cX7_readGrating 52 = .ok (.istore 4, 2) := by decide +kernel
theorem dX7_readGrating_54 : decode cX7_readGrating 54 = .ok (.aload_n 1, 1) := by decide +kernel
theorem dX7_readGrating_55 : decode cX7_readGrating 55 = .ok (.getfield 101, 3) := by decide +kernel
theorem dX7_readGrating_58 : decode cX7_readGrating 58 = .ok (.iload 4, 2) := by decide +kernel
theorem dX7_readGrating_60 : decode cX7_readGrating 60 = .ok (.iaload, 1) := by decide +kernel
theorem dX7_readGrating_61 : decode cX7_readGrating 61 = .ok (.ifCond .le 8, 3) := by decide +kernel
theorem dX7_readGrating_64 : decode cX7_readGrating 64 = .ok (.aload_n 0, 1) := by decide +kernel
theorem dX7_readGrating_65 : decode cX7_readGrating 65 = .ok (.invokevirtual 49, 3) := by decide +kernel
theorem dX7_readGrating_68 : decode cX7_readGrating 68 = .ok (.return_, 1) := by decide +kernel
theorem dX7_readGrating_69 : decode cX7_readGrating 69 = .ok (.aload_n 0, 1) := by decide +kernel
theorem dX7_readGrating_70 : decode cX7_readGrating 70 = .ok (.iconst 1, 1) := by decide +kernel
theorem dX7_readGrating_71 : decode cX7_readGrating 71 = .ok (.bipush 9, 2) := by decide +kernel
theorem dX7_readGrating_73 : decode cX7_readGrating 73 = .ok (.invokevirtual 68, 3) := by decide +kernel
theorem dX7_readGrating_76 : decode cX7_readGrating 76 = .ok (.istore 5, 2) := by decide +kernel
theorem dX7_readGrating_78 : decode cX7_readGrating 78 = .ok (.aload_n 0, 1) := by decide +kernel
theorem dX7_readGrating_79 : decode cX7_readGrating 79 = .ok (.getfield 28, 3) := by decide +kernel
theorem dX7_readGrating_82 : decode cX7_readGrating 82 = .ok (.iconst (-1), 1) := by decide +kernel
theorem dX7_readGrating_83 : decode cX7_readGrating 83 = .ok (.if_icmp .ne 22, 3) := by decide +kernel
theorem dX7_readGrating_86 : decode cX7_readGrating 86 = .ok (.aload_n 1, 1) := by decide +kernel
theorem dX7_readGrating_87 : decode cX7_readGrating 87 = .ok (.getfield 101, 3) := by decide +kernel
theorem dX7_readGrating_90 : decode cX7_readGrating 90 = .ok (.iload 4, 2) := by decide +kernel
theorem dX7_readGrating_92 : decode cX7_readGrating 92 = .ok (.iload 5, 2) := by decide +kernel
theorem dX7_readGrating_94 : decode cX7_readGrating 94 = .ok (.iastore, 1) := by decide +kernel
theorem dX7_readGrating_95 : decode cX7_readGrating 95 = .ok (.aload_n 1, 1) := by decide +kernel
theorem dX7_readGrating_96 : decode cX7_readGrating 96 = .ok (.dup, 1) := by decide +kernel
theorem dX7_readGrating_97 : decode cX7_readGrating 97 = .ok (.getfield 98, 3) := by decide +kernel
theorem dX7_readGrating_100 : decode cX7_readGrating 100 = .ok (.iconst 1, 1) := by decide +kernel
theorem dX7_readGrating_101 : decode cX7_readGrating 101 = .ok (.iadd, 1) := by decide +kernel
theorem dX7_readGrating_102 : decode cX7_readGrating 102 = .ok (.putfield 98, 3) := by decide +kernel
theorem dX7_readGrating_105 : decode cX7_readGrating 105 = .ok (.return_, 1) := by decide +kernel
set_option maxRecDepth 20000 in
theorem ggX7_readKind_X7_fail : GoodIn wsX7_readKind wsX7_fail := goodIn_r _ [7, 2, 8, 55, 56, 57, 58, 59, 60, 61] (by decide +kernel) (by decide +kernel)
set_option maxRecDepth 20000 in
theorem gX7_readKind_X7_fail : GoodIn wsX7_readKind (wsV RX7 49 RX7 yX7_fail wsX7_fail) := goodIn_app (goodIn_of _ (by decide +kernel)) ggX7_readKind_X7_fail
set_option maxRecDepth 20000 in
theorem ggX7_readKind_X7_readNumber : GoodIn wsX7_readKind wsX7_readNumber := goodIn_r _ [12, 2, 13, 14, 15, 16, 17, 6, 18, 19, 8, 20, 21, 22, 23, 24, 25, 26, 27, 28, 29, 30, 31, 32, 33, 3, 4, 5, 7, 55, 56, 57, 58, 59, 60, 61] (by decide +kernel) (by decide +kernel)
set_option maxRecDepth 20000 in
theorem gX7_readKind_X7_readNumber : GoodIn wsX7_readKind (wsV RX7 68 RX7 yX7_readNumber wsX7_readNumber) := goodIn_app (goodIn_of _ (by decide +kernel)) ggX7_readKind_X7_readNumber
set_option maxRecDepth 20000 in
theorem ggX7_readKind_X2_addKind : GoodIn wsX7_readKind wsX2_addKind := goodIn_r _ [38, 39, 40, 41, 42, 43, 44, 45, 46, 47, 48, 49, 50, 51, 52, 53, 54] (by decide +kernel) (by decide +kernel)
set_option maxRecDepth 20000 in
theorem gX7_readKind_X2_addKind : GoodIn wsX7_readKind (wsV RX7 107 RX2 yX2_addKind wsX2_addKind) := goodIn_app (goodIn_of _ (by decide +kernel)) ggX7_readKind_X2_addKind
theorem dX7_readKind_0 : decode cX7_readKind 0 = .ok (.aload_n 1, 1) := by decide +kernel
theorem dX7_readKind_1 : decode cX7_readKind 1 = .ok (.getfield 104, 3) := by decide +kernel
theorem dX7_readKind_4 : decode cX7_readKind 4 = .ok (.iconst 5, 1) := by decide +kernel
theorem dX7_readKind_5 : decode cX7_readKind 5 = .ok (.if_icmp .lt 8, 3) := by decide +kernel
theorem dX7_readKind_8 : decode cX7_readKind 8 = .ok (.aload_n 0, 1) := by decide +kernel
theorem dX7_readKind_9 : decode cX7_readKind 9 = .ok (.invokevirtual 49, 3) := by decide +kernel
theorem dX7_readKind_12 : decode cX7_readKind 12 = .ok (.return_, 1) := by decide +kernel
theorem dX7_readKind_13 : decode cX7_readKind 13 = .ok (.aload_n 0, 1) := by decide +kernel
theorem dX7_readKind_14 : decode cX7_readKind 14 = .ok (.iconst 1, 1) := by decide +kernel
theorem dX7_readKind_15 : decode cX7_readKind 15 = .ok (.bipush 9, 2) := by decide +kernel
theorem dX7_readKind_17 : decode cX7_readKind 17 = .ok (.invokevirtual 68, 3) := by decide +kernel
theorem dX7_readKind_20 : decode cX7_readKind 20 = .ok (.istore_n 2, 1) := by decide +kernel
theorem dX7_readKind_21 : decode cX7_readKind 21 = .ok (.aload_n 0, 1) := by decide +kernel
theorem dX7_readKind_22 : decode cX7_readKind 22 = .ok (.iconst 1, 1) := by decide +kernel
theorem dX7_readKind_23 : decode cX7_readKind 23 = .ok (.bipush 99, 2) := by decide +kernel
theorem dX7_readKind_25 : decode cX7_readKind 25 = .ok (.invokevirtual 68, 3) := by decide +kernel
theorem dX7_readKind_28 : decode cX7_readKind 28 = .ok (.istore_n 3, 1) := by decide +kernel
theorem dX7_readKind_29 : decode cX7_readKind 29 = .ok (.aload_n 0, 1) := by decide +kernel
theorem dX7_readKind_30 : decode cX7_readKind 30 = .ok (.iconst 0, 1) := by decide +kernel
theorem dX7_readKind_31 : decode cX7_readKind 31 = .ok (.iconst 1, 1) := by decide +kernel
theorem dX7_readKind_32 : decode cX7_readKind 32 = .ok (.invokevirtual 68, 3) := by decide +kernel
theorem dX7_readKind_35 : decode cX7_readKind 35 = .ok (.istore 4, 2) := by decide +kernel
theorem dX7_readKind_37 : decode cX7_readKind 37 = .ok (.aload_n 0, 1) := by decide +kernel
theorem dX7_readKind_38 : decode cX7_readKind 38 = .ok (.getfield 28, 3) := by decide +kernel
theorem dX7_readKind_41 : decode cX7_readKind 41 = .ok (.iconst (-1), 1) := by decide +kernel
theorem dX7_readKind_42 : decode cX7_readKind 42 = .ok (.if_icmp .ne 11, 3) := by decide +kernel
theorem dX7_readKind_45 : decode cX7_readKind 45 = .ok (.aload_n 1, 1) := by decide +kernel
theorem dX7_readKind_46 : decode cX7_readKind 46 = .ok (.iload_n 2, 1) := by decide +kernel
theorem dX7_readKind_47 : decode cX7_readKind 47 = .ok (.iload_n 3, 1) := by decide +kernel
theorem dX7_readKind_48 : decode cX7_readKind 48 = .ok (.iload 4, 2) := by decide +kernel
theorem dX7_readKind_50 : decode cX7_readKind 50 = .ok (.invokevirtual 107, 3) := by decide +kernel
theorem dX7_readKind_53 : decode cX7_readKind 53 = .ok (.return_, 1) := by decide +kernel
set_option maxRecDepth 20000 in
theorem ggX7_readClosing_X7_nextToken : GoodIn wsX7_readClosing wsX7_nextToken := goodIn_r _ [7, 8, 9, 10, 2, 11, 12, 13, 14, 6, 15, 16, 17, 18, 19, 20, 21, 22, 23, 24, 29, 30, 31, 32, 33, 34, 35] (by decide +kernel) (by decide +kernel)
set_option maxRecDepth 20000 in
theorem gX7_readClosing_X7_nextToken : GoodIn wsX7_readClosing (wsV RX7 36 RX7 yX7_nextToken wsX7_nextToken) := goodIn_app (goodIn_of _ (by decide +kernel)) ggX7_readClosing_X7_nextToken
set_option maxRecDepth 20000 in
theorem ggX7_readClosing_X7_fail : GoodIn wsX7_readClosing wsX7_fail := goodIn_r _ [28, 1, 9, 29, 30, 31, 32, 33, 34, 35] (by decide +kernel) (by decide +kernel)
set_option maxRecDepth 20000 in
theorem gX7_readClosing_X7_fail : GoodIn wsX7_readClosing (wsV RX7 49 RX7 yX7_fail wsX7_fail) := goodIn_app (goodIn_of _ (by decide +kernel)) ggX7_readClosing_X7_fail
theorem dX7_readClosing_0 : decode cX7_readClosing 0 = .ok (.aload_n 0, 1) := by decide +kernel
theorem dX7_readClosing_1 : decode cX7_readClosing 1 = .ok (.getfield 28, 3) := by decide +kernel
theorem dX7_readClosing_4 : decode cX7_readClosing 4 = .ok (.iconst (-1), 1) := by decide +kernel
theorem dX7_readClosing_5 : decode cX7_readClosing 5 = .ok (.if_icmp .eq 4, 3) := by decide +kernel
theorem dX7_readClosing_8 : decode cX7_readClosing 8 = .ok (.return_, 1) := by decide +kernel
theorem dX7_readClosing_9 : decode cX7_readClosing 9 = .ok (.aload_n 0, 1) := by decide +kernel
theorem dX7_readClosing_10 : decode cX7_readClosing 10 = .ok (.invokevirtual 36, 3) := by decide +kernel
theorem dX7_readClosing_13 : decode cX7_readClosing 13 = .ok (.aload_n 0, 1) := by decide +kernel
theorem dX7_readClosing_14 : decode cX7_readClosing 14 = .ok (.getfield 39, 3) := by decide +kernel
theorem dX7_readClosing_17 : decode cX7_readClosing 17 = .ok (.iconst 3, 1) := by decide +kernel
theorem dX7_readClosing_18 : decode cX7_readClosing 18 = .ok (.if_icmp .eq 7, 3) := by decide +kernel
theorem dX7_readClosing_21 : decode cX7_readClosing 21 = .ok (.aload_n 0, 1) := by decide +kernel
theorem dX7_readClosing_22 : decode cX7_readClosing 22 = .ok (.invokevirtual 49, 3) := by decide +kernel
theorem dX7_readClosing_25 : decode cX7_readClosing 25 = .ok (.return_, 1) := by decide +kernel
set_option maxRecDepth 20000 in
theorem ggX7_readNumber_X7_nextToken : GoodIn wsX7_readNumber wsX7_nextToken := goodIn_r _ [8, 9, 10, 3, 2, 11, 12, 13, 14, 7, 15, 16, 17, 18, 19, 20, 21, 22, 23, 24, 29, 30, 31, 32, 33, 34, 35] (by decide +kernel) (by decide +kernel)
set_option maxRecDepth 20000 in
theorem gX7_readNumber_X7_nextToken : GoodIn wsX7_readNumber (wsV RX7 36 RX7 yX7_nextToken wsX7_nextToken) := goodIn_app (goodIn_of _ (by decide +kernel)) ggX7_readNumber_X7_nextToken
set_option maxRecDepth 20000 in
theorem ggX7_readNumber_X7_fail : GoodIn wsX7_readNumber wsX7_fail := goodIn_r _ [28, 1, 10, 29, 30, 31, 32, 33, 34, 35] (by decide +kernel) (by decide +kernel)
set_option maxRecDepth 20000 in
theorem gX7_readNumber_X7_fail : GoodIn wsX7_readNumber (wsV RX7 49 RX7 yX7_fail wsX7_fail) := goodIn_app (goodIn_of _ (by decide +kernel)) ggX7_readNumber_X7_fail
theorem dX7_readNumber_0 : decode cX7_readNumber 0 = .ok (.aload_n 0, 1) := by decide +kernel
theorem dX7_readNumber_1 : decode cX7_readNumber 1 = .ok (.getfield 28, 3) := by decide +kernel
theorem dX7_readNumber_4 : decode cX7_readNumber 4 = .ok (.iconst (-1), 1) := by decide +kernel
theorem dX7_readNumber_5 : decode cX7_readNumber 5 = .ok (.if_icmp .eq 5, 3) := by decide +kernel
theorem dX7_readNumber_8 : decode cX7_readNumber 8 = .ok (.iconst 0, 1) := by decide +kernel
theorem dX7_readNumber_9 : decode cX7_readNumber 9 = .ok (.ireturn, 1) := by decide +kernel
theorem dX7_readNumber_10 : decode cX7_readNumber 10 = .ok (.aload_n 0, 1) := by decide +kernel
theorem dX7_readNumber_11 : decode cX7_readNumber 11 = .ok (.invokevirtual 36, 3) := by decide +kernel
theorem dX7_readNumber_14 : decode cX7_readNumber 14 = .ok (.aload_n 0, 1) := by decide +kernel
theorem dX7_readNumber_15 : decode cX7_readNumber 15 = .ok (.getfield 39, 3) := by decide +kernel
theorem dX7_readNumber_18 : decode cX7_readNumber 18 = .ok (.iconst 2, 1) := by decide +kernel
theorem dX7_readNumber_19 : decode cX7_readNumber 19 = .ok (.if_icmp .ne 19, 3) := by decide +kernel
theorem dX7_readNumber_22 : decode cX7_readNumber 22 = .ok (.aload_n 0, 1) := by decide +kernel
theorem dX7_readNumber_23 : decode cX7_readNumber 23 = .ok (.getfield 46, 3) := by decide +kernel
theorem dX7_readNumber_26 : decode cX7_readNumber 26 = .ok (.iload_n 1, 1) := by decide +kernel
theorem dX7_readNumber_27 : decode cX7_readNumber 27 = .ok (.if_icmp .lt 11, 3) := by decide +kernel
theorem dX7_readNumber_30 : decode cX7_readNumber 30 = .ok (.aload_n 0, 1) := by decide +kernel
theorem dX7_readNumber_31 : decode cX7_readNumber 31 = .ok (.getfield 46, 3) := by decide +kernel
theorem dX7_readNumber_34 : decode cX7_readNumber 34 = .ok (.iload_n 2, 1) := by decide +kernel
theorem dX7_readNumber_35 : decode cX7_readNumber 35 = .ok (.if_icmp .le 9, 3) := by decide +kernel
theorem dX7_readNumber_38 : decode cX7_readNumber 38 = .ok (.aload_n 0, 1) := by decide +kernel
theorem dX7_readNumber_39 : decode cX7_readNumber 39 = .ok (.invokevirtual 49, 3) := by decide +kernel
theorem dX7_readNumber_42 : decode cX7_readNumber 42 = .ok (.iconst 0, 1) := by decide +kernel
theorem dX7_readNumber_43 : decode cX7_readNumber 43 = .ok (.ireturn, 1) := by decide +kernel
theorem dX7_readNumber_44 : decode cX7_readNumber 44 = .ok (.aload_n 0, 1) := by decide +kernel
theorem dX7_readNumber_45 : decode cX7_readNumber 45 = .ok (.getfield 46, 3) := by decide +kernel
theorem dX7_readNumber_48 : decode cX7_readNumber 48 = .ok (.ireturn, 1) := by decide +kernel
set_option maxRecDepth 20000 in
theorem ggX7_readFigure_X7_skipBlanks : GoodIn wsX7_readFigure wsX7_skipBlanks := goodIn_r _ [9, 2, 10, 4, 19, 20, 21, 22, 23, 24, 25] (by decide +kernel) (by decide +kernel)
set_option maxRecDepth 20000 in
theorem gX7_readFigure_X7_skipBlanks : GoodIn wsX7_readFigure (wsV RX7 111 RX7 yX7_skipBlanks wsX7_skipBlanks) := goodIn_app (goodIn_of _ (by decide +kernel)) ggX7_readFigure_X7_skipBlanks
set_option maxRecDepth 20000 in
theorem ggX7_readFigure_X7_signAt : GoodIn wsX7_readFigure wsX7_signAt := goodIn_r _ [14, 10, 4, 19, 20, 21, 22, 23, 24, 25] (by decide +kernel) (by decide +kernel)
set_option maxRecDepth 20000 in
theorem gX7_readFigure_X7_signAt : GoodIn wsX7_readFigure (wsV RX7 117 RX7 yX7_signAt wsX7_signAt) := goodIn_app (goodIn_of _ (by decide +kernel)) ggX7_readFigure_X7_signAt
set_option maxRecDepth 20000 in
theorem ggX7_readFigure_X7_fail : GoodIn wsX7_readFigure wsX7_fail := goodIn_r _ [18, 1, 3, 19, 20, 21, 22, 23, 24, 25] (by decide +kernel) (by decide +kernel)
set_option maxRecDepth 20000 in
theorem gX7_readFigure_X7_fail : GoodIn wsX7_readFigure (wsV RX7 49 RX7 yX7_fail wsX7_fail) := goodIn_app (goodIn_of _ (by decide +kernel)) ggX7_readFigure_X7_fail
theorem dX7_readFigure_0 : decode cX7_readFigure 0 = .ok (.aload_n 0, 1) := by decide +kernel
theorem dX7_readFigure_1 : decode cX7_readFigure 1 = .ok (.getfield 28, 3) := by decide +kernel
theorem dX7_readFigure_4 : decode cX7_readFigure 4 = .ok (.iconst (-1), 1) := by decide +kernel
theorem dX7_readFigure_5 : decode cX7_readFigure 5 = .ok (.if_icmp .eq 5, 3) := by decide +kernel
theorem dX7_readFigure_8 : decode cX7_readFigure 8 = .ok (.iconst 0, 1) := by decide +kernel
theorem dX7_readFigure_9 : decode cX7_readFigure 9 = .ok (.ireturn, 1) := by decide +kernel
theorem dX7_readFigure_10 : decode cX7_readFigure 10 = .ok (.aload_n 0, 1) := by decide +kernel
theorem dX7_readFigure_11 : decode cX7_readFigure 11 = .ok (.invokevirtual 111, 3) := by decide +kernel
theorem dX7_readFigure_14 : decode cX7_readFigure 14 = .ok (.aload_n 0, 1) := by decide +kernel
theorem dX7_readFigure_15 : decode cX7_readFigure 15 = .ok (.aload_n 0, 1) := by decide +kernel
theorem dX7_readFigure_16 : decode cX7_readFigure 16 = .ok (.getfield 25, 3) := by decide +kernel
theorem dX7_readFigure_19 : decode cX7_readFigure 19 = .ok (.putfield 114, 3) := by decide +kernel
theorem dX7_readFigure_22 : decode cX7_readFigure 22 = .ok (.aload_n 0, 1) := by decide +kernel
theorem dX7_readFigure_23 : decode cX7_readFigure 23 = .ok (.aload_n 0, 1) := by decide +kernel
theorem dX7_readFigure_24 : decode cX7_readFigure 24 = .ok (.getfield 25, 3) := by decide +kernel
theorem dX7_readFigure_27 : decode cX7_readFigure 27 = .ok (.invokevirtual 117, 3) := by decide +kernel
theorem dX7_readFigure_30 : decode cX7_readFigure 30 = .ok (.iconst 2, 1) := by decide +kernel
theorem dX7_readFigure_31 : decode cX7_readFigure 31 = .ok (.if_icmp .eq 9, 3) := by decide +kernel
theorem dX7_readFigure_34 : decode cX7_readFigure 34 = .ok (.aload_n 0, 1) := by decide +kernel
theorem dX7_readFigure_35 : decode cX7_readFigure 35 = .ok (.invokevirtual 49, 3) := by decide +kernel
theorem dX7_readFigure_38 : decode cX7_readFigure 38 = .ok (.iconst 0, 1) := by decide +kernel
theorem dX7_readFigure_39 : decode cX7_readFigure 39 = .ok (.ireturn, 1) := by decide +kernel
theorem dX7_readFigure_40 : decode cX7_readFigure 40 = .ok (.aload_n 0, 1) := by decide +kernel
theorem dX7_readFigure_41 : decode cX7_readFigure 41 = .ok (.dup, 1) := by decide +kernel
theorem dX7_readFigure_42 : decode cX7_readFigure 42 = .ok (.getfield 25, 3) := by decide +kernel
theorem dX7_readFigure_45 : decode cX7_readFigure 45 = .ok (.iconst 1, 1) := by decide +kernel
theorem dX7_readFigure_46 : decode cX7_readFigure 46 = .ok (.iadd, 1) := by decide +kernel
theorem dX7_readFigure_47 : decode cX7_readFigure 47 = .ok (.putfield 25, 3) := by decide +kernel
theorem dX7_readFigure_50 : decode cX7_readFigure 50 = .ok (.aload_n 0, 1) := by decide +kernel
theorem dX7_readFigure_51 : decode cX7_readFigure 51 = .ok (.getfield 9, 3) := by decide +kernel
theorem dX7_readFigure_54 : decode cX7_readFigure 54 = .ok (.aload_n 0, 1) := by decide +kernel
theorem dX7_readFigure_55 : decode cX7_readFigure 55 = .ok (.getfield 114, 3) := by decide +kernel
theorem dX7_readFigure_58 : decode cX7_readFigure 58 = .ok (.caload, 1) := by decide +kernel
theorem dX7_readFigure_59 : decode cX7_readFigure 59 = .ok (.bipush 48, 2) := by decide +kernel
theorem dX7_readFigure_61 : decode cX7_readFigure 61 = .ok (.isub, 1) := by decide +kernel
theorem dX7_readFigure_62 : decode cX7_readFigure 62 = .ok (.ireturn, 1) := by decide +kernel
theorem dX7_fail_0 : decode cX7_fail 0 = .ok (.aload_n 0, 1) := by decide +kernel
theorem dX7_fail_1 : decode cX7_fail 1 = .ok (.getfield 28, 3) := by decide +kernel
theorem dX7_fail_4 : decode cX7_fail 4 = .ok (.iconst (-1), 1) := by decide +kernel
theorem dX7_fail_5 : decode cX7_fail 5 = .ok (.if_icmp .ne 11, 3) := by decide +kernel
theorem dX7_fail_8 : decode cX7_fail 8 = .ok (.aload_n 0, 1) := by decide +kernel
theorem dX7_fail_9 : decode cX7_fail 9 = .ok (.aload_n 0, 1) := by decide +kernel
theorem dX7_fail_10 : decode cX7_fail 10 = .ok (.getfield 114, 3) := by decide +kernel
theorem dX7_fail_13 : decode cX7_fail 13 = .ok (.putfield 28, 3) := by decide +kernel
theorem dX7_fail_16 : decode cX7_fail 16 = .ok (.return_, 1) := by decide +kernel
set_option maxRecDepth 20000 in
theorem ggX7_nextToken_X7_skipBlanks : GoodIn wsX7_nextToken wsX7_skipBlanks := goodIn_r _ [10, 1, 5, 11, 20, 21, 22, 23, 24, 25, 26] (by decide +kernel) (by decide +kernel)
set_option maxRecDepth 20000 in
theorem gX7_nextToken_X7_skipBlanks : GoodIn wsX7_nextToken (wsV RX7 111 RX7 yX7_skipBlanks wsX7_skipBlanks) := goodIn_app (goodIn_of _ (by decide +kernel)) ggX7_nextToken_X7_skipBlanks
set_option maxRecDepth 20000 in
theorem ggX7_nextToken_X7_signAt : GoodIn wsX7_nextToken wsX7_signAt := goodIn_r _ [15, 5, 11, 20, 21, 22, 23, 24, 25, 26] (by decide +kernel) (by decide +kernel)
set_option maxRecDepth 20000 in
theorem gX7_nextToken_X7_signAt : GoodIn wsX7_nextToken (wsV RX7 117 RX7 yX7_signAt wsX7_signAt) := goodIn_app (goodIn_of _ (by decide +kernel)) ggX7_nextToken_X7_signAt
set_option maxRecDepth 20000 in
theorem ggX7_nextToken_X7_weigh : GoodIn wsX7_nextToken wsX7_weigh := goodIn_r _ [19, 4, 11, 2, 3, 20, 21, 22, 23, 24, 25, 26] (by decide +kernel) (by decide +kernel)
set_option maxRecDepth 20000 in
theorem gX7_nextToken_X7_weigh : GoodIn wsX7_nextToken (wsV RX7 121 RX7 yX7_weigh wsX7_weigh) := goodIn_app (goodIn_of _ (by decide +kernel)) ggX7_nextToken_X7_weigh
theorem dX7_nextToken_0 : decode cX7_nextToken 0 = .ok (.aload_n 0, 1) := by decide +kernel
theorem dX7_nextToken_1 : decode cX7_nextToken 1 = .ok (.invokevirtual 111, 3) := by decide +kernel
theorem dX7_nextToken_4 : decode cX7_nextToken 4 = .ok (.aload_n 0, 1) := by decide +kernel
theorem dX7_nextToken_5 : decode cX7_nextToken 5 = .ok (.aload_n 0, 1) := by decide +kernel
theorem dX7_nextToken_6 : decode cX7_nextToken 6 = .ok (.getfield 25, 3) := by decide +kernel
theorem dX7_nextToken_9 : decode cX7_nextToken 9 = .ok (.putfield 114, 3) := by decide +kernel
theorem dX7_nextToken_12 : decode cX7_nextToken 12 = .ok (.aload_n 0, 1) := by decide +kernel
theorem dX7_nextToken_13 : decode cX7_nextToken 13 = .ok (.iconst 0, 1) := by decide +kernel
theorem dX7_nextToken_14 : decode cX7_nextToken 14 = .ok (.putfield 46, 3) := by decide +kernel
theorem dX7_nextToken_17 : decode cX7_nextToken 17 = .ok (.aload_n 0, 1) := by decide +kernel
theorem dX7_nextToken_18 : decode cX7_nextToken 18 = .ok (.aload_n 0, 1) := by decide +kernel
theorem dX7_nextToken_19 : decode cX7_nextToken 19 = .ok (.aload_n 0, 1) := by decide +kernel
theorem dX7_nextToken_20 : decode cX7_nextToken 20 = .ok (.getfield 25, 3) := by decide +kernel
theorem dX7_nextToken_23 : decode cX7_nextToken 23 = .ok (.invokevirtual 117, 3) := by decide +kernel
theorem dX7_nextToken_26 : decode cX7_nextToken 26 = .ok (.putfield 39, 3) := by decide +kernel
theorem dX7_nextToken_29 : decode cX7_nextToken 29 = .ok (.aload_n 0, 1) := by decide +kernel
theorem dX7_nextToken_30 : decode cX7_nextToken 30 = .ok (.getfield 39, 3) := by decide +kernel
theorem dX7_nextToken_33 : decode cX7_nextToken 33 = .ok (.ifCond .ne 4, 3) := by decide +kernel
theorem dX7_nextToken_36 : decode cX7_nextToken 36 = .ok (.return_, 1) := by decide +kernel
theorem dX7_nextToken_37 : decode cX7_nextToken 37 = .ok (.aload_n 0, 1) := by decide +kernel
theorem dX7_nextToken_38 : decode cX7_nextToken 38 = .ok (.dup, 1) := by decide +kernel
theorem dX7_nextToken_39 : decode cX7_nextToken 39 = .ok (.getfield 25, 3) := by decide +kernel
theorem dX7_nextToken_42 : decode cX7_nextToken 42 = .ok (.iconst 1, 1) := by decide +kernel
theorem dX7_nextToken_43 : decode cX7_nextToken 43 = .ok (.iadd, 1) := by decide +kernel
theorem dX7_nextToken_44 : decode cX7_nextToken 44 = .ok (.putfield 25, 3) := by decide +kernel
theorem dX7_nextToken_47 : decode cX7_nextToken 47 = .ok (.aload_n 0, 1) := by decide +kernel
theorem dX7_nextToken_48 : decode cX7_nextToken 48 = .ok (.getfield 39, 3) := by decide +kernel
theorem dX7_nextToken_51 : decode cX7_nextToken 51 = .ok (.iconst 1, 1) := by decide +kernel
theorem dX7_nextToken_52 : decode cX7_nextToken 52 = .ok (.if_icmp .eq 11, 3) := by decide +kernel
theorem dX7_nextToken_55 : decode cX7_nextToken 55 = .ok (.aload_n 0, 1) := by decide +kernel
theorem dX7_nextToken_56 : decode cX7_nextToken 56 = .ok (.getfield 39, 3) := by decide +kernel
theorem dX7_nextToken_59 : decode cX7_nextToken 59 = .ok (.iconst 2, 1) := by decide +kernel
theorem dX7_nextToken_60 : decode cX7_nextToken 60 = .ok (.if_icmp .ne 7, 3) := by decide +kernel
theorem dX7_nextToken_63 : decode cX7_nextToken 63 = .ok (.iconst 1, 1) := by decide +kernel
theorem dX7_nextToken_64 : decode cX7_nextToken 64 = .ok (.goto 4, 3) := by decide +kernel
theorem dX7_nextToken_67 : decode cX7_nextToken 67 = .ok (.iconst 0, 1) := by decide +kernel
theorem dX7_nextToken_68 : decode cX7_nextToken 68 = .ok (.istore_n 1, 1) := by decide +kernel
theorem dX7_nextToken_69 : decode cX7_nextToken 69 = .ok (.iload_n 1, 1) := by decide +kernel
theorem dX7_nextToken_70 : decode cX7_nextToken 70 = .ok (.ifCond .eq 45, 3) := by decide +kernel
theorem dX7_nextToken_73 : decode cX7_nextToken 73 = .ok (.aload_n 0, 1) := by decide +kernel
theorem dX7_nextToken_74 : decode cX7_nextToken 74 = .ok (.getfield 25, 3) := by decide +kernel
theorem dX7_nextToken_77 : decode cX7_nextToken 77 = .ok (.aload_n 0, 1) := by decide +kernel
theorem dX7_nextToken_78 : decode cX7_nextToken 78 = .ok (.getfield 21, 3) := by decide +kernel
theorem dX7_nextToken_81 : decode cX7_nextToken 81 = .ok (.if_icmp .ge 34, 3) := by decide +kernel
theorem dX7_nextToken_84 : decode cX7_nextToken 84 = .ok (.aload_n 0, 1) := by decide +kernel
theorem dX7_nextToken_85 : decode cX7_nextToken 85 = .ok (.aload_n 0, 1) := by decide +kernel
theorem dX7_nextToken_86 : decode cX7_nextToken 86 = .ok (.getfield 25, 3) := by decide +kernel
theorem dX7_nextToken_89 : decode cX7_nextToken 89 = .ok (.invokevirtual 117, 3) := by decide +kernel
theorem dX7_nextToken_92 : decode cX7_nextToken 92 = .ok (.aload_n 0, 1) := by decide +kernel
theorem dX7_nextToken_93 : decode cX7_nextToken 93 = .ok (.getfield 39, 3) := by decide +kernel
theorem dX7_nextToken_96 : decode cX7_nextToken 96 = .ok (.if_icmp .eq 6, 3) := by decide +kernel
theorem dX7_nextToken_99 : decode cX7_nextToken 99 = .ok (.goto 16, 3) := by decide +kernel
theorem dX7_nextToken_102 : decode cX7_nextToken 102 = .ok (.aload_n 0, 1) := by decide +kernel
theorem dX7_nextToken_103 : decode cX7_nextToken 103 = .ok (.dup, 1) := by decide +kernel
theorem dX7_nextToken_104 : decode cX7_nextToken 104 = .ok (.getfield 25, 3) := by decide +kernel
theorem dX7_nextToken_107 : decode cX7_nextToken 107 = .ok (.iconst 1, 1) := by decide +kernel
theorem dX7_nextToken_108 : decode cX7_nextToken 108 = .ok (.iadd, 1) := by decide +kernel
theorem dX7_nextToken_109 : decode cX7_nextToken 109 = .ok (.putfield 25, 3) := by decide +kernel
theorem dX7_nextToken_112 : decode cX7_nextToken 112 = .ok (.goto (-43), 3) := by decide +kernel
theorem dX7_nextToken_115 : decode cX7_nextToken 115 = .ok (.aload_n 0, 1) := by decide +kernel
theorem dX7_nextToken_116 : decode cX7_nextToken 116 = .ok (.aload_n 0, 1) := by decide +kernel
theorem dX7_nextToken_117 : decode cX7_nextToken 117 = .ok (.getfield 25, 3) := by decide +kernel
theorem dX7_nextToken_120 : decode cX7_nextToken 120 = .ok (.aload_n 0, 1) := by decide +kernel
theorem dX7_nextToken_121 : decode cX7_nextToken 121 = .ok (.getfield 114, 3) := by decide +kernel
theorem dX7_nextToken_124 : decode cX7_nextToken 124 = .ok (.isub, 1) := by decide +kernel
theorem dX7_nextToken_125 : decode cX7_nextToken 125 = .ok (.invokevirtual 121, 3) := by decide +kernel
theorem dX7_nextToken_128 : decode cX7_nextToken 128 = .ok (.return_, 1) := by decide +kernel
theorem dX7_skipBlanks_0 : decode cX7_skipBlanks 0 = .ok (.aload_n 0, 1) := by decide +kernel
theorem dX7_skipBlanks_1 : decode cX7_skipBlanks 1 = .ok (.getfield 25, 3) := by decide +kernel
theorem dX7_skipBlanks_4 : decode cX7_skipBlanks 4 = .ok (.aload_n 0, 1) := by decide +kernel
theorem dX7_skipBlanks_5 : decode cX7_skipBlanks 5 = .ok (.getfield 21, 3) := by decide +kernel
theorem dX7_skipBlanks_8 : decode cX7_skipBlanks 8 = .ok (.if_icmp .ge 31, 3) := by decide +kernel
theorem dX7_skipBlanks_11 : decode cX7_skipBlanks 11 = .ok (.aload_n 0, 1) := by decide +kernel
theorem dX7_skipBlanks_12 : decode cX7_skipBlanks 12 = .ok (.getfield 9, 3) := by decide +kernel
theorem dX7_skipBlanks_15 : decode cX7_skipBlanks 15 = .ok (.aload_n 0, 1) := by decide +kernel
theorem dX7_skipBlanks_16 : decode cX7_skipBlanks 16 = .ok (.getfield 25, 3) := by decide +kernel
theorem dX7_skipBlanks_19 : decode cX7_skipBlanks 19 = .ok (.caload, 1) := by decide +kernel
theorem dX7_skipBlanks_20 : decode cX7_skipBlanks 20 = .ok (.bipush 32, 2) := by decide +kernel
theorem dX7_skipBlanks_22 : decode cX7_skipBlanks 22 = .ok (.if_icmp .eq 4, 3) := by decide +kernel
theorem dX7_skipBlanks_25 : decode cX7_skipBlanks 25 = .ok (.return_, 1) := by decide +kernel
theorem dX7_skipBlanks_26 : decode cX7_skipBlanks 26 = .ok (.aload_n 0, 1) := by decide +kernel
theorem dX7_skipBlanks_27 : decode cX7_skipBlanks 27 = .ok (.dup, 1) := by decide +kernel
theorem dX7_skipBlanks_28 : decode cX7_skipBlanks 28 = .ok (.getfield 25, 3) := by decide +kernel
theorem dX7_skipBlanks_31 : decode cX7_skipBlanks 31 = .ok (.iconst 1, 1) := by decide +kernel
theorem dX7_skipBlanks_32 : decode cX7_skipBlanks 32 = .ok (.iadd, 1) := by decide +kernel
theorem dX7_skipBlanks_33 : decode cX7_skipBlanks 33 = .ok (.putfield 25, 3) := by decide +kernel
theorem dX7_skipBlanks_36 : decode cX7_skipBlanks 36 = .ok (.goto (-36), 3) := by decide +kernel
theorem dX7_skipBlanks_39 : decode cX7_skipBlanks 39 = .ok (.return_, 1) := by decide +kernel
theorem dX7_signAt_0 : decode cX7_signAt 0 = .ok (.iload_n 1, 1) := by decide +kernel
theorem dX7_signAt_1 : decode cX7_signAt 1 = .ok (.aload_n 0, 1) := by decide +kernel
theorem dX7_signAt_2 : decode cX7_signAt 2 = .ok (.getfield 21, 3) := by decide +kernel
theorem dX7_signAt_5 : decode cX7_signAt 5 = .ok (.if_icmp .lt 5, 3) := by decide +kernel
theorem dX7_signAt_8 : decode cX7_signAt 8 = .ok (.iconst 0, 1) := by decide +kernel
theorem dX7_signAt_9 : decode cX7_signAt 9 = .ok (.ireturn, 1) := by decide +kernel
theorem dX7_signAt_10 : decode cX7_signAt 10 = .ok (.aload_n 0, 1) := by decide +kernel
theorem dX7_signAt_11 : decode cX7_signAt 11 = .ok (.getfield 9, 3) := by decide +kernel
theorem dX7_signAt_14 : decode cX7_signAt 14 = .ok (.iload_n 1, 1) := by decide +kernel
theorem dX7_signAt_15 : decode cX7_signAt 15 = .ok (.caload, 1) := by decide +kernel
theorem dX7_signAt_16 : decode cX7_signAt 16 = .ok (.istore_n 2, 1) := by decide +kernel
theorem dX7_signAt_17 : decode cX7_signAt 17 = .ok (.iload_n 2, 1) := by decide +kernel
theorem dX7_signAt_18 : decode cX7_signAt 18 = .ok (.bipush 97, 2) := by decide +kernel
theorem dX7_signAt_20 : decode cX7_signAt 20 = .ok (.if_icmp .lt 11, 3) := by decide +kernel
theorem dX7_signAt_23 : decode cX7_signAt 23 = .ok (.iload_n 2, 1) := by decide +kernel
theorem dX7_signAt_24 : decode cX7_signAt 24 = .ok (.bipush 122, 2) := by decide +kernel
theorem dX7_signAt_26 : decode cX7_signAt 26 = .ok (.if_icmp .gt 5, 3) := by decide +kernel
theorem dX7_signAt_29 : decode cX7_signAt 29 = .ok (.iconst 1, 1) := by decide +kernel
theorem dX7_signAt_30 : decode cX7_signAt 30 = .ok (.ireturn, 1) := by decide +kernel
theorem dX7_signAt_31 : decode cX7_signAt 31 = .ok (.iload_n 2, 1) := by decide +kernel
theorem dX7_signAt_32 : decode cX7_signAt 32 = .ok (.bipush 48, 2) := by decide +kernel
theorem dX7_signAt_34 : decode cX7_signAt 34 = .ok (.if_icmp .lt 11, 3) := by decide +kernel
theorem dX7_signAt_37 : decode cX7_signAt 37 = .ok (.iload_n 2, 1) := by decide +kernel
theorem dX7_signAt_38 : decode cX7_signAt 38 = .ok (.bipush 57, 2) := by decide +kernel
theorem dX7_signAt_40 : decode cX7_signAt 40 = .ok (.if_icmp .gt 5, 3) := by decide +kernel
theorem dX7_signAt_43 : decode cX7_signAt 43 = .ok (.iconst 2, 1) := by decide +kernel
theorem dX7_signAt_44 : decode cX7_signAt 44 = .ok (.ireturn, 1) := by decide +kernel
theorem dX7_signAt_45 : decode cX7_signAt 45 = .ok (.iload_n 2, 1) := by decide +kernel
theorem dX7_signAt_46 : decode cX7_signAt 46 = .ok (.bipush 59, 2) := by decide +kernel
theorem dX7_signAt_48 : decode cX7_signAt 48 = .ok (.if_icmp .ne 7, 3) := by decide +kernel
theorem dX7_signAt_51 : decode cX7_signAt 51 = .ok (.iconst 3, 1) := by decide +kernel
theorem dX7_signAt_52 : decode cX7_signAt 52 = .ok (.goto 4, 3) := by decide +kernel
theorem dX7_signAt_55 : decode cX7_signAt 55 = .ok (.iconst 4, 1) := by decide +kernel
theorem dX7_signAt_56 : decode cX7_signAt 56 = .ok (.ireturn, 1) := by decide +kernel
theorem dX7_weigh_0 : decode cX7_weigh 0 = .ok (.aload_n 0, 1) := by decide +kernel
theorem dX7_weigh_1 : decode cX7_weigh 1 = .ok (.getfield 39, 3) := by decide +kernel
theorem dX7_weigh_4 : decode cX7_weigh 4 = .ok (.iconst 1, 1) := by decide +kernel
theorem dX7_weigh_5 : decode cX7_weigh 5 = .ok (.if_icmp .ne 28, 3) := by decide +kernel
theorem dX7_weigh_8 : decode cX7_weigh 8 = .ok (.aload_n 0, 1) := by decide +kernel
theorem dX7_weigh_9 : decode cX7_weigh 9 = .ok (.iload_n 1, 1) := by decide +kernel
theorem dX7_weigh_10 : decode cX7_weigh 10 = .ok (.iconst 1, 1) := by decide +kernel
theorem dX7_weigh_11 : decode cX7_weigh 11 = .ok (.if_icmp .ne 15, 3) := by decide +kernel
theorem dX7_weigh_14 : decode cX7_weigh 14 = .ok (.aload_n 0, 1) := by decide +kernel
theorem dX7_weigh_15 : decode cX7_weigh 15 = .ok (.getfield 9, 3) := by decide +kernel
theorem dX7_weigh_18 : decode cX7_weigh 18 = .ok (.aload_n 0, 1) := by decide +kernel
theorem dX7_weigh_19 : decode cX7_weigh 19 = .ok (.getfield 114, 3) := by decide +kernel
theorem dX7_weigh_22 : decode cX7_weigh 22 = .ok (.caload, 1) := by decide +kernel
theorem dX7_weigh_23 : decode cX7_weigh 23 = .ok (.goto 4, 3) := by decide +kernel
theorem dX7_weigh_26 : decode cX7_weigh 26 = .ok (.iconst 0, 1) := by decide +kernel
theorem dX7_weigh_27 : decode cX7_weigh 27 = .ok (.putfield 46, 3) := by decide +kernel
theorem dX7_weigh_30 : decode cX7_weigh 30 = .ok (.goto 105, 3) := by decide +kernel
theorem dX7_weigh_33 : decode cX7_weigh 33 = .ok (.aload_n 0, 1) := by decide +kernel
theorem dX7_weigh_34 : decode cX7_weigh 34 = .ok (.getfield 39, 3) := by decide +kernel
theorem dX7_weigh_37 : decode cX7_weigh 37 = .ok (.iconst 2, 1) := by decide +kernel
theorem dX7_weigh_38 : decode cX7_weigh 38 = .ok (.if_icmp .ne 27, 3) := by decide +kernel
theorem dX7_weigh_41 : decode cX7_weigh 41 = .ok (.iload_n 1, 1) := by decide +kernel
theorem dX7_weigh_42 : decode cX7_weigh 42 = .ok (.iconst 1, 1) := by decide +kernel
theorem dX7_weigh_43 : decode cX7_weigh 43 = .ok (.if_icmp .ne 22, 3) := by decide +kernel
theorem dX7_weigh_46 : decode cX7_weigh 46 = .ok (.aload_n 0, 1) := by decide +kernel
theorem dX7_weigh_47 : decode cX7_weigh 47 = .ok (.aload_n 0, 1) := by decide +kernel
theorem dX7_weigh_48 : decode cX7_weigh 48 = .ok (.getfield 9, 3) := by decide +kernel
theorem dX7_weigh_51 : decode cX7_weigh 51 = .ok (.aload_n 0, 1) := by decide +kernel
theorem dX7_weigh_52 : decode cX7_weigh 52 = .ok (.getfield 114, 3) := by decide +kernel
theorem dX7_weigh_55 : decode cX7_weigh 55 = .ok (.caload, 1) := by decide +kernel
theorem dX7_weigh_56 : decode cX7_weigh 56 = .ok (.bipush 48, 2) := by decide +kernel
theorem dX7_weigh_58 : decode cX7_weigh 58 = .ok (.isub, 1) := by decide +kernel
theorem dX7_weigh_59 : decode cX7_weigh 59 = .ok (.putfield 46, 3) := by decide +kernel
theorem dX7_weigh_62 : decode cX7_weigh 62 = .ok (.goto 73, 3) := by decide +kernel
theorem dX7_weigh_65 : decode cX7_weigh 65 = .ok (.aload_n 0, 1) := by decide +kernel
theorem dX7_weigh_66 : decode cX7_weigh 66 = .ok (.getfield 39, 3) := by decide +kernel
theorem dX7_weigh_69 : decode cX7_weigh 69 = .ok (.iconst 2, 1) := by decide +kernel
theorem dX7_weigh_70 : decode cX7_weigh 70 = .ok (.if_icmp .ne 65, 3) := by decide +kernel
theorem dX7_weigh_73 : decode cX7_weigh 73 = .ok (.aload_n 0, 1) := by decide +kernel
theorem dX7_weigh_74 : decode cX7_weigh 74 = .ok (.bipush 10, 2) := by decide +kernel
theorem dX7_weigh_76 : decode cX7_weigh 76 = .ok (.aload_n 0, 1) := by decide +kernel
theorem dX7_weigh_77 : decode cX7_weigh 77 = .ok (.getfield 9, 3) := by decide +kernel
theorem dX7_weigh_80 : decode cX7_weigh 80 = .ok (.aload_n 0, 1) := by decide +kernel
theorem dX7_weigh_81 : decode cX7_weigh 81 = .ok (.getfield 114, 3) := by decide +kernel
theorem dX7_weigh_84 : decode cX7_weigh 84 = .ok (.caload, 1) := by decide +kernel
theorem dX7_weigh_85 : decode cX7_weigh 85 = .ok (.bipush 48, 2) := by decide +kernel
theorem dX7_weigh_87 : decode cX7_weigh 87 = .ok (.isub, 1) := by decide +kernel
theorem dX7_weigh_88 : decode cX7_weigh 88 = .ok (.imul, 1) := by decide +kernel
theorem dX7_weigh_89 : decode cX7_weigh 89 = .ok (.aload_n 0, 1) := by decide +kernel
theorem dX7_weigh_90 : decode cX7_weigh 90 = .ok (.getfield 9, 3) := by decide +kernel
theorem dX7_weigh_93 : decode cX7_weigh 93 = .ok (.aload_n 0, 1) := by decide +kernel
theorem dX7_weigh_94 : decode cX7_weigh 94 = .ok (.getfield 114, 3) := by decide +kernel
theorem dX7_weigh_97 : decode cX7_weigh 97 = .ok (.iconst 1, 1) := by decide +kernel
theorem dX7_weigh_98 : decode cX7_weigh 98 = .ok (.iadd, 1) := by decide +kernel
theorem dX7_weigh_99 : decode cX7_weigh 99 = .ok (.caload, 1) := by decide +kernel
theorem dX7_weigh_100 : decode cX7_weigh 100 = .ok (.iadd, 1) := by decide +kernel
theorem dX7_weigh_101 : decode cX7_weigh 101 = .ok (.bipush 48, 2) := by decide +kernel
theorem dX7_weigh_103 : decode cX7_weigh 103 = .ok (.isub, 1) := by decide +kernel
theorem dX7_weigh_104 : decode cX7_weigh 104 = .ok (.putfield 46, 3) := by decide +kernel
theorem dX7_weigh_107 : decode cX7_weigh 107 = .ok (.aload_n 0, 1) := by decide +kernel
theorem dX7_weigh_108 : decode cX7_weigh 108 = .ok (.iload_n 1, 1) := by decide +kernel
theorem dX7_weigh_109 : decode cX7_weigh 109 = .ok (.iconst 2, 1) := by decide +kernel
theorem dX7_weigh_110 : decode cX7_weigh 110 = .ok (.if_icmp .gt 17, 3) := by decide +kernel
theorem dX7_weigh_113 : decode cX7_weigh 113 = .ok (.aload_n 0, 1) := by decide +kernel
theorem dX7_weigh_114 : decode cX7_weigh 114 = .ok (.getfield 9, 3) := by decide +kernel
theorem dX7_weigh_117 : decode cX7_weigh 117 = .ok (.aload_n 0, 1) := by decide +kernel
theorem dX7_weigh_118 : decode cX7_weigh 118 = .ok (.getfield 114, 3) := by decide +kernel
theorem dX7_weigh_121 : decode cX7_weigh 121 = .ok (.caload, 1) := by decide +kernel
theorem dX7_weigh_122 : decode cX7_weigh 122 = .ok (.bipush 48, 2) := by decide +kernel
theorem dX7_weigh_124 : decode cX7_weigh 124 = .ok (.if_icmp .ne 7, 3) := by decide +kernel
theorem dX7_weigh_127 : decode cX7_weigh 127 = .ok (.iconst 4, 1) := by decide +kernel
theorem dX7_weigh_128 : decode cX7_weigh 128 = .ok (.goto 4, 3) := by decide +kernel
theorem dX7_weigh_131 : decode cX7_weigh 131 = .ok (.iconst 2, 1) := by decide +kernel
theorem dX7_weigh_132 : decode cX7_weigh 132 = .ok (.putfield 39, 3) := by decide +kernel
theorem dX7_weigh_135 : decode cX7_weigh 135 = .ok (.return_, 1) := by decide +kernel
theorem dX8_init_0 : decode cX8_init 0 = .ok (.aload_n 0, 1) := by decide +kernel
theorem dX8_init_1 : decode cX8_init 1 = .ok (.invokespecial 3, 3) := by decide +kernel
theorem dX8_init_4 : decode cX8_init 4 = .ok (.aload_n 0, 1) := by decide +kernel
theorem dX8_init_5 : decode cX8_init 5 = .ok (.bipush 10, 2) := by decide +kernel
theorem dX8_init_7 : decode cX8_init 7 = .ok (.newarray .int, 2) := by decide +kernel
theorem dX8_init_9 : decode cX8_init 9 = .ok (.putfield 9, 3) := by decide +kernel
theorem dX8_init_12 : decode cX8_init 12 = .ok (.return_, 1) := by decide +kernel
set_option maxRecDepth 20000 in
theorem ggX8_goAs_X8_go : GoodIn wsX8_goAs wsX8_go := goodIn_r _ [7, 8, 9, 10, 11, 12, 13, 14, 15, 16, 6, 17, 18, 19, 20, 21, 22, 23, 24, 25, 26, 27, 28, 29, 30, 31, 44, 45, 46, 47, 48, 32, 33, 34, 35, 36, 37, 38, 39, 40, 41, 42, 43, 49, 50, 51, 52, 53, 54, 55, 56, 57, 58, 59, 60] (by decide +kernel) (by decide +kernel)
set_option maxRecDepth 20000 in
theorem gX8_goAs_X8_go : GoodIn wsX8_goAs (wsV RX8 23 RX8 yX8_go wsX8_go) := goodIn_app (goodIn_of _ (by decide +kernel)) ggX8_goAs_X8_go
theorem dX8_goAs_0 : decode cX8_goAs 0 = .ok (.aload_n 0, 1) := by decide +kernel
theorem dX8_goAs_1 : decode cX8_goAs 1 = .ok (.aload_n 1, 1) := by decide +kernel
theorem dX8_goAs_2 : decode cX8_goAs 2 = .ok (.aload_n 2, 1) := by decide +kernel
theorem dX8_goAs_3 : decode cX8_goAs 3 = .ok (.aload_n 1, 1) := by decide +kernel
theorem dX8_goAs_4 : decode cX8_goAs 4 = .ok (.getfield 15, 3) := by decide +kernel
theorem dX8_goAs_7 : decode cX8_goAs 7 = .ok (.iload_n 3, 1) := by decide +kernel
theorem dX8_goAs_8 : decode cX8_goAs 8 = .ok (.iaload, 1) := by decide +kernel
theorem dX8_goAs_9 : decode cX8_goAs 9 = .ok (.aload_n 1, 1) := by decide +kernel
theorem dX8_goAs_10 : decode cX8_goAs 10 = .ok (.getfield 20, 3) := by decide +kernel
theorem dX8_goAs_13 : decode cX8_goAs 13 = .ok (.iload_n 3, 1) := by decide +kernel
theorem dX8_goAs_14 : decode cX8_goAs 14 = .ok (.iaload, 1) := by decide +kernel
theorem dX8_goAs_15 : decode cX8_goAs 15 = .ok (.iconst 1, 1) := by decide +kernel
theorem dX8_goAs_16 : decode cX8_goAs 16 = .ok (.if_icmp .ne 7, 3) := by decide +kernel
theorem dX8_goAs_19 : decode cX8_goAs 19 = .ok (.iconst 1, 1) := by decide +kernel
theorem dX8_goAs_20 : decode cX8_goAs 20 = .ok (.goto 4, 3) := by decide +kernel
theorem dX8_goAs_23 : decode cX8_goAs 23 = .ok (.iconst 0, 1) := by decide +kernel
theorem dX8_goAs_24 : decode cX8_goAs 24 = .ok (.iload 4, 2) := by decide +kernel
theorem dX8_goAs_26 : decode cX8_goAs 26 = .ok (.invokevirtual 23, 3) := by decide +kernel
theorem dX8_goAs_29 : decode cX8_goAs 29 = .ok (.return_, 1) := by decide +kernel
set_option maxRecDepth 20000 in
theorem ggX8_go_X8_wayDown : GoodIn wsX8_go wsX8_wayDown := goodIn_r _ [11, 12, 1, 13, 14, 15, 31, 32, 33, 34, 35, 36, 37, 38, 39, 40, 41, 42, 26, 27, 28, 29, 30, 43, 44, 45, 46, 47, 48, 49, 50, 51, 52, 53, 54] (by decide +kernel) (by decide +kernel)
set_option maxRecDepth 20000 in
theorem gX8_go_X8_wayDown : GoodIn wsX8_go (wsV RX8 44 RX8 yX8_wayDown wsX8_wayDown) := goodIn_app (goodIn_of _ (by decide +kernel)) ggX8_go_X8_wayDown
set_option maxRecDepth 20000 in
theorem ggX8_go_X8_sideOf : GoodIn wsX8_go wsX8_sideOf := goodIn_r _ [18, 19, 31, 32, 33, 34, 35, 36, 37, 38, 39, 40, 41, 42] (by decide +kernel) (by decide +kernel)
set_option maxRecDepth 20000 in
theorem gX8_go_X8_sideOf : GoodIn wsX8_go (va_wsS RX8 48 yX8_sideOf wsX8_sideOf) := goodIn_app (goodIn_of _ (by decide +kernel)) ggX8_go_X8_sideOf
set_option maxRecDepth 20000 in
theorem ggX8_go_X2_besideOf : GoodIn wsX8_go wsX2_besideOf := goodIn_r _ [24, 25, 31, 32, 33, 34, 35, 36, 37, 38, 39, 40, 41, 42] (by decide +kernel) (by decide +kernel)
set_option maxRecDepth 20000 in
theorem gX8_go_X2_besideOf : GoodIn wsX8_go (wsV RX8 52 RX2 yX2_besideOf wsX2_besideOf) := goodIn_app (goodIn_of _ (by decide +kernel)) ggX8_go_X2_besideOf

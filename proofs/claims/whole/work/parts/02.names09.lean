theorem dX12_markOfCell_17 : decode cX12_markOfCell 17 = .ok (.iaload, 1) := by decide +kernel
theorem dX12_markOfCell_18 : decode cX12_markOfCell 18 = .ok (.ireturn, 1) := by decide +kernel
set_option maxRecDepth 20000 in
theorem ggX12_mark_X12_in : GoodIn wsX12_mark wsX12_in := goodIn_r _ [6] (by decide +kernel) (by decide +kernel)
set_option maxRecDepth 20000 in
theorem gX12_mark_X12_in : GoodIn wsX12_mark (va_wsS RX12 68 yX12_in wsX12_in) := goodIn_app (goodIn_of _ (by decide +kernel)) ggX12_mark_X12_in
set_option maxRecDepth 20000 in
theorem ggX12_mark_X12_isCell : GoodIn wsX12_mark wsX12_isCell := goodIn_r _ [10, 11, 12, 3, 4, 5, 6, 71, 72, 73, 74, 75, 76, 77, 78, 79, 80, 81, 82, 83, 84, 85, 86, 87, 88, 89, 90, 91, 92, 93, 94, 95, 96, 97, 98, 99, 100, 101, 102, 103, 104, 105, 106] (by decide +kernel) (by decide +kernel)
set_option maxRecDepth 20000 in
theorem gX12_mark_X12_isCell : GoodIn wsX12_mark (wsV RX12 160 RX12 yX12_isCell wsX12_isCell) := goodIn_app (goodIn_of _ (by decide +kernel)) ggX12_mark_X12_isCell
set_option maxRecDepth 20000 in
theorem ggX12_mark_X12_bit : GoodIn wsX12_mark wsX12_bit := goodIn_r _ [16, 11, 71, 72, 73, 74, 75, 76, 77, 78, 79, 80, 81, 82, 83, 84, 85, 86, 87, 88, 89, 90, 91, 92, 93, 94, 95, 96, 97, 98, 99, 100, 101, 102, 103, 104, 105, 106] (by decide +kernel) (by decide +kernel)
set_option maxRecDepth 20000 in
theorem gX12_mark_X12_bit : GoodIn wsX12_mark (wsV RX12 164 RX12 yX12_bit wsX12_bit) := goodIn_app (goodIn_of _ (by decide +kernel)) ggX12_mark_X12_bit
set_option maxRecDepth 20000 in
theorem ggX12_mark_X12_markOf : GoodIn wsX12_mark wsX12_markOf := goodIn_r _ [20, 21, 22, 23, 24, 25, 26, 27, 28, 29, 30, 31, 5, 32, 33, 34, 35, 36, 37, 38, 39, 40, 41, 42, 43, 44, 45, 46, 11, 12, 47, 48, 49, 50, 51, 52, 53, 54, 55, 56, 57, 58, 59, 60, 61, 62, 63, 64, 65, 66, 67, 68, 69, 70, 71, 72, 73, 74, 75, 76, 77, 78, 79, 80, 81, 82, 83, 84, 85, 86, 87, 88, 89, 90, 91, 92, 93, 94, 95, 96, 97, 98, 99, 100, 101, 102, 103, 104, 105, 106] (by decide +kernel) (by decide +kernel)
set_option maxRecDepth 20000 in
theorem gX12_mark_X12_markOf : GoodIn wsX12_mark (wsV RX12 310 RX12 yX12_markOf wsX12_markOf) := goodIn_app (goodIn_of _ (by decide +kernel)) ggX12_mark_X12_markOf
theorem dX12_mark_0 : decode cX12_mark 0 = .ok (.iload_n 1, 1) := by decide +kernel
theorem dX12_mark_1 : decode cX12_mark 1 = .ok (.i2l, 1) := by decide +kernel
theorem dX12_mark_2 : decode cX12_mark 2 = .ok (.lconst 0, 1) := by decide +kernel
theorem dX12_mark_3 : decode cX12_mark 3 = .ok (.ldc2_w 308, 3) := by decide +kernel
theorem dX12_mark_6 : decode cX12_mark 6 = .ok (.invokestatic 68, 3) := by decide +kernel
theorem dX12_mark_9 : decode cX12_mark 9 = .ok (.ifCond .eq 26, 3) := by decide +kernel
theorem dX12_mark_12 : decode cX12_mark 12 = .ok (.aload_n 0, 1) := by decide +kernel
theorem dX12_mark_13 : decode cX12_mark 13 = .ok (.iload_n 2, 1) := by decide +kernel
theorem dX12_mark_14 : decode cX12_mark 14 = .ok (.iload_n 3, 1) := by decide +kernel
theorem dX12_mark_15 : decode cX12_mark 15 = .ok (.invokevirtual 160, 3) := by decide +kernel
theorem dX12_mark_18 : decode cX12_mark 18 = .ok (.ifCond .eq 17, 3) := by decide +kernel
theorem dX12_mark_21 : decode cX12_mark 21 = .ok (.aload_n 0, 1) := by decide +kernel
theorem dX12_mark_22 : decode cX12_mark 22 = .ok (.iload_n 1, 1) := by decide +kernel
theorem dX12_mark_23 : decode cX12_mark 23 = .ok (.aload_n 0, 1) := by decide +kernel
theorem dX12_mark_24 : decode cX12_mark 24 = .ok (.iload_n 2, 1) := by decide +kernel
theorem dX12_mark_25 : decode cX12_mark 25 = .ok (.iload_n 3, 1) := by decide +kernel
theorem dX12_mark_26 : decode cX12_mark 26 = .ok (.invokevirtual 164, 3) := by decide +kernel
theorem dX12_mark_29 : decode cX12_mark 29 = .ok (.invokevirtual 310, 3) := by decide +kernel
theorem dX12_mark_32 : decode cX12_mark 32 = .ok (.goto 6, 3) := by decide +kernel
theorem dX12_mark_35 : decode cX12_mark 35 = .ok (.ldc_w 313, 3) := by decide +kernel
theorem dX12_mark_38 : decode cX12_mark 38 = .ok (.ireturn, 1) := by decide +kernel
theorem dX12_copyRow_0 : decode cX12_copyRow 0 = .ok (.iconst 0, 1) := by decide +kernel
theorem dX12_copyRow_1 : decode cX12_copyRow 1 = .ok (.istore_n 3, 1) := by decide +kernel
theorem dX12_copyRow_2 : decode cX12_copyRow 2 = .ok (.iload_n 3, 1) := by decide +kernel
theorem dX12_copyRow_3 : decode cX12_copyRow 3 = .ok (.sipush 1673, 3) := by decide +kernel
theorem dX12_copyRow_6 : decode cX12_copyRow 6 = .ok (.if_icmp .ge 25, 3) := by decide +kernel
theorem dX12_copyRow_9 : decode cX12_copyRow 9 = .ok (.aload_n 0, 1) := by decide +kernel
theorem dX12_copyRow_10 : decode cX12_copyRow 10 = .ok (.getfield 7, 3) := by decide +kernel
theorem dX12_copyRow_13 : decode cX12_copyRow 13 = .ok (.iload_n 2, 1) := by decide +kernel
theorem dX12_copyRow_14 : decode cX12_copyRow 14 = .ok (.iload_n 3, 1) := by decide +kernel
theorem dX12_copyRow_15 : decode cX12_copyRow 15 = .ok (.iadd, 1) := by decide +kernel
theorem dX12_copyRow_16 : decode cX12_copyRow 16 = .ok (.aload_n 0, 1) := by decide +kernel
theorem dX12_copyRow_17 : decode cX12_copyRow 17 = .ok (.getfield 7, 3) := by decide +kernel
theorem dX12_copyRow_20 : decode cX12_copyRow 20 = .ok (.iload_n 1, 1) := by decide +kernel
theorem dX12_copyRow_21 : decode cX12_copyRow 21 = .ok (.iload_n 3, 1) := by decide +kernel
theorem dX12_copyRow_22 : decode cX12_copyRow 22 = .ok (.iadd, 1) := by decide +kernel
theorem dX12_copyRow_23 : decode cX12_copyRow 23 = .ok (.iaload, 1) := by decide +kernel
theorem dX12_copyRow_24 : decode cX12_copyRow 24 = .ok (.iastore, 1) := by decide +kernel
theorem dX12_copyRow_25 : decode cX12_copyRow 25 = .ok (.iinc 3 1, 3) := by decide +kernel
theorem dX12_copyRow_28 : decode cX12_copyRow 28 = .ok (.goto (-26), 3) := by decide +kernel
theorem dX12_copyRow_31 : decode cX12_copyRow 31 = .ok (.return_, 1) := by decide +kernel
set_option maxRecDepth 20000 in
theorem ggX12_keep_X12_in : GoodIn wsX12_keep wsX12_in := goodIn_r _ [5] (by decide +kernel) (by decide +kernel)
set_option maxRecDepth 20000 in
theorem gX12_keep_X12_in : GoodIn wsX12_keep (va_wsS RX12 68 yX12_in wsX12_in) := goodIn_app (goodIn_of _ (by decide +kernel)) ggX12_keep_X12_in
set_option maxRecDepth 20000 in
theorem ggX12_keep_X12_copyRow : GoodIn wsX12_keep wsX12_copyRow := goodIn_r _ [9, 10, 26, 27, 28, 29, 30, 31, 32, 33, 34, 35, 36, 37, 38, 39, 40, 41, 42, 43, 44, 45, 46, 47, 48, 49, 50, 51, 52, 53, 54, 55, 56, 57, 58, 59, 60, 61] (by decide +kernel) (by decide +kernel)
set_option maxRecDepth 20000 in
theorem gX12_keep_X12_copyRow : GoodIn wsX12_keep (wsV RX12 314 RX12 yX12_copyRow wsX12_copyRow) := goodIn_app (goodIn_of _ (by decide +kernel)) ggX12_keep_X12_copyRow
set_option maxRecDepth 20000 in
theorem ggX12_keep_X12_lying : GoodIn wsX12_keep wsX12_lying := goodIn_r _ [14, 15, 16, 17, 4, 18, 19, 20, 21, 22, 23, 24, 10, 25, 26, 27, 28, 29, 30, 31, 32, 33, 34, 35, 36, 37, 38, 39, 40, 41, 42, 43, 44, 45, 46, 47, 48, 49, 50, 51, 52, 53, 54, 55, 56, 57, 58, 59, 60, 61] (by decide +kernel) (by decide +kernel)
set_option maxRecDepth 20000 in
theorem gX12_keep_X12_lying : GoodIn wsX12_keep (wsV RX12 226 RX12 yX12_lying wsX12_lying) := goodIn_app (goodIn_of _ (by decide +kernel)) ggX12_keep_X12_lying
theorem dX12_keep_0 : decode cX12_keep 0 = .ok (.iload_n 1, 1) := by decide +kernel
theorem dX12_keep_1 : decode cX12_keep 1 = .ok (.i2l, 1) := by decide +kernel
theorem dX12_keep_2 : decode cX12_keep 2 = .ok (.lconst 0, 1) := by decide +kernel
theorem dX12_keep_3 : decode cX12_keep 3 = .ok (.lconst 1, 1) := by decide +kernel
theorem dX12_keep_4 : decode cX12_keep 4 = .ok (.invokestatic 68, 3) := by decide +kernel
theorem dX12_keep_7 : decode cX12_keep 7 = .ok (.ifCond .ne 5, 3) := by decide +kernel
theorem dX12_keep_10 : decode cX12_keep 10 = .ok (.iconst (-1), 1) := by decide +kernel
theorem dX12_keep_11 : decode cX12_keep 11 = .ok (.ireturn, 1) := by decide +kernel
theorem dX12_keep_12 : decode cX12_keep 12 = .ok (.aload_n 0, 1) := by decide +kernel
theorem dX12_keep_13 : decode cX12_keep 13 = .ok (.iconst 0, 1) := by decide +kernel
theorem dX12_keep_14 : decode cX12_keep 14 = .ok (.sipush 1673, 3) := by decide +kernel
theorem dX12_keep_17 : decode cX12_keep 17 = .ok (.iconst 1, 1) := by decide +kernel
theorem dX12_keep_18 : decode cX12_keep 18 = .ok (.iload_n 1, 1) := by decide +kernel
theorem dX12_keep_19 : decode cX12_keep 19 = .ok (.iadd, 1) := by decide +kernel
theorem dX12_keep_20 : decode cX12_keep 20 = .ok (.imul, 1) := by decide +kernel
theorem dX12_keep_21 : decode cX12_keep 21 = .ok (.invokevirtual 314, 3) := by decide +kernel
theorem dX12_keep_24 : decode cX12_keep 24 = .ok (.aload_n 0, 1) := by decide +kernel
theorem dX12_keep_25 : decode cX12_keep 25 = .ok (.getfield 13, 3) := by decide +kernel
theorem dX12_keep_28 : decode cX12_keep 28 = .ok (.iload_n 1, 1) := by decide +kernel
theorem dX12_keep_29 : decode cX12_keep 29 = .ok (.iconst 1, 1) := by decide +kernel
theorem dX12_keep_30 : decode cX12_keep 30 = .ok (.bastore, 1) := by decide +kernel
theorem dX12_keep_31 : decode cX12_keep 31 = .ok (.aload_n 0, 1) := by decide +kernel
theorem dX12_keep_32 : decode cX12_keep 32 = .ok (.invokevirtual 226, 3) := by decide +kernel
theorem dX12_keep_35 : decode cX12_keep 35 = .ok (.ireturn, 1) := by decide +kernel
set_option maxRecDepth 20000 in
theorem ggX12_back_X12_in : GoodIn wsX12_back wsX12_in := goodIn_r _ [5] (by decide +kernel) (by decide +kernel)
set_option maxRecDepth 20000 in
theorem gX12_back_X12_in : GoodIn wsX12_back (va_wsS RX12 68 yX12_in wsX12_in) := goodIn_app (goodIn_of _ (by decide +kernel)) ggX12_back_X12_in
set_option maxRecDepth 20000 in
theorem ggX12_back_X12_copyRow : GoodIn wsX12_back wsX12_copyRow := goodIn_r _ [9, 10, 26, 27, 28, 29, 30, 31, 32, 33, 34, 35, 36, 37, 38, 39, 40, 41, 42, 43, 44, 45, 46, 47, 48, 49, 50, 51, 52, 53, 54, 55, 56, 57, 58, 59, 60, 61] (by decide +kernel) (by decide +kernel)
set_option maxRecDepth 20000 in
theorem gX12_back_X12_copyRow : GoodIn wsX12_back (wsV RX12 314 RX12 yX12_copyRow wsX12_copyRow) := goodIn_app (goodIn_of _ (by decide +kernel)) ggX12_back_X12_copyRow
set_option maxRecDepth 20000 in
theorem ggX12_back_X12_lying : GoodIn wsX12_back wsX12_lying := goodIn_r _ [14, 15, 16, 17, 4, 18, 19, 20, 21, 22, 23, 24, 10, 25, 26, 27, 28, 29, 30, 31, 32, 33, 34, 35, 36, 37, 38, 39, 40, 41, 42, 43, 44, 45, 46, 47, 48, 49, 50, 51, 52, 53, 54, 55, 56, 57, 58, 59, 60, 61] (by decide +kernel) (by decide +kernel)
set_option maxRecDepth 20000 in
theorem gX12_back_X12_lying : GoodIn wsX12_back (wsV RX12 226 RX12 yX12_lying wsX12_lying) := goodIn_app (goodIn_of _ (by decide +kernel)) ggX12_back_X12_lying
theorem dX12_back_0 : decode cX12_back 0 = .ok (.iload_n 1, 1) := by decide +kernel
theorem dX12_back_1 : decode cX12_back 1 = .ok (.i2l, 1) := by decide +kernel
theorem dX12_back_2 : decode cX12_back 2 = .ok (.lconst 0, 1) := by decide +kernel
theorem dX12_back_3 : decode cX12_back 3 = .ok (.lconst 1, 1) := by decide +kernel
theorem dX12_back_4 : decode cX12_back 4 = .ok (.invokestatic 68, 3) := by decide +kernel
theorem dX12_back_7 : decode cX12_back 7 = .ok (.ifCond .ne 5, 3) := by decide +kernel
theorem dX12_back_10 : decode cX12_back 10 = .ok (.iconst (-1), 1) := by decide +kernel
theorem dX12_back_11 : decode cX12_back 11 = .ok (.ireturn, 1) := by decide +kernel
theorem dX12_back_12 : decode cX12_back 12 = .ok (.aload_n 0, 1) := by decide +kernel
theorem dX12_back_13 : decode cX12_back 13 = .ok (.getfield 13, 3) := by decide +kernel
theorem dX12_back_16 : decode cX12_back 16 = .ok (.iload_n 1, 1) := by decide +kernel
theorem dX12_back_17 : decode cX12_back 17 = .ok (.baload, 1) := by decide +kernel
theorem dX12_back_18 : decode cX12_back 18 = .ok (.ifCond .ne 6, 3) := by decide +kernel
theorem dX12_back_21 : decode cX12_back 21 = .ok (.bipush (-2), 2) := by decide +kernel
theorem dX12_back_23 : decode cX12_back 23 = .ok (.ireturn, 1) := by decide +kernel
theorem dX12_back_24 : decode cX12_back 24 = .ok (.aload_n 0, 1) := by decide +kernel
theorem dX12_back_25 : decode cX12_back 25 = .ok (.sipush 1673, 3) := by decide +kernel
theorem dX12_back_28 : decode cX12_back 28 = .ok (.iconst 1, 1) := by decide +kernel
theorem dX12_back_29 : decode cX12_back 29 = .ok (.iload_n 1, 1) := by decide +kernel
theorem dX12_back_30 : decode cX12_back 30 = .ok (.iadd, 1) := by decide +kernel
theorem dX12_back_31 : decode cX12_back 31 = .ok (.imul, 1) := by decide +kernel
theorem dX12_back_32 : decode cX12_back 32 = .ok (.iconst 0, 1) := by decide +kernel
theorem dX12_back_33 : decode cX12_back 33 = .ok (.invokevirtual 314, 3) := by decide +kernel
theorem dX12_back_36 : decode cX12_back 36 = .ok (.aload_n 0, 1) := by decide +kernel
theorem dX12_back_37 : decode cX12_back 37 = .ok (.invokevirtual 226, 3) := by decide +kernel
theorem dX12_back_40 : decode cX12_back 40 = .ok (.ireturn, 1) := by decide +kernel
theorem dX12_count_0 : decode cX12_count 0 = .ok (.iload_n 1, 1) := by decide +kernel
theorem dX12_count_1 : decode cX12_count 1 = .ok (.tableswitch 80 0 6 #[43, 48, 53, 58, 63, 68, 75], 43) := by decide +kernel
theorem dX12_count_44 : decode cX12_count 44 = .ok (.aload_n 0, 1) := by decide +kernel
theorem dX12_count_45 : decode cX12_count 45 = .ok (.getfield 143, 3) := by decide +kernel
theorem dX12_count_48 : decode cX12_count 48 = .ok (.ireturn, 1) := by decide +kernel
theorem dX12_count_49 : decode cX12_count 49 = .ok (.aload_n 0, 1) := by decide +kernel
theorem dX12_count_50 : decode cX12_count 50 = .ok (.getfield 146, 3) := by decide +kernel
theorem dX12_count_53 : decode cX12_count 53 = .ok (.ireturn, 1) := by decide +kernel
theorem dX12_count_54 : decode cX12_count 54 = .ok (.aload_n 0, 1) := by decide +kernel
theorem dX12_count_55 : decode cX12_count 55 = .ok (.getfield 152, 3) := by decide +kernel
theorem dX12_count_58 : decode cX12_count 58 = .ok (.ireturn, 1) := by decide +kernel
theorem dX12_count_59 : decode cX12_count 59 = .ok (.aload_n 0, 1) := by decide +kernel
theorem dX12_count_60 : decode cX12_count 60 = .ok (.getfield 149, 3) := by decide +kernel
theorem dX12_count_63 : decode cX12_count 63 = .ok (.ireturn, 1) := by decide +kernel
theorem dX12_count_64 : decode cX12_count 64 = .ok (.aload_n 0, 1) := by decide +kernel
theorem dX12_count_65 : decode cX12_count 65 = .ok (.getfield 157, 3) := by decide +kernel
theorem dX12_count_68 : decode cX12_count 68 = .ok (.ireturn, 1) := by decide +kernel
theorem dX12_count_69 : decode cX12_count 69 = .ok (.aload_n 0, 1) := by decide +kernel
theorem dX12_count_70 : decode cX12_count 70 = .ok (.getfield 7, 3) := by decide +kernel
theorem dX12_count_73 : decode cX12_count 73 = .ok (.iconst 0, 1) := by decide +kernel
theorem dX12_count_74 : decode cX12_count 74 = .ok (.iaload, 1) := by decide +kernel
theorem dX12_count_75 : decode cX12_count 75 = .ok (.ireturn, 1) := by decide +kernel
theorem dX12_count_76 : decode cX12_count 76 = .ok (.aload_n 0, 1) := by decide +kernel
theorem dX12_count_77 : decode cX12_count 77 = .ok (.getfield 72, 3) := by decide +kernel
theorem dX12_count_80 : decode cX12_count 80 = .ok (.ireturn, 1) := by decide +kernel
theorem dX12_count_81 : decode cX12_count 81 = .ok (.iconst (-1), 1) := by decide +kernel
theorem dX12_count_82 : decode cX12_count 82 = .ok (.ireturn, 1) := by decide +kernel
theorem dX12_trace_0 : decode cX12_trace 0 = .ok (.aload_n 0, 1) := by decide +kernel
theorem dX12_trace_1 : decode cX12_trace 1 = .ok (.getfield 291, 3) := by decide +kernel
theorem dX12_trace_4 : decode cX12_trace 4 = .ok (.lreturn, 1) := by decide +kernel
theorem dJ6_bitCount_0f7a4_0 : decode cJ6_bitCount_0f7a4 0 = .ok (.iload_n 0, 1) := by decide +kernel
theorem dJ6_bitCount_0f7a4_1 : decode cJ6_bitCount_0f7a4 1 = .ok (.iload_n 0, 1) := by decide +kernel
theorem dJ6_bitCount_0f7a4_2 : decode cJ6_bitCount_0f7a4 2 = .ok (.iconst 1, 1) := by decide +kernel
theorem dJ6_bitCount_0f7a4_3 : decode cJ6_bitCount_0f7a4 3 = .ok (.iushr, 1) := by decide +kernel
theorem dJ6_bitCount_0f7a4_4 : decode cJ6_bitCount_0f7a4 4 = .ok (.ldc_w 265, 3) := by decide +kernel
theorem dJ6_bitCount_0f7a4_7 : decode cJ6_bitCount_0f7a4 7 = .ok (.iand, 1) := by decide +kernel
theorem dJ6_bitCount_0f7a4_8 : decode cJ6_bitCount_0f7a4 8 = .ok (.isub, 1) := by decide +kernel
theorem dJ6_bitCount_0f7a4_9 : decode cJ6_bitCount_0f7a4 9 = .ok (.istore_n 0, 1) := by decide +kernel
theorem dJ6_bitCount_0f7a4_10 : decode cJ6_bitCount_0f7a4 10 = .ok (.iload_n 0, 1) := by decide +kernel
theorem dJ6_bitCount_0f7a4_11 : decode cJ6_bitCount_0f7a4 11 = .ok (.ldc_w 266, 3) := by decide +kernel
theorem dJ6_bitCount_0f7a4_14 : decode cJ6_bitCount_0f7a4 14 = .ok (.iand, 1) := by decide +kernel
theorem dJ6_bitCount_0f7a4_15 : decode cJ6_bitCount_0f7a4 15 = .ok (.iload_n 0, 1) := by decide +kernel
theorem dJ6_bitCount_0f7a4_16 : decode cJ6_bitCount_0f7a4 16 = .ok (.iconst 2, 1) := by decide +kernel
theorem dJ6_bitCount_0f7a4_17 : decode cJ6_bitCount_0f7a4 17 = .ok (.iushr, 1) := by decide +kernel
theorem dJ6_bitCount_0f7a4_18 : decode cJ6_bitCount_0f7a4 18 = .ok (.ldc_w 266, 3) := by decide +kernel
theorem dJ6_bitCount_0f7a4_21 : decode cJ6_bitCount_0f7a4 21 = .ok (.iand, 1) := by decide +kernel
theorem dJ6_bitCount_0f7a4_22 : decode cJ6_bitCount_0f7a4 22 = .ok (.iadd, 1) := by decide +kernel
theorem dJ6_bitCount_0f7a4_23 : decode cJ6_bitCount_0f7a4 23 = .ok (.istore_n 0, 1) := by decide +kernel
theorem dJ6_bitCount_0f7a4_24 : decode cJ6_bitCount_0f7a4 24 = .ok (.iload_n 0, 1) := by decide +kernel
theorem dJ6_bitCount_0f7a4_25 : decode cJ6_bitCount_0f7a4 25 = .ok (.iload_n 0, 1) := by decide +kernel
theorem dJ6_bitCount_0f7a4_26 : decode cJ6_bitCount_0f7a4 26 = .ok (.iconst 4, 1) := by decide +kernel
theorem dJ6_bitCount_0f7a4_27 : decode cJ6_bitCount_0f7a4 27 = .ok (.iushr, 1) := by decide +kernel
theorem dJ6_bitCount_0f7a4_28 : decode cJ6_bitCount_0f7a4 28 = .ok (.iadd, 1) := by decide +kernel
theorem dJ6_bitCount_0f7a4_29 : decode cJ6_bitCount_0f7a4 29 = .ok (.ldc_w 267, 3) := by decide +kernel
theorem dJ6_bitCount_0f7a4_32 : decode cJ6_bitCount_0f7a4 32 = .ok (.iand, 1) := by decide +kernel
theorem dJ6_bitCount_0f7a4_33 : decode cJ6_bitCount_0f7a4 33 = .ok (.istore_n 0, 1) := by decide +kernel
theorem dJ6_bitCount_0f7a4_34 : decode cJ6_bitCount_0f7a4 34 = .ok (.iload_n 0, 1) := by decide +kernel
theorem dJ6_bitCount_0f7a4_35 : decode cJ6_bitCount_0f7a4 35 = .ok (.iload_n 0, 1) := by decide +kernel
theorem dJ6_bitCount_0f7a4_36 : decode cJ6_bitCount_0f7a4 36 = .ok (.bipush 8, 2) := by decide +kernel
theorem dJ6_bitCount_0f7a4_38 : decode cJ6_bitCount_0f7a4 38 = .ok (.iushr, 1) := by decide +kernel
theorem dJ6_bitCount_0f7a4_39 : decode cJ6_bitCount_0f7a4 39 = .ok (.iadd, 1) := by decide +kernel
theorem dJ6_bitCount_0f7a4_40 : decode cJ6_bitCount_0f7a4 40 = .ok (.istore_n 0, 1) := by decide +kernel
theorem dJ6_bitCount_0f7a4_41 : decode cJ6_bitCount_0f7a4 41 = .ok (.iload_n 0, 1) := by decide +kernel
theorem dJ6_bitCount_0f7a4_42 : decode cJ6_bitCount_0f7a4 42 = .ok (.iload_n 0, 1) := by decide +kernel
theorem dJ6_bitCount_0f7a4_43 : decode cJ6_bitCount_0f7a4 43 = .ok (.bipush 16, 2) := by decide +kernel
theorem dJ6_bitCount_0f7a4_45 : decode cJ6_bitCount_0f7a4 45 = .ok (.iushr, 1) := by decide +kernel
theorem dJ6_bitCount_0f7a4_46 : decode cJ6_bitCount_0f7a4 46 = .ok (.iadd, 1) := by decide +kernel
theorem dJ6_bitCount_0f7a4_47 : decode cJ6_bitCount_0f7a4 47 = .ok (.istore_n 0, 1) := by decide +kernel
theorem dJ6_bitCount_0f7a4_48 : decode cJ6_bitCount_0f7a4 48 = .ok (.iload_n 0, 1) := by decide +kernel
theorem dJ6_bitCount_0f7a4_49 : decode cJ6_bitCount_0f7a4 49 = .ok (.bipush 63, 2) := by decide +kernel
theorem dJ6_bitCount_0f7a4_51 : decode cJ6_bitCount_0f7a4 51 = .ok (.iand, 1) := by decide +kernel
theorem dJ6_bitCount_0f7a4_52 : decode cJ6_bitCount_0f7a4 52 = .ok (.ireturn, 1) := by decide +kernel
theorem dJ9_max_7cf53_0 : decode cJ9_max_7cf53 0 = .ok (.iload_n 0, 1) := by decide +kernel
theorem dJ9_max_7cf53_1 : decode cJ9_max_7cf53 1 = .ok (.iload_n 1, 1) := by decide +kernel
theorem dJ9_max_7cf53_2 : decode cJ9_max_7cf53 2 = .ok (.if_icmp .lt 7, 3) := by decide +kernel
theorem dJ9_max_7cf53_5 : decode cJ9_max_7cf53 5 = .ok (.iload_n 0, 1) := by decide +kernel
theorem dJ9_max_7cf53_6 : decode cJ9_max_7cf53 6 = .ok (.goto 4, 3) := by decide +kernel
theorem dJ9_max_7cf53_9 : decode cJ9_max_7cf53 9 = .ok (.iload_n 1, 1) := by decide +kernel
theorem dJ9_max_7cf53_10 : decode cJ9_max_7cf53 10 = .ok (.ireturn, 1) := by decide +kernel
theorem dJ9_min_7cf53_0 : decode cJ9_min_7cf53 0 = .ok (.iload_n 0, 1) := by decide +kernel
theorem dJ9_min_7cf53_1 : decode cJ9_min_7cf53 1 = .ok (.iload_n 1, 1) := by decide +kernel
theorem dJ9_min_7cf53_2 : decode cJ9_min_7cf53 2 = .ok (.if_icmp .gt 7, 3) := by decide +kernel
theorem dJ9_min_7cf53_5 : decode cJ9_min_7cf53 5 = .ok (.iload_n 0, 1) := by decide +kernel
theorem dJ9_min_7cf53_6 : decode cJ9_min_7cf53 6 = .ok (.goto 4, 3) := by decide +kernel
theorem dJ9_min_7cf53_9 : decode cJ9_min_7cf53 9 = .ok (.iload_n 1, 1) := by decide +kernel
theorem dJ9_min_7cf53_10 : decode cJ9_min_7cf53 10 = .ok (.ireturn, 1) := by decide +kernel
theorem dJ7_fill_53178_0 : decode cJ7_fill_53178 0 = .ok (.iconst 0, 1) := by decide +kernel
theorem dJ7_fill_53178_1 : decode cJ7_fill_53178 1 = .ok (.istore_n 2, 1) := by decide +kernel
theorem dJ7_fill_53178_2 : decode cJ7_fill_53178 2 = .ok (.aload_n 0, 1) := by decide +kernel
theorem dJ7_fill_53178_3 : decode cJ7_fill_53178 3 = .ok (.arraylength, 1) := by decide +kernel
theorem dJ7_fill_53178_4 : decode cJ7_fill_53178 4 = .ok (.istore_n 3, 1) := by decide +kernel
theorem dJ7_fill_53178_5 : decode cJ7_fill_53178 5 = .ok (.iload_n 2, 1) := by decide +kernel
theorem dJ7_fill_53178_6 : decode cJ7_fill_53178 6 = .ok (.iload_n 3, 1) := by decide +kernel
theorem dJ7_fill_53178_7 : decode cJ7_fill_53178 7 = .ok (.if_icmp .ge 13, 3) := by decide +kernel
theorem dJ7_fill_53178_10 : decode cJ7_fill_53178 10 = .ok (.aload_n 0, 1) := by decide +kernel
theorem dJ7_fill_53178_11 : decode cJ7_fill_53178 11 = .ok (.iload_n 2, 1) := by decide +kernel
theorem dJ7_fill_53178_12 : decode cJ7_fill_53178 12 = .ok (.iload_n 1, 1) := by decide +kernel
theorem dJ7_fill_53178_13 : decode cJ7_fill_53178 13 = .ok (.iastore, 1) := by decide +kernel
theorem dJ7_fill_53178_14 : decode cJ7_fill_53178 14 = .ok (.iinc 2 1, 3) := by decide +kernel
theorem dJ7_fill_53178_17 : decode cJ7_fill_53178 17 = .ok (.goto (-12), 3) := by decide +kernel
theorem dJ7_fill_53178_20 : decode cJ7_fill_53178 20 = .ok (.return_, 1) := by decide +kernel
abbrev vwCl : List vw_C := [(RX0, TX0, 0), (RX1, TX1, 0), (RX2, TX2, 12), (RX3, TX3, 12), (RX4, TX4, 0), (RX5, TX5, 0), (RX6, TX6, 6), (RX7, TX7, 7), (RX8, TX8, 5), (RX9, TX9, 0), (RX10, TX10, 0), (RX11, TX11, 17), (RX12, TX12, 36)]

theorem dX12_kind_30 : decode cX12_kind 30 = .ok (.aload_n 0, 1) := by decide +kernel
theorem dX12_kind_31 : decode cX12_kind 31 = .ok (.getfield 32, 3) := by decide +kernel
theorem dX12_kind_34 : decode cX12_kind 34 = .ok (.iload_n 1, 1) := by decide +kernel
theorem dX12_kind_35 : decode cX12_kind 35 = .ok (.iaload, 1) := by decide +kernel
theorem dX12_kind_36 : decode cX12_kind 36 = .ok (.goto 18, 3) := by decide +kernel
theorem dX12_kind_39 : decode cX12_kind 39 = .ok (.iload_n 2, 1) := by decide +kernel
theorem dX12_kind_40 : decode cX12_kind 40 = .ok (.iconst 2, 1) := by decide +kernel
theorem dX12_kind_41 : decode cX12_kind 41 = .ok (.if_icmp .ne 12, 3) := by decide +kernel
theorem dX12_kind_44 : decode cX12_kind 44 = .ok (.aload_n 0, 1) := by decide +kernel
theorem dX12_kind_45 : decode cX12_kind 45 = .ok (.getfield 35, 3) := by decide +kernel
theorem dX12_kind_48 : decode cX12_kind 48 = .ok (.iload_n 1, 1) := by decide +kernel
theorem dX12_kind_49 : decode cX12_kind 49 = .ok (.iaload, 1) := by decide +kernel
theorem dX12_kind_50 : decode cX12_kind 50 = .ok (.goto 4, 3) := by decide +kernel
theorem dX12_kind_53 : decode cX12_kind 53 = .ok (.iconst (-1), 1) := by decide +kernel
theorem dX12_kind_54 : decode cX12_kind 54 = .ok (.ireturn, 1) := by decide +kernel
theorem dX12_keepPast_0 : decode cX12_keepPast 0 = .ok (.aload_n 0, 1) := by decide +kernel
theorem dX12_keepPast_1 : decode cX12_keepPast 1 = .ok (.getfield 7, 3) := by decide +kernel
theorem dX12_keepPast_4 : decode cX12_keepPast 4 = .ok (.iconst 0, 1) := by decide +kernel
theorem dX12_keepPast_5 : decode cX12_keepPast 5 = .ok (.iaload, 1) := by decide +kernel
theorem dX12_keepPast_6 : decode cX12_keepPast 6 = .ok (.istore_n 1, 1) := by decide +kernel
theorem dX12_keepPast_7 : decode cX12_keepPast 7 = .ok (.iconst 0, 1) := by decide +kernel
theorem dX12_keepPast_8 : decode cX12_keepPast 8 = .ok (.istore_n 2, 1) := by decide +kernel
theorem dX12_keepPast_9 : decode cX12_keepPast 9 = .ok (.iload_n 2, 1) := by decide +kernel
theorem dX12_keepPast_10 : decode cX12_keepPast 10 = .ok (.sipush 1368, 3) := by decide +kernel
theorem dX12_keepPast_13 : decode cX12_keepPast 13 = .ok (.if_icmp .ge 35, 3) := by decide +kernel
theorem dX12_keepPast_16 : decode cX12_keepPast 16 = .ok (.iload_n 1, 1) := by decide +kernel
theorem dX12_keepPast_17 : decode cX12_keepPast 17 = .ok (.bipush 10, 2) := by decide +kernel
theorem dX12_keepPast_19 : decode cX12_keepPast 19 = .ok (.if_icmp .ne 29, 3) := by decide +kernel
theorem dX12_keepPast_22 : decode cX12_keepPast 22 = .ok (.aload_n 0, 1) := by decide +kernel
theorem dX12_keepPast_23 : decode cX12_keepPast 23 = .ok (.getfield 7, 3) := by decide +kernel
theorem dX12_keepPast_26 : decode cX12_keepPast 26 = .ok (.sipush 153, 3) := by decide +kernel
theorem dX12_keepPast_29 : decode cX12_keepPast 29 = .ok (.iload_n 2, 1) := by decide +kernel
theorem dX12_keepPast_30 : decode cX12_keepPast 30 = .ok (.iadd, 1) := by decide +kernel
theorem dX12_keepPast_31 : decode cX12_keepPast 31 = .ok (.aload_n 0, 1) := by decide +kernel
theorem dX12_keepPast_32 : decode cX12_keepPast 32 = .ok (.getfield 7, 3) := by decide +kernel
theorem dX12_keepPast_35 : decode cX12_keepPast 35 = .ok (.sipush 305, 3) := by decide +kernel
theorem dX12_keepPast_38 : decode cX12_keepPast 38 = .ok (.iload_n 2, 1) := by decide +kernel
theorem dX12_keepPast_39 : decode cX12_keepPast 39 = .ok (.iadd, 1) := by decide +kernel
theorem dX12_keepPast_40 : decode cX12_keepPast 40 = .ok (.iaload, 1) := by decide +kernel
theorem dX12_keepPast_41 : decode cX12_keepPast 41 = .ok (.iastore, 1) := by decide +kernel
theorem dX12_keepPast_42 : decode cX12_keepPast 42 = .ok (.iinc 2 1, 3) := by decide +kernel
theorem dX12_keepPast_45 : decode cX12_keepPast 45 = .ok (.goto (-36), 3) := by decide +kernel
theorem dX12_keepPast_48 : decode cX12_keepPast 48 = .ok (.iload_n 1, 1) := by decide +kernel
theorem dX12_keepPast_49 : decode cX12_keepPast 49 = .ok (.iload_n 1, 1) := by decide +kernel
theorem dX12_keepPast_50 : decode cX12_keepPast 50 = .ok (.bipush 10, 2) := by decide +kernel
theorem dX12_keepPast_52 : decode cX12_keepPast 52 = .ok (.if_icmp .ne 7, 3) := by decide +kernel
theorem dX12_keepPast_55 : decode cX12_keepPast 55 = .ok (.iconst 1, 1) := by decide +kernel
theorem dX12_keepPast_56 : decode cX12_keepPast 56 = .ok (.goto 4, 3) := by decide +kernel
theorem dX12_keepPast_59 : decode cX12_keepPast 59 = .ok (.iconst 0, 1) := by decide +kernel
theorem dX12_keepPast_60 : decode cX12_keepPast 60 = .ok (.isub, 1) := by decide +kernel
theorem dX12_keepPast_61 : decode cX12_keepPast 61 = .ok (.istore_n 1, 1) := by decide +kernel
theorem dX12_keepPast_62 : decode cX12_keepPast 62 = .ok (.iconst 0, 1) := by decide +kernel
theorem dX12_keepPast_63 : decode cX12_keepPast 63 = .ok (.istore_n 2, 1) := by decide +kernel
theorem dX12_keepPast_64 : decode cX12_keepPast 64 = .ok (.iload_n 2, 1) := by decide +kernel
theorem dX12_keepPast_65 : decode cX12_keepPast 65 = .ok (.sipush 152, 3) := by decide +kernel
theorem dX12_keepPast_68 : decode cX12_keepPast 68 = .ok (.if_icmp .ge 33, 3) := by decide +kernel
theorem dX12_keepPast_71 : decode cX12_keepPast 71 = .ok (.aload_n 0, 1) := by decide +kernel
theorem dX12_keepPast_72 : decode cX12_keepPast 72 = .ok (.getfield 7, 3) := by decide +kernel
theorem dX12_keepPast_75 : decode cX12_keepPast 75 = .ok (.iconst 1, 1) := by decide +kernel
theorem dX12_keepPast_76 : decode cX12_keepPast 76 = .ok (.sipush 152, 3) := by decide +kernel
theorem dX12_keepPast_79 : decode cX12_keepPast 79 = .ok (.iconst 1, 1) := by decide +kernel
theorem dX12_keepPast_80 : decode cX12_keepPast 80 = .ok (.iload_n 1, 1) := by decide +kernel
theorem dX12_keepPast_81 : decode cX12_keepPast 81 = .ok (.iadd, 1) := by decide +kernel
theorem dX12_keepPast_82 : decode cX12_keepPast 82 = .ok (.imul, 1) := by decide +kernel
theorem dX12_keepPast_83 : decode cX12_keepPast 83 = .ok (.iadd, 1) := by decide +kernel
theorem dX12_keepPast_84 : decode cX12_keepPast 84 = .ok (.iload_n 2, 1) := by decide +kernel
theorem dX12_keepPast_85 : decode cX12_keepPast 85 = .ok (.iadd, 1) := by decide +kernel
theorem dX12_keepPast_86 : decode cX12_keepPast 86 = .ok (.aload_n 0, 1) := by decide +kernel
theorem dX12_keepPast_87 : decode cX12_keepPast 87 = .ok (.getfield 7, 3) := by decide +kernel
theorem dX12_keepPast_90 : decode cX12_keepPast 90 = .ok (.iconst 1, 1) := by decide +kernel
theorem dX12_keepPast_91 : decode cX12_keepPast 91 = .ok (.iload_n 2, 1) := by decide +kernel
theorem dX12_keepPast_92 : decode cX12_keepPast 92 = .ok (.iadd, 1) := by decide +kernel
theorem dX12_keepPast_93 : decode cX12_keepPast 93 = .ok (.iaload, 1) := by decide +kernel
theorem dX12_keepPast_94 : decode cX12_keepPast 94 = .ok (.iastore, 1) := by decide +kernel
theorem dX12_keepPast_95 : decode cX12_keepPast 95 = .ok (.iinc 2 1, 3) := by decide +kernel
theorem dX12_keepPast_98 : decode cX12_keepPast 98 = .ok (.goto (-34), 3) := by decide +kernel
theorem dX12_keepPast_101 : decode cX12_keepPast 101 = .ok (.aload_n 0, 1) := by decide +kernel
theorem dX12_keepPast_102 : decode cX12_keepPast 102 = .ok (.getfield 7, 3) := by decide +kernel
theorem dX12_keepPast_105 : decode cX12_keepPast 105 = .ok (.iconst 0, 1) := by decide +kernel
theorem dX12_keepPast_106 : decode cX12_keepPast 106 = .ok (.iload_n 1, 1) := by decide +kernel
theorem dX12_keepPast_107 : decode cX12_keepPast 107 = .ok (.iconst 1, 1) := by decide +kernel
theorem dX12_keepPast_108 : decode cX12_keepPast 108 = .ok (.iadd, 1) := by decide +kernel
theorem dX12_keepPast_109 : decode cX12_keepPast 109 = .ok (.iastore, 1) := by decide +kernel
theorem dX12_keepPast_110 : decode cX12_keepPast 110 = .ok (.return_, 1) := by decide +kernel
set_option maxRecDepth 20000 in
theorem ggX12_lying_X12_cells : GoodIn wsX12_lying wsX12_cells := goodIn_r _ [5, 6, 7, 14, 15, 16, 17, 18, 19, 20, 21, 22, 23, 24, 25, 26, 27, 28, 29, 30, 31, 32, 33, 34, 35, 36, 37, 38, 39, 40, 41, 42, 43, 44, 45, 46, 47, 48, 49] (by decide +kernel) (by decide +kernel)
set_option maxRecDepth 20000 in
theorem gX12_lying_X12_cells : GoodIn wsX12_lying (wsV RX12 223 RX12 yX12_cells wsX12_cells) := goodIn_app (goodIn_of _ (by decide +kernel)) ggX12_lying_X12_cells
set_option maxRecDepth 20000 in
theorem ggX12_lying_X12_liesOn : GoodIn wsX12_lying wsX12_liesOn := goodIn_r _ [11, 12, 13, 14, 15, 16, 17, 18, 19, 20, 21, 22, 23, 24, 25, 26, 27, 28, 29, 30, 31, 32, 33, 34, 35, 36, 37, 38, 39, 40, 41, 42, 43, 44, 45, 46, 47, 48, 49] (by decide +kernel) (by decide +kernel)
set_option maxRecDepth 20000 in
theorem gX12_lying_X12_liesOn : GoodIn wsX12_lying (wsV RX12 214 RX12 yX12_liesOn wsX12_liesOn) := goodIn_app (goodIn_of _ (by decide +kernel)) ggX12_lying_X12_liesOn
theorem dX12_lying_0 : decode cX12_lying 0 = .ok (.iconst 0, 1) := by decide +kernel
theorem dX12_lying_1 : decode cX12_lying 1 = .ok (.istore_n 1, 1) := by decide +kernel
theorem dX12_lying_2 : decode cX12_lying 2 = .ok (.iconst 0, 1) := by decide +kernel
theorem dX12_lying_3 : decode cX12_lying 3 = .ok (.istore_n 2, 1) := by decide +kernel
theorem dX12_lying_4 : decode cX12_lying 4 = .ok (.iload_n 2, 1) := by decide +kernel
theorem dX12_lying_5 : decode cX12_lying 5 = .ok (.aload_n 0, 1) := by decide +kernel
theorem dX12_lying_6 : decode cX12_lying 6 = .ok (.invokevirtual 223, 3) := by decide +kernel
theorem dX12_lying_9 : decode cX12_lying 9 = .ok (.if_icmp .ge 17, 3) := by decide +kernel
theorem dX12_lying_12 : decode cX12_lying 12 = .ok (.iload_n 1, 1) := by decide +kernel
theorem dX12_lying_13 : decode cX12_lying 13 = .ok (.aload_n 0, 1) := by decide +kernel
theorem dX12_lying_14 : decode cX12_lying 14 = .ok (.iload_n 2, 1) := by decide +kernel
theorem dX12_lying_15 : decode cX12_lying 15 = .ok (.invokevirtual 214, 3) := by decide +kernel
theorem dX12_lying_18 : decode cX12_lying 18 = .ok (.iadd, 1) := by decide +kernel
theorem dX12_lying_19 : decode cX12_lying 19 = .ok (.istore_n 1, 1) := by decide +kernel
theorem dX12_lying_20 : decode cX12_lying 20 = .ok (.iinc 2 1, 3) := by decide +kernel
theorem dX12_lying_23 : decode cX12_lying 23 = .ok (.goto (-19), 3) := by decide +kernel
theorem dX12_lying_26 : decode cX12_lying 26 = .ok (.iload_n 1, 1) := by decide +kernel
theorem dX12_lying_27 : decode cX12_lying 27 = .ok (.ireturn, 1) := by decide +kernel
set_option maxRecDepth 20000 in
theorem ggX12_sumFrom_X12_cells : GoodIn wsX12_sumFrom wsX12_cells := goodIn_r _ [6, 7, 8, 9, 10, 11, 12, 13, 14, 15, 16, 17, 18, 19, 20, 21, 22, 23, 24, 25, 26, 27, 28, 29, 30, 31, 32, 33, 34, 35, 36, 37, 38, 39, 40, 41, 42, 43, 44] (by decide +kernel) (by decide +kernel)
set_option maxRecDepth 20000 in
theorem gX12_sumFrom_X12_cells : GoodIn wsX12_sumFrom (wsV RX12 223 RX12 yX12_cells wsX12_cells) := goodIn_app (goodIn_of _ (by decide +kernel)) ggX12_sumFrom_X12_cells
theorem dX12_sumFrom_0 : decode cX12_sumFrom 0 = .ok (.iconst 0, 1) := by decide +kernel
theorem dX12_sumFrom_1 : decode cX12_sumFrom 1 = .ok (.istore_n 2, 1) := by decide +kernel
theorem dX12_sumFrom_2 : decode cX12_sumFrom 2 = .ok (.iconst 0, 1) := by decide +kernel
theorem dX12_sumFrom_3 : decode cX12_sumFrom 3 = .ok (.istore_n 3, 1) := by decide +kernel
theorem dX12_sumFrom_4 : decode cX12_sumFrom 4 = .ok (.iload_n 3, 1) := by decide +kernel
theorem dX12_sumFrom_5 : decode cX12_sumFrom 5 = .ok (.aload_n 0, 1) := by decide +kernel
theorem dX12_sumFrom_6 : decode cX12_sumFrom 6 = .ok (.invokevirtual 223, 3) := by decide +kernel
theorem dX12_sumFrom_9 : decode cX12_sumFrom 9 = .ok (.if_icmp .ge 20, 3) := by decide +kernel
theorem dX12_sumFrom_12 : decode cX12_sumFrom 12 = .ok (.iload_n 2, 1) := by decide +kernel
theorem dX12_sumFrom_13 : decode cX12_sumFrom 13 = .ok (.aload_n 0, 1) := by decide +kernel
theorem dX12_sumFrom_14 : decode cX12_sumFrom 14 = .ok (.getfield 7, 3) := by decide +kernel
theorem dX12_sumFrom_17 : decode cX12_sumFrom 17 = .ok (.iload_n 1, 1) := by decide +kernel
theorem dX12_sumFrom_18 : decode cX12_sumFrom 18 = .ok (.iload_n 3, 1) := by decide +kernel
theorem dX12_sumFrom_19 : decode cX12_sumFrom 19 = .ok (.iadd, 1) := by decide +kernel
theorem dX12_sumFrom_20 : decode cX12_sumFrom 20 = .ok (.iaload, 1) := by decide +kernel
theorem dX12_sumFrom_21 : decode cX12_sumFrom 21 = .ok (.iadd, 1) := by decide +kernel
theorem dX12_sumFrom_22 : decode cX12_sumFrom 22 = .ok (.istore_n 2, 1) := by decide +kernel
theorem dX12_sumFrom_23 : decode cX12_sumFrom 23 = .ok (.iinc 3 1, 3) := by decide +kernel
theorem dX12_sumFrom_26 : decode cX12_sumFrom 26 = .ok (.goto (-22), 3) := by decide +kernel
theorem dX12_sumFrom_29 : decode cX12_sumFrom 29 = .ok (.iload_n 2, 1) := by decide +kernel
theorem dX12_sumFrom_30 : decode cX12_sumFrom 30 = .ok (.ireturn, 1) := by decide +kernel
set_option maxRecDepth 20000 in
theorem ggX12_lets_X12_isKind : GoodIn wsX12_lets wsX12_isKind := goodIn_r _ [8, 9, 10, 11, 7, 12, 99, 100, 101, 102, 103, 104, 105, 106, 107, 108, 109, 110, 111, 112, 113, 114, 115, 116, 117, 118, 119, 120, 121, 122, 123, 124, 125, 126, 127, 128, 129, 130, 131, 132, 133, 134] (by decide +kernel) (by decide +kernel)
set_option maxRecDepth 20000 in
theorem gX12_lets_X12_isKind : GoodIn wsX12_lets (wsV RX12 220 RX12 yX12_isKind wsX12_isKind) := goodIn_app (goodIn_of _ (by decide +kernel)) ggX12_lets_X12_isKind
set_option maxRecDepth 20000 in
theorem ggX12_lets_X12_isCell : GoodIn wsX12_lets wsX12_isCell := goodIn_r _ [16, 17, 18, 10, 11, 7, 12, 99, 100, 101, 102, 103, 104, 105, 106, 107, 108, 109, 110, 111, 112, 113, 114, 115, 116, 117, 118, 119, 120, 121, 122, 123, 124, 125, 126, 127, 128, 129, 130, 131, 132, 133, 134] (by decide +kernel) (by decide +kernel)
set_option maxRecDepth 20000 in
theorem gX12_lets_X12_isCell : GoodIn wsX12_lets (wsV RX12 160 RX12 yX12_isCell wsX12_isCell) := goodIn_app (goodIn_of _ (by decide +kernel)) ggX12_lets_X12_isCell
set_option maxRecDepth 20000 in
theorem ggX12_lets_X12_lying : GoodIn wsX12_lets wsX12_lying := goodIn_r _ [22, 23, 24, 25, 7, 26, 17, 18, 27, 28, 29, 30, 2, 31, 99, 100, 101, 102, 103, 104, 105, 106, 107, 108, 109, 110, 111, 112, 113, 114, 115, 116, 117, 118, 119, 120, 121, 122, 123, 124, 125, 126, 127, 128, 129, 130, 131, 132, 133, 134] (by decide +kernel) (by decide +kernel)
set_option maxRecDepth 20000 in
theorem gX12_lets_X12_lying : GoodIn wsX12_lets (wsV RX12 226 RX12 yX12_lying wsX12_lying) := goodIn_app (goodIn_of _ (by decide +kernel)) ggX12_lets_X12_lying
set_option maxRecDepth 20000 in
theorem ggX12_lets_X12_sumFrom : GoodIn wsX12_lets wsX12_sumFrom := goodIn_r _ [35, 2, 23, 24, 25, 7, 26, 17, 18, 99, 100, 101, 102, 103, 104, 105, 106, 107, 108, 109, 110, 111, 112, 113, 114, 115, 116, 117, 118, 119, 120, 121, 122, 123, 124, 125, 126, 127, 128, 129, 130, 131, 132, 133, 134] (by decide +kernel) (by decide +kernel)
set_option maxRecDepth 20000 in
theorem gX12_lets_X12_sumFrom : GoodIn wsX12_lets (wsV RX12 229 RX12 yX12_sumFrom wsX12_sumFrom) := goodIn_app (goodIn_of _ (by decide +kernel)) ggX12_lets_X12_sumFrom
set_option maxRecDepth 20000 in
theorem ggX12_lets_X12_keepPast : GoodIn wsX12_lets wsX12_keepPast := goodIn_r _ [39, 2, 99, 100, 101, 102, 103, 104, 105, 106, 107, 108, 109, 110, 111, 112, 113, 114, 115, 116, 117, 118, 119, 120, 121, 122, 123, 124, 125, 126, 127, 128, 129, 130, 131, 132, 133, 134] (by decide +kernel) (by decide +kernel)
set_option maxRecDepth 20000 in
theorem gX12_lets_X12_keepPast : GoodIn wsX12_lets (wsV RX12 232 RX12 yX12_keepPast wsX12_keepPast) := goodIn_app (goodIn_of _ (by decide +kernel)) ggX12_lets_X12_keepPast
set_option maxRecDepth 20000 in
theorem ggX12_lets_X12_bit : GoodIn wsX12_lets wsX12_bit := goodIn_r _ [43, 17, 99, 100, 101, 102, 103, 104, 105, 106, 107, 108, 109, 110, 111, 112, 113, 114, 115, 116, 117, 118, 119, 120, 121, 122, 123, 124, 125, 126, 127, 128, 129, 130, 131, 132, 133, 134] (by decide +kernel) (by decide +kernel)
set_option maxRecDepth 20000 in
theorem gX12_lets_X12_bit : GoodIn wsX12_lets (wsV RX12 164 RX12 yX12_bit wsX12_bit) := goodIn_app (goodIn_of _ (by decide +kernel)) ggX12_lets_X12_bit
set_option maxRecDepth 20000 in
theorem ggX12_lets_X12_rollKind : GoodIn wsX12_lets wsX12_rollKind := goodIn_r _ [47, 48, 49, 50, 51, 52, 7, 53, 54, 55, 56, 1, 57, 58, 59, 60, 2, 61, 62, 63, 64, 65, 66, 67, 68, 69, 70, 17, 18, 71, 72, 73, 74, 75, 76, 77, 78, 79, 80, 81, 82, 83, 84, 85, 86, 87, 88, 89, 90, 99, 100, 101, 102, 103, 104, 105, 106, 107, 108, 109, 110, 111, 112, 113, 114, 115, 116, 117, 118, 119, 120, 121, 122, 123, 124, 125, 126, 127, 128, 129, 130, 131, 132, 133, 134] (by decide +kernel) (by decide +kernel)
set_option maxRecDepth 20000 in
theorem gX12_lets_X12_rollKind : GoodIn wsX12_lets (wsV RX12 210 RX12 yX12_rollKind wsX12_rollKind) := goodIn_app (goodIn_of _ (by decide +kernel)) ggX12_lets_X12_rollKind
set_option maxRecDepth 20000 in
theorem ggX12_lets_X12_toldEnd : GoodIn wsX12_lets wsX12_toldEnd := goodIn_r _ [94, 1, 95, 96, 97, 7, 98, 17, 99, 100, 101, 102, 103, 104, 105, 106, 107, 108, 109, 110, 111, 112, 113, 114, 115, 116, 117, 118, 119, 120, 121, 122, 123, 124, 125, 126, 127, 128, 129, 130, 131, 132, 133, 134] (by decide +kernel) (by decide +kernel)
set_option maxRecDepth 20000 in
theorem gX12_lets_X12_toldEnd : GoodIn wsX12_lets (wsV RX12 235 RX12 yX12_toldEnd wsX12_toldEnd) := goodIn_app (goodIn_of _ (by decide +kernel)) ggX12_lets_X12_toldEnd
theorem dX12_lets_0 : decode cX12_lets 0 = .ok (.aload_n 0, 1) := by decide +kernel
theorem dX12_lets_1 : decode cX12_lets 1 = .ok (.iload_n 1, 1) := by decide +kernel
theorem dX12_lets_2 : decode cX12_lets 2 = .ok (.invokevirtual 220, 3) := by decide +kernel
theorem dX12_lets_5 : decode cX12_lets 5 = .ok (.ifCond .eq 12, 3) := by decide +kernel
theorem dX12_lets_8 : decode cX12_lets 8 = .ok (.aload_n 0, 1) := by decide +kernel
theorem dX12_lets_9 : decode cX12_lets 9 = .ok (.iload_n 2, 1) := by decide +kernel
theorem dX12_lets_10 : decode cX12_lets 10 = .ok (.iload_n 3, 1) := by decide +kernel
theorem dX12_lets_11 : decode cX12_lets 11 = .ok (.invokevirtual 160, 3) := by decide +kernel
theorem dX12_lets_14 : decode cX12_lets 14 = .ok (.ifCond .ne 5, 3) := by decide +kernel
theorem dX12_lets_17 : decode cX12_lets 17 = .ok (.iconst (-1), 1) := by decide +kernel
theorem dX12_lets_18 : decode cX12_lets 18 = .ok (.ireturn, 1) := by decide +kernel
theorem dX12_lets_19 : decode cX12_lets 19 = .ok (.aload_n 0, 1) := by decide +kernel
theorem dX12_lets_20 : decode cX12_lets 20 = .ok (.invokevirtual 226, 3) := by decide +kernel
theorem dX12_lets_23 : decode cX12_lets 23 = .ok (.aload_n 0, 1) := by decide +kernel
theorem dX12_lets_24 : decode cX12_lets 24 = .ok (.bipush 91, 2) := by decide +kernel
theorem dX12_lets_26 : decode cX12_lets 26 = .ok (.invokevirtual 229, 3) := by decide +kernel
theorem dX12_lets_29 : decode cX12_lets 29 = .ok (.iadd, 1) := by decide +kernel
theorem dX12_lets_30 : decode cX12_lets 30 = .ok (.sipush 999, 3) := by decide +kernel
theorem dX12_lets_33 : decode cX12_lets 33 = .ok (.if_icmp .ne 6, 3) := by decide +kernel
theorem dX12_lets_36 : decode cX12_lets 36 = .ok (.bipush (-2), 2) := by decide +kernel
theorem dX12_lets_38 : decode cX12_lets 38 = .ok (.ireturn, 1) := by decide +kernel
theorem dX12_lets_39 : decode cX12_lets 39 = .ok (.aload_n 0, 1) := by decide +kernel
theorem dX12_lets_40 : decode cX12_lets 40 = .ok (.invokevirtual 232, 3) := by decide +kernel
theorem dX12_lets_43 : decode cX12_lets 43 = .ok (.aload_n 0, 1) := by decide +kernel
theorem dX12_lets_44 : decode cX12_lets 44 = .ok (.iload_n 1, 1) := by decide +kernel
theorem dX12_lets_45 : decode cX12_lets 45 = .ok (.aload_n 0, 1) := by decide +kernel
theorem dX12_lets_46 : decode cX12_lets 46 = .ok (.iload_n 2, 1) := by decide +kernel
theorem dX12_lets_47 : decode cX12_lets 47 = .ok (.iload_n 3, 1) := by decide +kernel
theorem dX12_lets_48 : decode cX12_lets 48 = .ok (.invokevirtual 164, 3) := by decide +kernel
theorem dX12_lets_51 : decode cX12_lets 51 = .ok (.invokevirtual 210, 3) := by decide +kernel
theorem dX12_lets_54 : decode cX12_lets 54 = .ok (.aload_n 0, 1) := by decide +kernel
theorem dX12_lets_55 : decode cX12_lets 55 = .ok (.getfield 200, 3) := by decide +kernel
theorem dX12_lets_58 : decode cX12_lets 58 = .ok (.bipush 100, 2) := by decide +kernel
theorem dX12_lets_60 : decode cX12_lets 60 = .ok (.irem, 1) := by decide +kernel
theorem dX12_lets_61 : decode cX12_lets 61 = .ok (.istore 4, 2) := by decide +kernel
theorem dX12_lets_63 : decode cX12_lets 63 = .ok (.aload_n 0, 1) := by decide +kernel
theorem dX12_lets_64 : decode cX12_lets 64 = .ok (.getfield 200, 3) := by decide +kernel
theorem dX12_lets_67 : decode cX12_lets 67 = .ok (.bipush 100, 2) := by decide +kernel
theorem dX12_lets_69 : decode cX12_lets 69 = .ok (.if_icmp .lt 7, 3) := by decide +kernel
theorem dX12_lets_72 : decode cX12_lets 72 = .ok (.iconst 1, 1) := by decide +kernel
theorem dX12_lets_73 : decode cX12_lets 73 = .ok (.goto 4, 3) := by decide +kernel
theorem dX12_lets_76 : decode cX12_lets 76 = .ok (.iconst 0, 1) := by decide +kernel
theorem dX12_lets_77 : decode cX12_lets 77 = .ok (.istore 5, 2) := by decide +kernel
theorem dX12_lets_79 : decode cX12_lets 79 = .ok (.aload_n 0, 1) := by decide +kernel
theorem dX12_lets_80 : decode cX12_lets 80 = .ok (.getfield 7, 3) := by decide +kernel
theorem dX12_lets_83 : decode cX12_lets 83 = .ok (.iload 5, 2) := by decide +kernel
theorem dX12_lets_85 : decode cX12_lets 85 = .ok (.ifCond .eq 8, 3) := by decide +kernel
theorem dX12_lets_88 : decode cX12_lets 88 = .ok (.bipush 91, 2) := by decide +kernel
theorem dX12_lets_90 : decode cX12_lets 90 = .ok (.goto 5, 3) := by decide +kernel
theorem dX12_lets_93 : decode cX12_lets 93 = .ok (.bipush 31, 2) := by decide +kernel
theorem dX12_lets_95 : decode cX12_lets 95 = .ok (.iload 4, 2) := by decide +kernel
theorem dX12_lets_97 : decode cX12_lets 97 = .ok (.iadd, 1) := by decide +kernel
theorem dX12_lets_98 : decode cX12_lets 98 = .ok (.dup2, 1) := by decide +kernel
theorem dX12_lets_99 : decode cX12_lets 99 = .ok (.iaload, 1) := by decide +kernel
theorem dX12_lets_100 : decode cX12_lets 100 = .ok (.iconst 1, 1) := by decide +kernel
theorem dX12_lets_101 : decode cX12_lets 101 = .ok (.iadd, 1) := by decide +kernel
theorem dX12_lets_102 : decode cX12_lets 102 = .ok (.iastore, 1) := by decide +kernel
theorem dX12_lets_103 : decode cX12_lets 103 = .ok (.aload_n 0, 1) := by decide +kernel
theorem dX12_lets_104 : decode cX12_lets 104 = .ok (.getfield 7, 3) := by decide +kernel
theorem dX12_lets_107 : decode cX12_lets 107 = .ok (.iload 5, 2) := by decide +kernel
theorem dX12_lets_109 : decode cX12_lets 109 = .ok (.ifCond .eq 8, 3) := by decide +kernel
theorem dX12_lets_112 : decode cX12_lets 112 = .ok (.bipush 121, 2) := by decide +kernel
theorem dX12_lets_114 : decode cX12_lets 114 = .ok (.goto 5, 3) := by decide +kernel
theorem dX12_lets_117 : decode cX12_lets 117 = .ok (.bipush 61, 2) := by decide +kernel
theorem dX12_lets_119 : decode cX12_lets 119 = .ok (.iload 4, 2) := by decide +kernel
theorem dX12_lets_121 : decode cX12_lets 121 = .ok (.iadd, 1) := by decide +kernel
theorem dX12_lets_122 : decode cX12_lets 122 = .ok (.dup2, 1) := by decide +kernel
theorem dX12_lets_123 : decode cX12_lets 123 = .ok (.iaload, 1) := by decide +kernel
theorem dX12_lets_124 : decode cX12_lets 124 = .ok (.aload_n 0, 1) := by decide +kernel
theorem dX12_lets_125 : decode cX12_lets 125 = .ok (.getfield 32, 3) := by decide +kernel
theorem dX12_lets_128 : decode cX12_lets 128 = .ok (.iload_n 1, 1) := by decide +kernel
theorem dX12_lets_129 : decode cX12_lets 129 = .ok (.iaload, 1) := by decide +kernel
theorem dX12_lets_130 : decode cX12_lets 130 = .ok (.iadd, 1) := by decide +kernel
theorem dX12_lets_131 : decode cX12_lets 131 = .ok (.iastore, 1) := by decide +kernel
theorem dX12_lets_132 : decode cX12_lets 132 = .ok (.aload_n 0, 1) := by decide +kernel
theorem dX12_lets_133 : decode cX12_lets 133 = .ok (.invokevirtual 235, 3) := by decide +kernel
theorem dX12_lets_136 : decode cX12_lets 136 = .ok (.ireturn, 1) := by decide +kernel
set_option maxRecDepth 20000 in
theorem ggX12_planksNow_X12_isPlank : GoodIn wsX12_planksNow wsX12_isPlank := goodIn_r _ [5, 6, 7, 8, 9, 10, 11, 12, 13, 14, 15, 16, 17, 18, 19, 20, 21, 22, 23, 24, 25, 26, 27, 28, 29, 30, 31, 32, 33, 34, 35, 36, 37, 38, 39, 40, 41, 42] (by decide +kernel) (by decide +kernel)
set_option maxRecDepth 20000 in
theorem gX12_planksNow_X12_isPlank : GoodIn wsX12_planksNow (wsV RX12 181 RX12 yX12_isPlank wsX12_isPlank) := goodIn_app (goodIn_of _ (by decide +kernel)) ggX12_planksNow_X12_isPlank
theorem dX12_planksNow_0 : decode cX12_planksNow 0 = .ok (.iconst 0, 1) := by decide +kernel
theorem dX12_planksNow_1 : decode cX12_planksNow 1 = .ok (.istore_n 1, 1) := by decide +kernel
theorem dX12_planksNow_2 : decode cX12_planksNow 2 = .ok (.iconst 0, 1) := by decide +kernel
theorem dX12_planksNow_3 : decode cX12_planksNow 3 = .ok (.istore_n 2, 1) := by decide +kernel
theorem dX12_planksNow_4 : decode cX12_planksNow 4 = .ok (.iload_n 2, 1) := by decide +kernel
theorem dX12_planksNow_5 : decode cX12_planksNow 5 = .ok (.bipush 60, 2) := by decide +kernel
theorem dX12_planksNow_7 : decode cX12_planksNow 7 = .ok (.if_icmp .ge 25, 3) := by decide +kernel
theorem dX12_planksNow_10 : decode cX12_planksNow 10 = .ok (.iload_n 1, 1) := by decide +kernel
theorem dX12_planksNow_11 : decode cX12_planksNow 11 = .ok (.aload_n 0, 1) := by decide +kernel
theorem dX12_planksNow_12 : decode cX12_planksNow 12 = .ok (.iload_n 2, 1) := by decide +kernel
theorem dX12_planksNow_13 : decode cX12_planksNow 13 = .ok (.invokevirtual 181, 3) := by decide +kernel
theorem dX12_planksNow_16 : decode cX12_planksNow 16 = .ok (.ifCond .eq 7, 3) := by decide +kernel
theorem dX12_planksNow_19 : decode cX12_planksNow 19 = .ok (.iconst 1, 1) := by decide +kernel
theorem dX12_planksNow_20 : decode cX12_planksNow 20 = .ok (.goto 4, 3) := by decide +kernel
theorem dX12_planksNow_23 : decode cX12_planksNow 23 = .ok (.iconst 0, 1) := by decide +kernel
theorem dX12_planksNow_24 : decode cX12_planksNow 24 = .ok (.iadd, 1) := by decide +kernel
theorem dX12_planksNow_25 : decode cX12_planksNow 25 = .ok (.istore_n 1, 1) := by decide +kernel
theorem dX12_planksNow_26 : decode cX12_planksNow 26 = .ok (.iinc 2 1, 3) := by decide +kernel
theorem dX12_planksNow_29 : decode cX12_planksNow 29 = .ok (.goto (-25), 3) := by decide +kernel
theorem dX12_planksNow_32 : decode cX12_planksNow 32 = .ok (.iload_n 1, 1) := by decide +kernel
theorem dX12_planksNow_33 : decode cX12_planksNow 33 = .ok (.ireturn, 1) := by decide +kernel
set_option maxRecDepth 20000 in
theorem ggX12_sets_X12_isCell : GoodIn wsX12_sets wsX12_isCell := goodIn_r _ [6, 7, 8, 9, 10, 5, 11, 55, 56, 57, 58, 59, 60, 61, 62, 63, 64, 65, 66, 67, 68, 69, 70, 71, 72, 73, 74, 75, 76, 77, 78, 79, 80, 81, 82, 83, 84, 85, 86, 87, 88, 89, 90] (by decide +kernel) (by decide +kernel)
set_option maxRecDepth 20000 in
theorem gX12_sets_X12_isCell : GoodIn wsX12_sets (wsV RX12 160 RX12 yX12_isCell wsX12_isCell) := goodIn_app (goodIn_of _ (by decide +kernel)) ggX12_sets_X12_isCell
set_option maxRecDepth 20000 in
theorem ggX12_sets_X12_in : GoodIn wsX12_sets wsX12_in := goodIn_r _ [11] (by decide +kernel) (by decide +kernel)
set_option maxRecDepth 20000 in
theorem gX12_sets_X12_in : GoodIn wsX12_sets (va_wsS RX12 68 yX12_in wsX12_in) := goodIn_app (goodIn_of _ (by decide +kernel)) ggX12_sets_X12_in
set_option maxRecDepth 20000 in
theorem ggX12_sets_X12_bit : GoodIn wsX12_sets wsX12_bit := goodIn_r _ [15, 7, 55, 56, 57, 58, 59, 60, 61, 62, 63, 64, 65, 66, 67, 68, 69, 70, 71, 72, 73, 74, 75, 76, 77, 78, 79, 80, 81, 82, 83, 84, 85, 86, 87, 88, 89, 90] (by decide +kernel) (by decide +kernel)
set_option maxRecDepth 20000 in
theorem gX12_sets_X12_bit : GoodIn wsX12_sets (wsV RX12 164 RX12 yX12_bit wsX12_bit) := goodIn_app (goodIn_of _ (by decide +kernel)) ggX12_sets_X12_bit
set_option maxRecDepth 20000 in
theorem ggX12_sets_X12_isShut : GoodIn wsX12_sets wsX12_isShut := goodIn_r _ [19, 20, 21, 22, 23, 24, 5, 25, 7, 8, 26, 27, 28, 29, 30, 31, 32, 33, 34, 35, 36, 37, 38, 39, 40, 41, 42, 55, 56, 57, 58, 59, 60, 61, 62, 63, 64, 65, 66, 67, 68, 69, 70, 71, 72, 73, 74, 75, 76, 77, 78, 79, 80, 81, 82, 83, 84, 85, 86, 87, 88, 89, 90] (by decide +kernel) (by decide +kernel)
set_option maxRecDepth 20000 in
theorem gX12_sets_X12_isShut : GoodIn wsX12_sets (wsV RX12 184 RX12 yX12_isShut wsX12_isShut) := goodIn_app (goodIn_of _ (by decide +kernel)) ggX12_sets_X12_isShut
set_option maxRecDepth 20000 in
theorem ggX12_sets_X12_planksNow : GoodIn wsX12_sets wsX12_planksNow := goodIn_r _ [46, 38, 39, 40, 5, 41, 42, 55, 56, 57, 58, 59, 60, 61, 62, 63, 64, 65, 66, 67, 68, 69, 70, 71, 72, 73, 74, 75, 76, 77, 78, 79, 80, 81, 82, 83, 84, 85, 86, 87, 88, 89, 90] (by decide +kernel) (by decide +kernel)
set_option maxRecDepth 20000 in
theorem gX12_sets_X12_planksNow : GoodIn wsX12_sets (wsV RX12 240 RX12 yX12_planksNow wsX12_planksNow) := goodIn_app (goodIn_of _ (by decide +kernel)) ggX12_sets_X12_planksNow
set_option maxRecDepth 20000 in
theorem ggX12_sets_X12_keepPast : GoodIn wsX12_sets wsX12_keepPast := goodIn_r _ [50, 42, 55, 56, 57, 58, 59, 60, 61, 62, 63, 64, 65, 66, 67, 68, 69, 70, 71, 72, 73, 74, 75, 76, 77, 78, 79, 80, 81, 82, 83, 84, 85, 86, 87, 88, 89, 90] (by decide +kernel) (by decide +kernel)
set_option maxRecDepth 20000 in
theorem gX12_sets_X12_keepPast : GoodIn wsX12_sets (wsV RX12 232 RX12 yX12_keepPast wsX12_keepPast) := goodIn_app (goodIn_of _ (by decide +kernel)) ggX12_sets_X12_keepPast
set_option maxRecDepth 20000 in
theorem ggX12_sets_X12_sideOf : GoodIn wsX12_sets wsX12_sideOf := goodIn_r _ [29, 7, 55, 56, 57, 58, 59, 60, 61, 62, 63, 64, 65, 66, 67, 68, 69, 70, 71, 72, 73, 74, 75, 76, 77, 78, 79, 80, 81, 82, 83, 84, 85, 86, 87, 88, 89, 90] (by decide +kernel) (by decide +kernel)
set_option maxRecDepth 20000 in
theorem gX12_sets_X12_sideOf : GoodIn wsX12_sets (wsV RX12 174 RX12 yX12_sideOf wsX12_sideOf) := goodIn_app (goodIn_of _ (by decide +kernel)) ggX12_sets_X12_sideOf
set_option maxRecDepth 20000 in
theorem ggX12_sets_X12_setPlank : GoodIn wsX12_sets wsX12_setPlank := goodIn_r _ [54, 42, 55, 56, 57, 58, 59, 60, 61, 62, 63, 64, 65, 66, 67, 68, 69, 70, 71, 72, 73, 74, 75, 76, 77, 78, 79, 80, 81, 82, 83, 84, 85, 86, 87, 88, 89, 90] (by decide +kernel) (by decide +kernel)
set_option maxRecDepth 20000 in
theorem gX12_sets_X12_setPlank : GoodIn wsX12_sets (wsV RX12 243 RX12 yX12_setPlank wsX12_setPlank) := goodIn_app (goodIn_of _ (by decide +kernel)) ggX12_sets_X12_setPlank
theorem dX12_sets_0 : decode cX12_sets 0 = .ok (.aload_n 0, 1) := by decide +kernel
theorem dX12_sets_1 : decode cX12_sets 1 = .ok (.iload_n 1, 1) := by decide +kernel
theorem dX12_sets_2 : decode cX12_sets 2 = .ok (.iload_n 2, 1) := by decide +kernel
theorem dX12_sets_3 : decode cX12_sets 3 = .ok (.invokevirtual 160, 3) := by decide +kernel
theorem dX12_sets_6 : decode cX12_sets 6 = .ok (.ifCond .eq 15, 3) := by decide +kernel
theorem dX12_sets_9 : decode cX12_sets 9 = .ok (.iload_n 3, 1) := by decide +kernel
theorem dX12_sets_10 : decode cX12_sets 10 = .ok (.i2l, 1) := by decide +kernel
theorem dX12_sets_11 : decode cX12_sets 11 = .ok (.lconst 0, 1) := by decide +kernel
theorem dX12_sets_12 : decode cX12_sets 12 = .ok (.ldc2_w 238, 3) := by decide +kernel
theorem dX12_sets_15 : decode cX12_sets 15 = .ok (.invokestatic 68, 3) := by decide +kernel
theorem dX12_sets_18 : decode cX12_sets 18 = .ok (.ifCond .ne 5, 3) := by decide +kernel
theorem dX12_sets_21 : decode cX12_sets 21 = .ok (.iconst (-1), 1) := by decide +kernel
theorem dX12_sets_22 : decode cX12_sets 22 = .ok (.ireturn, 1) := by decide +kernel
theorem dX12_sets_23 : decode cX12_sets 23 = .ok (.aload_n 0, 1) := by decide +kernel
theorem dX12_sets_24 : decode cX12_sets 24 = .ok (.iload_n 1, 1) := by decide +kernel
theorem dX12_sets_25 : decode cX12_sets 25 = .ok (.iload_n 2, 1) := by decide +kernel
theorem dX12_sets_26 : decode cX12_sets 26 = .ok (.invokevirtual 164, 3) := by decide +kernel
theorem dX12_sets_29 : decode cX12_sets 29 = .ok (.istore 4, 2) := by decide +kernel
theorem dX12_sets_31 : decode cX12_sets 31 = .ok (.aload_n 0, 1) := by decide +kernel
theorem dX12_sets_32 : decode cX12_sets 32 = .ok (.iload 4, 2) := by decide +kernel
theorem dX12_sets_34 : decode cX12_sets 34 = .ok (.iload_n 3, 1) := by decide +kernel
theorem dX12_sets_35 : decode cX12_sets 35 = .ok (.invokevirtual 184, 3) := by decide +kernel
theorem dX12_sets_38 : decode cX12_sets 38 = .ok (.ifCond .eq 6, 3) := by decide +kernel
theorem dX12_sets_41 : decode cX12_sets 41 = .ok (.bipush (-2), 2) := by decide +kernel
theorem dX12_sets_43 : decode cX12_sets 43 = .ok (.ireturn, 1) := by decide +kernel
theorem dX12_sets_44 : decode cX12_sets 44 = .ok (.aload_n 0, 1) := by decide +kernel
theorem dX12_sets_45 : decode cX12_sets 45 = .ok (.invokevirtual 240, 3) := by decide +kernel
theorem dX12_sets_48 : decode cX12_sets 48 = .ok (.bipush 8, 2) := by decide +kernel
theorem dX12_sets_50 : decode cX12_sets 50 = .ok (.if_icmp .ne 6, 3) := by decide +kernel
theorem dX12_sets_53 : decode cX12_sets 53 = .ok (.bipush (-3), 2) := by decide +kernel
theorem dX12_sets_55 : decode cX12_sets 55 = .ok (.ireturn, 1) := by decide +kernel
theorem dX12_sets_56 : decode cX12_sets 56 = .ok (.aload_n 0, 1) := by decide +kernel
theorem dX12_sets_57 : decode cX12_sets 57 = .ok (.invokevirtual 232, 3) := by decide +kernel
theorem dX12_sets_60 : decode cX12_sets 60 = .ok (.aload_n 0, 1) := by decide +kernel
theorem dX12_sets_61 : decode cX12_sets 61 = .ok (.aload_n 0, 1) := by decide +kernel
theorem dX12_sets_62 : decode cX12_sets 62 = .ok (.iload 4, 2) := by decide +kernel
theorem dX12_sets_64 : decode cX12_sets 64 = .ok (.iload_n 3, 1) := by decide +kernel
theorem dX12_sets_65 : decode cX12_sets 65 = .ok (.invokevirtual 174, 3) := by decide +kernel
theorem dX12_sets_68 : decode cX12_sets 68 = .ok (.invokevirtual 243, 3) := by decide +kernel
theorem dX12_sets_71 : decode cX12_sets 71 = .ok (.aload_n 0, 1) := by decide +kernel
theorem dX12_sets_72 : decode cX12_sets 72 = .ok (.invokevirtual 240, 3) := by decide +kernel
theorem dX12_sets_75 : decode cX12_sets 75 = .ok (.ireturn, 1) := by decide +kernel
set_option maxRecDepth 20000 in
theorem ggX12_takes_X12_isCell : GoodIn wsX12_takes wsX12_isCell := goodIn_r _ [6, 7, 8, 9, 10, 5, 11, 41, 42, 43, 44, 45, 46, 47, 48, 49, 50, 51, 52, 53, 54, 55, 56, 57, 58, 59, 60, 61, 62, 63, 64, 65, 66, 67, 68, 69, 70, 71, 72, 73, 74, 75, 76] (by decide +kernel) (by decide +kernel)
set_option maxRecDepth 20000 in
theorem gX12_takes_X12_isCell : GoodIn wsX12_takes (wsV RX12 160 RX12 yX12_isCell wsX12_isCell) := goodIn_app (goodIn_of _ (by decide +kernel)) ggX12_takes_X12_isCell
set_option maxRecDepth 20000 in
theorem ggX12_takes_X12_in : GoodIn wsX12_takes wsX12_in := goodIn_r _ [11] (by decide +kernel) (by decide +kernel)
set_option maxRecDepth 20000 in
theorem gX12_takes_X12_in : GoodIn wsX12_takes (va_wsS RX12 68 yX12_in wsX12_in) := goodIn_app (goodIn_of _ (by decide +kernel)) ggX12_takes_X12_in
set_option maxRecDepth 20000 in
theorem ggX12_takes_X12_bit : GoodIn wsX12_takes wsX12_bit := goodIn_r _ [15, 7, 41, 42, 43, 44, 45, 46, 47, 48, 49, 50, 51, 52, 53, 54, 55, 56, 57, 58, 59, 60, 61, 62, 63, 64, 65, 66, 67, 68, 69, 70, 71, 72, 73, 74, 75, 76] (by decide +kernel) (by decide +kernel)
set_option maxRecDepth 20000 in
theorem gX12_takes_X12_bit : GoodIn wsX12_takes (wsV RX12 164 RX12 yX12_bit wsX12_bit) := goodIn_app (goodIn_of _ (by decide +kernel)) ggX12_takes_X12_bit
set_option maxRecDepth 20000 in
theorem ggX12_takes_X12_isEdge : GoodIn wsX12_takes wsX12_isEdge := goodIn_r _ [19, 7, 8, 41, 42, 43, 44, 45, 46, 47, 48, 49, 50, 51, 52, 53, 54, 55, 56, 57, 58, 59, 60, 61, 62, 63, 64, 65, 66, 67, 68, 69, 70, 71, 72, 73, 74, 75, 76] (by decide +kernel) (by decide +kernel)
set_option maxRecDepth 20000 in
theorem gX12_takes_X12_isEdge : GoodIn wsX12_takes (wsV RX12 171 RX12 yX12_isEdge wsX12_isEdge) := goodIn_app (goodIn_of _ (by decide +kernel)) ggX12_takes_X12_isEdge
set_option maxRecDepth 20000 in
theorem ggX12_takes_X12_sideOf : GoodIn wsX12_takes wsX12_sideOf := goodIn_r _ [23, 7, 41, 42, 43, 44, 45, 46, 47, 48, 49, 50, 51, 52, 53, 54, 55, 56, 57, 58, 59, 60, 61, 62, 63, 64, 65, 66, 67, 68, 69, 70, 71, 72, 73, 74, 75, 76] (by decide +kernel) (by decide +kernel)
set_option maxRecDepth 20000 in
theorem gX12_takes_X12_sideOf : GoodIn wsX12_takes (wsV RX12 174 RX12 yX12_sideOf wsX12_sideOf) := goodIn_app (goodIn_of _ (by decide +kernel)) ggX12_takes_X12_sideOf
set_option maxRecDepth 20000 in
theorem ggX12_takes_X12_isPlank : GoodIn wsX12_takes wsX12_isPlank := goodIn_r _ [27, 28, 41, 42, 43, 44, 45, 46, 47, 48, 49, 50, 51, 52, 53, 54, 55, 56, 57, 58, 59, 60, 61, 62, 63, 64, 65, 66, 67, 68, 69, 70, 71, 72, 73, 74, 75, 76] (by decide +kernel) (by decide +kernel)
set_option maxRecDepth 20000 in
theorem gX12_takes_X12_isPlank : GoodIn wsX12_takes (wsV RX12 181 RX12 yX12_isPlank wsX12_isPlank) := goodIn_app (goodIn_of _ (by decide +kernel)) ggX12_takes_X12_isPlank
set_option maxRecDepth 20000 in
theorem ggX12_takes_X12_keepPast : GoodIn wsX12_takes wsX12_keepPast := goodIn_r _ [32, 28, 41, 42, 43, 44, 45, 46, 47, 48, 49, 50, 51, 52, 53, 54, 55, 56, 57, 58, 59, 60, 61, 62, 63, 64, 65, 66, 67, 68, 69, 70, 71, 72, 73, 74, 75, 76] (by decide +kernel) (by decide +kernel)
set_option maxRecDepth 20000 in
theorem gX12_takes_X12_keepPast : GoodIn wsX12_takes (wsV RX12 232 RX12 yX12_keepPast wsX12_keepPast) := goodIn_app (goodIn_of _ (by decide +kernel)) ggX12_takes_X12_keepPast
set_option maxRecDepth 20000 in
theorem ggX12_takes_X12_setPlank : GoodIn wsX12_takes wsX12_setPlank := goodIn_r _ [36, 28, 41, 42, 43, 44, 45, 46, 47, 48, 49, 50, 51, 52, 53, 54, 55, 56, 57, 58, 59, 60, 61, 62, 63, 64, 65, 66, 67, 68, 69, 70, 71, 72, 73, 74, 75, 76] (by decide +kernel) (by decide +kernel)
set_option maxRecDepth 20000 in
theorem gX12_takes_X12_setPlank : GoodIn wsX12_takes (wsV RX12 243 RX12 yX12_setPlank wsX12_setPlank) := goodIn_app (goodIn_of _ (by decide +kernel)) ggX12_takes_X12_setPlank
set_option maxRecDepth 20000 in
theorem ggX12_takes_X12_planksNow : GoodIn wsX12_takes wsX12_planksNow := goodIn_r _ [40, 24, 25, 26, 5, 27, 28, 41, 42, 43, 44, 45, 46, 47, 48, 49, 50, 51, 52, 53, 54, 55, 56, 57, 58, 59, 60, 61, 62, 63, 64, 65, 66, 67, 68, 69, 70, 71, 72, 73, 74, 75, 76] (by decide +kernel) (by decide +kernel)
set_option maxRecDepth 20000 in
theorem gX12_takes_X12_planksNow : GoodIn wsX12_takes (wsV RX12 240 RX12 yX12_planksNow wsX12_planksNow) := goodIn_app (goodIn_of _ (by decide +kernel)) ggX12_takes_X12_planksNow
theorem dX12_takes_0 : decode cX12_takes 0 = .ok (.aload_n 0, 1) := by decide +kernel
theorem dX12_takes_1 : decode cX12_takes 1 = .ok (.iload_n 1, 1) := by decide +kernel
theorem dX12_takes_2 : decode cX12_takes 2 = .ok (.iload_n 2, 1) := by decide +kernel
theorem dX12_takes_3 : decode cX12_takes 3 = .ok (.invokevirtual 160, 3) := by decide +kernel
theorem dX12_takes_6 : decode cX12_takes 6 = .ok (.ifCond .eq 15, 3) := by decide +kernel
theorem dX12_takes_9 : decode cX12_takes 9 = .ok (.iload_n 3, 1) := by decide +kernel
theorem dX12_takes_10 : decode cX12_takes 10 = .ok (.i2l, 1) := by decide +kernel
theorem dX12_takes_11 : decode cX12_takes 11 = .ok (.lconst 0, 1) := by decide +kernel
theorem dX12_takes_12 : decode cX12_takes 12 = .ok (.ldc2_w 238, 3) := by decide +kernel
theorem dX12_takes_15 : decode cX12_takes 15 = .ok (.invokestatic 68, 3) := by decide +kernel
theorem dX12_takes_18 : decode cX12_takes 18 = .ok (.ifCond .ne 5, 3) := by decide +kernel
theorem dX12_takes_21 : decode cX12_takes 21 = .ok (.iconst (-1), 1) := by decide +kernel
theorem dX12_takes_22 : decode cX12_takes 22 = .ok (.ireturn, 1) := by decide +kernel
theorem dX12_takes_23 : decode cX12_takes 23 = .ok (.aload_n 0, 1) := by decide +kernel
theorem dX12_takes_24 : decode cX12_takes 24 = .ok (.iload_n 1, 1) := by decide +kernel
theorem dX12_takes_25 : decode cX12_takes 25 = .ok (.iload_n 2, 1) := by decide +kernel
theorem dX12_takes_26 : decode cX12_takes 26 = .ok (.invokevirtual 164, 3) := by decide +kernel
theorem dX12_takes_29 : decode cX12_takes 29 = .ok (.istore 4, 2) := by decide +kernel
theorem dX12_takes_31 : decode cX12_takes 31 = .ok (.aload_n 0, 1) := by decide +kernel
theorem dX12_takes_32 : decode cX12_takes 32 = .ok (.iload 4, 2) := by decide +kernel
theorem dX12_takes_34 : decode cX12_takes 34 = .ok (.iload_n 3, 1) := by decide +kernel
theorem dX12_takes_35 : decode cX12_takes 35 = .ok (.invokevirtual 171, 3) := by decide +kernel
theorem dX12_takes_38 : decode cX12_takes 38 = .ok (.ifCond .ne 17, 3) := by decide +kernel
theorem dX12_takes_41 : decode cX12_takes 41 = .ok (.aload_n 0, 1) := by decide +kernel
theorem dX12_takes_42 : decode cX12_takes 42 = .ok (.aload_n 0, 1) := by decide +kernel
theorem dX12_takes_43 : decode cX12_takes 43 = .ok (.iload 4, 2) := by decide +kernel
theorem dX12_takes_45 : decode cX12_takes 45 = .ok (.iload_n 3, 1) := by decide +kernel
theorem dX12_takes_46 : decode cX12_takes 46 = .ok (.invokevirtual 174, 3) := by decide +kernel
theorem dX12_takes_49 : decode cX12_takes 49 = .ok (.invokevirtual 181, 3) := by decide +kernel
theorem dX12_takes_52 : decode cX12_takes 52 = .ok (.ifCond .ne 6, 3) := by decide +kernel
theorem dX12_takes_55 : decode cX12_takes 55 = .ok (.bipush (-2), 2) := by decide +kernel
theorem dX12_takes_57 : decode cX12_takes 57 = .ok (.ireturn, 1) := by decide +kernel
theorem dX12_takes_58 : decode cX12_takes 58 = .ok (.aload_n 0, 1) := by decide +kernel
theorem dX12_takes_59 : decode cX12_takes 59 = .ok (.invokevirtual 232, 3) := by decide +kernel
theorem dX12_takes_62 : decode cX12_takes 62 = .ok (.aload_n 0, 1) := by decide +kernel
theorem dX12_takes_63 : decode cX12_takes 63 = .ok (.aload_n 0, 1) := by decide +kernel
theorem dX12_takes_64 : decode cX12_takes 64 = .ok (.iload 4, 2) := by decide +kernel
theorem dX12_takes_66 : decode cX12_takes 66 = .ok (.iload_n 3, 1) := by decide +kernel
theorem dX12_takes_67 : decode cX12_takes 67 = .ok (.invokevirtual 174, 3) := by decide +kernel
theorem dX12_takes_70 : decode cX12_takes 70 = .ok (.invokevirtual 243, 3) := by decide +kernel
theorem dX12_takes_73 : decode cX12_takes 73 = .ok (.aload_n 0, 1) := by decide +kernel
theorem dX12_takes_74 : decode cX12_takes 74 = .ok (.invokevirtual 240, 3) := by decide +kernel
theorem dX12_takes_77 : decode cX12_takes 77 = .ok (.ireturn, 1) := by decide +kernel
set_option maxRecDepth 20000 in
theorem ggX12_cobble_X12_isCell : GoodIn wsX12_cobble wsX12_isCell := goodIn_r _ [7, 8, 9, 10, 11, 6, 12, 21, 22, 23, 24, 25, 26, 27, 28, 29, 30, 31, 32, 33, 34, 35, 36, 37, 38, 39, 40, 41, 42, 43, 44, 45, 46, 47, 48, 49, 50, 51, 52, 53, 54, 55, 56] (by decide +kernel) (by decide +kernel)
set_option maxRecDepth 20000 in
theorem gX12_cobble_X12_isCell : GoodIn wsX12_cobble (wsV RX12 160 RX12 yX12_isCell wsX12_isCell) := goodIn_app (goodIn_of _ (by decide +kernel)) ggX12_cobble_X12_isCell
set_option maxRecDepth 20000 in
theorem ggX12_cobble_X12_in : GoodIn wsX12_cobble wsX12_in := goodIn_r _ [12] (by decide +kernel) (by decide +kernel)
set_option maxRecDepth 20000 in
theorem gX12_cobble_X12_in : GoodIn wsX12_cobble (va_wsS RX12 68 yX12_in wsX12_in) := goodIn_app (goodIn_of _ (by decide +kernel)) ggX12_cobble_X12_in
set_option maxRecDepth 20000 in
theorem ggX12_cobble_X12_bit : GoodIn wsX12_cobble wsX12_bit := goodIn_r _ [16, 8, 21, 22, 23, 24, 25, 26, 27, 28, 29, 30, 31, 32, 33, 34, 35, 36, 37, 38, 39, 40, 41, 42, 43, 44, 45, 46, 47, 48, 49, 50, 51, 52, 53, 54, 55, 56] (by decide +kernel) (by decide +kernel)
set_option maxRecDepth 20000 in
theorem gX12_cobble_X12_bit : GoodIn wsX12_cobble (wsV RX12 164 RX12 yX12_bit wsX12_bit) := goodIn_app (goodIn_of _ (by decide +kernel)) ggX12_cobble_X12_bit
set_option maxRecDepth 20000 in
theorem ggX12_cobble_X12_keepPast : GoodIn wsX12_cobble wsX12_keepPast := goodIn_r _ [20, 1, 21, 22, 23, 24, 25, 26, 27, 28, 29, 30, 31, 32, 33, 34, 35, 36, 37, 38, 39, 40, 41, 42, 43, 44, 45, 46, 47, 48, 49, 50, 51, 52, 53, 54, 55, 56] (by decide +kernel) (by decide +kernel)
set_option maxRecDepth 20000 in
theorem gX12_cobble_X12_keepPast : GoodIn wsX12_cobble (wsV RX12 232 RX12 yX12_keepPast wsX12_keepPast) := goodIn_app (goodIn_of _ (by decide +kernel)) ggX12_cobble_X12_keepPast
theorem dX12_cobble_0 : decode cX12_cobble 0 = .ok (.aload_n 0, 1) := by decide +kernel
theorem dX12_cobble_1 : decode cX12_cobble 1 = .ok (.iload_n 1, 1) := by decide +kernel
theorem dX12_cobble_2 : decode cX12_cobble 2 = .ok (.iload_n 2, 1) := by decide +kernel
theorem dX12_cobble_3 : decode cX12_cobble 3 = .ok (.invokevirtual 160, 3) := by decide +kernel
theorem dX12_cobble_6 : decode cX12_cobble 6 = .ok (.ifCond .eq 13, 3) := by decide +kernel
theorem dX12_cobble_9 : decode cX12_cobble 9 = .ok (.iload_n 3, 1) := by decide +kernel
theorem dX12_cobble_10 : decode cX12_cobble 10 = .ok (.i2l, 1) := by decide +kernel
theorem dX12_cobble_11 : decode cX12_cobble 11 = .ok (.lconst 0, 1) := by decide +kernel
theorem dX12_cobble_12 : decode cX12_cobble 12 = .ok (.lconst 1, 1) := by decide +kernel
theorem dX12_cobble_13 : decode cX12_cobble 13 = .ok (.invokestatic 68, 3) := by decide +kernel
theorem dX12_cobble_16 : decode cX12_cobble 16 = .ok (.ifCond .ne 5, 3) := by decide +kernel
theorem dX12_cobble_19 : decode cX12_cobble 19 = .ok (.iconst (-1), 1) := by decide +kernel
theorem dX12_cobble_20 : decode cX12_cobble 20 = .ok (.ireturn, 1) := by decide +kernel
theorem dX12_cobble_21 : decode cX12_cobble 21 = .ok (.aload_n 0, 1) := by decide +kernel
theorem dX12_cobble_22 : decode cX12_cobble 22 = .ok (.iload_n 1, 1) := by decide +kernel
theorem dX12_cobble_23 : decode cX12_cobble 23 = .ok (.iload_n 2, 1) := by decide +kernel
theorem dX12_cobble_24 : decode cX12_cobble 24 = .ok (.invokevirtual 164, 3) := by decide +kernel
theorem dX12_cobble_27 : decode cX12_cobble 27 = .ok (.istore 4, 2) := by decide +kernel
theorem dX12_cobble_29 : decode cX12_cobble 29 = .ok (.aload_n 0, 1) := by decide +kernel
theorem dX12_cobble_30 : decode cX12_cobble 30 = .ok (.getfield 7, 3) := by decide +kernel
theorem dX12_cobble_33 : decode cX12_cobble 33 = .ok (.iconst 1, 1) := by decide +kernel
theorem dX12_cobble_34 : decode cX12_cobble 34 = .ok (.iload 4, 2) := by decide +kernel
theorem dX12_cobble_36 : decode cX12_cobble 36 = .ok (.iadd, 1) := by decide +kernel
theorem dX12_cobble_37 : decode cX12_cobble 37 = .ok (.iaload, 1) := by decide +kernel
theorem dX12_cobble_38 : decode cX12_cobble 38 = .ok (.iload_n 3, 1) := by decide +kernel
theorem dX12_cobble_39 : decode cX12_cobble 39 = .ok (.iconst 1, 1) := by decide +kernel
theorem dX12_cobble_40 : decode cX12_cobble 40 = .ok (.if_icmp .ne 7, 3) := by decide +kernel
theorem dX12_cobble_43 : decode cX12_cobble 43 = .ok (.iconst 1, 1) := by decide +kernel
theorem dX12_cobble_44 : decode cX12_cobble 44 = .ok (.goto 4, 3) := by decide +kernel
theorem dX12_cobble_47 : decode cX12_cobble 47 = .ok (.iconst (-1), 1) := by decide +kernel
theorem dX12_cobble_48 : decode cX12_cobble 48 = .ok (.iadd, 1) := by decide +kernel
theorem dX12_cobble_49 : decode cX12_cobble 49 = .ok (.istore 5, 2) := by decide +kernel
theorem dX12_cobble_51 : decode cX12_cobble 51 = .ok (.iload 5, 2) := by decide +kernel
theorem dX12_cobble_53 : decode cX12_cobble 53 = .ok (.i2l, 1) := by decide +kernel
theorem dX12_cobble_54 : decode cX12_cobble 54 = .ok (.lconst 0, 1) := by decide +kernel
theorem dX12_cobble_55 : decode cX12_cobble 55 = .ok (.ldc2_w 247, 3) := by decide +kernel
theorem dX12_cobble_58 : decode cX12_cobble 58 = .ok (.invokestatic 68, 3) := by decide +kernel
theorem dX12_cobble_61 : decode cX12_cobble 61 = .ok (.ifCond .ne 6, 3) := by decide +kernel
theorem dX12_cobble_64 : decode cX12_cobble 64 = .ok (.bipush (-2), 2) := by decide +kernel
theorem dX12_cobble_66 : decode cX12_cobble 66 = .ok (.ireturn, 1) := by decide +kernel
theorem dX12_cobble_67 : decode cX12_cobble 67 = .ok (.aload_n 0, 1) := by decide +kernel
theorem dX12_cobble_68 : decode cX12_cobble 68 = .ok (.invokevirtual 232, 3) := by decide +kernel
theorem dX12_cobble_71 : decode cX12_cobble 71 = .ok (.aload_n 0, 1) := by decide +kernel
theorem dX12_cobble_72 : decode cX12_cobble 72 = .ok (.getfield 7, 3) := by decide +kernel
theorem dX12_cobble_75 : decode cX12_cobble 75 = .ok (.iconst 1, 1) := by decide +kernel
theorem dX12_cobble_76 : decode cX12_cobble 76 = .ok (.iload 4, 2) := by decide +kernel
theorem dX12_cobble_78 : decode cX12_cobble 78 = .ok (.iadd, 1) := by decide +kernel
theorem dX12_cobble_79 : decode cX12_cobble 79 = .ok (.iload 5, 2) := by decide +kernel
theorem dX12_cobble_81 : decode cX12_cobble 81 = .ok (.iastore, 1) := by decide +kernel
theorem dX12_cobble_82 : decode cX12_cobble 82 = .ok (.iload 5, 2) := by decide +kernel
theorem dX12_cobble_84 : decode cX12_cobble 84 = .ok (.ireturn, 1) := by decide +kernel
set_option maxRecDepth 20000 in
theorem ggX12_sweep_X12_isCell : GoodIn wsX12_sweep wsX12_isCell := goodIn_r _ [6, 7, 8, 9, 10, 5, 11, 25, 26, 27, 28, 29, 30, 31, 32, 33, 34, 35, 36, 37, 38, 39, 40, 41, 42, 43, 44, 45, 46, 47, 48, 49, 50, 51, 52, 53, 54, 55, 56, 57, 58, 59, 60] (by decide +kernel) (by decide +kernel)
set_option maxRecDepth 20000 in
theorem gX12_sweep_X12_isCell : GoodIn wsX12_sweep (wsV RX12 160 RX12 yX12_isCell wsX12_isCell) := goodIn_app (goodIn_of _ (by decide +kernel)) ggX12_sweep_X12_isCell
set_option maxRecDepth 20000 in
theorem ggX12_sweep_X12_bit : GoodIn wsX12_sweep wsX12_bit := goodIn_r _ [15, 7, 25, 26, 27, 28, 29, 30, 31, 32, 33, 34, 35, 36, 37, 38, 39, 40, 41, 42, 43, 44, 45, 46, 47, 48, 49, 50, 51, 52, 53, 54, 55, 56, 57, 58, 59, 60] (by decide +kernel) (by decide +kernel)
set_option maxRecDepth 20000 in
theorem gX12_sweep_X12_bit : GoodIn wsX12_sweep (wsV RX12 164 RX12 yX12_bit wsX12_bit) := goodIn_app (goodIn_of _ (by decide +kernel)) ggX12_sweep_X12_bit
set_option maxRecDepth 20000 in
theorem ggX12_sweep_X12_liesOn : GoodIn wsX12_sweep wsX12_liesOn := goodIn_r _ [19, 1, 20, 25, 26, 27, 28, 29, 30, 31, 32, 33, 34, 35, 36, 37, 38, 39, 40, 41, 42, 43, 44, 45, 46, 47, 48, 49, 50, 51, 52, 53, 54, 55, 56, 57, 58, 59, 60] (by decide +kernel) (by decide +kernel)
set_option maxRecDepth 20000 in
theorem gX12_sweep_X12_liesOn : GoodIn wsX12_sweep (wsV RX12 214 RX12 yX12_liesOn wsX12_liesOn) := goodIn_app (goodIn_of _ (by decide +kernel)) ggX12_sweep_X12_liesOn
set_option maxRecDepth 20000 in
theorem ggX12_sweep_X12_keepPast : GoodIn wsX12_sweep wsX12_keepPast := goodIn_r _ [24, 1, 25, 26, 27, 28, 29, 30, 31, 32, 33, 34, 35, 36, 37, 38, 39, 40, 41, 42, 43, 44, 45, 46, 47, 48, 49, 50, 51, 52, 53, 54, 55, 56, 57, 58, 59, 60] (by decide +kernel) (by decide +kernel)
set_option maxRecDepth 20000 in
theorem gX12_sweep_X12_keepPast : GoodIn wsX12_sweep (wsV RX12 232 RX12 yX12_keepPast wsX12_keepPast) := goodIn_app (goodIn_of _ (by decide +kernel)) ggX12_sweep_X12_keepPast
theorem dX12_sweep_0 : decode cX12_sweep 0 = .ok (.aload_n 0, 1) := by decide +kernel
theorem dX12_sweep_1 : decode cX12_sweep 1 = .ok (.iload_n 1, 1) := by decide +kernel
theorem dX12_sweep_2 : decode cX12_sweep 2 = .ok (.iload_n 2, 1) := by decide +kernel
theorem dX12_sweep_3 : decode cX12_sweep 3 = .ok (.invokevirtual 160, 3) := by decide +kernel
theorem dX12_sweep_6 : decode cX12_sweep 6 = .ok (.ifCond .ne 5, 3) := by decide +kernel
theorem dX12_sweep_9 : decode cX12_sweep 9 = .ok (.iconst (-1), 1) := by decide +kernel
theorem dX12_sweep_10 : decode cX12_sweep 10 = .ok (.ireturn, 1) := by decide +kernel
theorem dX12_sweep_11 : decode cX12_sweep 11 = .ok (.aload_n 0, 1) := by decide +kernel
theorem dX12_sweep_12 : decode cX12_sweep 12 = .ok (.iload_n 1, 1) := by decide +kernel
theorem dX12_sweep_13 : decode cX12_sweep 13 = .ok (.iload_n 2, 1) := by decide +kernel
theorem dX12_sweep_14 : decode cX12_sweep 14 = .ok (.invokevirtual 164, 3) := by decide +kernel
theorem dX12_sweep_17 : decode cX12_sweep 17 = .ok (.istore_n 3, 1) := by decide +kernel
theorem dX12_sweep_18 : decode cX12_sweep 18 = .ok (.aload_n 0, 1) := by decide +kernel
theorem dX12_sweep_19 : decode cX12_sweep 19 = .ok (.iload_n 3, 1) := by decide +kernel
theorem dX12_sweep_20 : decode cX12_sweep 20 = .ok (.invokevirtual 214, 3) := by decide +kernel
theorem dX12_sweep_23 : decode cX12_sweep 23 = .ok (.ifCond .ne 6, 3) := by decide +kernel
theorem dX12_sweep_26 : decode cX12_sweep 26 = .ok (.bipush (-2), 2) := by decide +kernel
theorem dX12_sweep_28 : decode cX12_sweep 28 = .ok (.ireturn, 1) := by decide +kernel
theorem dX12_sweep_29 : decode cX12_sweep 29 = .ok (.aload_n 0, 1) := by decide +kernel
theorem dX12_sweep_30 : decode cX12_sweep 30 = .ok (.invokevirtual 232, 3) := by decide +kernel
theorem dX12_sweep_33 : decode cX12_sweep 33 = .ok (.aload_n 0, 1) := by decide +kernel
theorem dX12_sweep_34 : decode cX12_sweep 34 = .ok (.getfield 7, 3) := by decide +kernel
theorem dX12_sweep_37 : decode cX12_sweep 37 = .ok (.bipush 61, 2) := by decide +kernel
theorem dX12_sweep_39 : decode cX12_sweep 39 = .ok (.iload_n 3, 1) := by decide +kernel
theorem dX12_sweep_40 : decode cX12_sweep 40 = .ok (.iadd, 1) := by decide +kernel
theorem dX12_sweep_41 : decode cX12_sweep 41 = .ok (.iaload, 1) := by decide +kernel
theorem dX12_sweep_42 : decode cX12_sweep 42 = .ok (.istore 4, 2) := by decide +kernel
theorem dX12_sweep_44 : decode cX12_sweep 44 = .ok (.aload_n 0, 1) := by decide +kernel
theorem dX12_sweep_45 : decode cX12_sweep 45 = .ok (.getfield 7, 3) := by decide +kernel
theorem dX12_sweep_48 : decode cX12_sweep 48 = .ok (.bipush 31, 2) := by decide +kernel
theorem dX12_sweep_50 : decode cX12_sweep 50 = .ok (.iload_n 3, 1) := by decide +kernel
theorem dX12_sweep_51 : decode cX12_sweep 51 = .ok (.iadd, 1) := by decide +kernel
theorem dX12_sweep_52 : decode cX12_sweep 52 = .ok (.dup2, 1) := by decide +kernel
theorem dX12_sweep_53 : decode cX12_sweep 53 = .ok (.iaload, 1) := by decide +kernel
theorem dX12_sweep_54 : decode cX12_sweep 54 = .ok (.aload_n 0, 1) := by decide +kernel
theorem dX12_sweep_55 : decode cX12_sweep 55 = .ok (.iload_n 3, 1) := by decide +kernel
theorem dX12_sweep_56 : decode cX12_sweep 56 = .ok (.invokevirtual 214, 3) := by decide +kernel
theorem dX12_sweep_59 : decode cX12_sweep 59 = .ok (.isub, 1) := by decide +kernel
theorem dX12_sweep_60 : decode cX12_sweep 60 = .ok (.iastore, 1) := by decide +kernel
theorem dX12_sweep_61 : decode cX12_sweep 61 = .ok (.aload_n 0, 1) := by decide +kernel
theorem dX12_sweep_62 : decode cX12_sweep 62 = .ok (.getfield 7, 3) := by decide +kernel
theorem dX12_sweep_65 : decode cX12_sweep 65 = .ok (.bipush 61, 2) := by decide +kernel
theorem dX12_sweep_67 : decode cX12_sweep 67 = .ok (.iload_n 3, 1) := by decide +kernel
theorem dX12_sweep_68 : decode cX12_sweep 68 = .ok (.iadd, 1) := by decide +kernel
theorem dX12_sweep_69 : decode cX12_sweep 69 = .ok (.iconst 0, 1) := by decide +kernel
theorem dX12_sweep_70 : decode cX12_sweep 70 = .ok (.iastore, 1) := by decide +kernel
theorem dX12_sweep_71 : decode cX12_sweep 71 = .ok (.iload 4, 2) := by decide +kernel
theorem dX12_sweep_73 : decode cX12_sweep 73 = .ok (.ireturn, 1) := by decide +kernel
theorem dX12_undo_0 : decode cX12_undo 0 = .ok (.aload_n 0, 1) := by decide +kernel
theorem dX12_undo_1 : decode cX12_undo 1 = .ok (.getfield 7, 3) := by decide +kernel
theorem dX12_undo_4 : decode cX12_undo 4 = .ok (.iconst 0, 1) := by decide +kernel
theorem dX12_undo_5 : decode cX12_undo 5 = .ok (.iaload, 1) := by decide +kernel
theorem dX12_undo_6 : decode cX12_undo 6 = .ok (.ifCond .ne 6, 3) := by decide +kernel
theorem dX12_undo_9 : decode cX12_undo 9 = .ok (.bipush (-2), 2) := by decide +kernel
theorem dX12_undo_11 : decode cX12_undo 11 = .ok (.ireturn, 1) := by decide +kernel
theorem dX12_undo_12 : decode cX12_undo 12 = .ok (.aload_n 0, 1) := by decide +kernel
theorem dX12_undo_13 : decode cX12_undo 13 = .ok (.getfield 7, 3) := by decide +kernel
theorem dX12_undo_16 : decode cX12_undo 16 = .ok (.iconst 0, 1) := by decide +kernel
theorem dX12_undo_17 : decode cX12_undo 17 = .ok (.dup2, 1) := by decide +kernel
theorem dX12_undo_18 : decode cX12_undo 18 = .ok (.iaload, 1) := by decide +kernel
theorem dX12_undo_19 : decode cX12_undo 19 = .ok (.iconst 1, 1) := by decide +kernel
theorem dX12_undo_20 : decode cX12_undo 20 = .ok (.isub, 1) := by decide +kernel
theorem dX12_undo_21 : decode cX12_undo 21 = .ok (.iastore, 1) := by decide +kernel
theorem dX12_undo_22 : decode cX12_undo 22 = .ok (.iconst 0, 1) := by decide +kernel
theorem dX12_undo_23 : decode cX12_undo 23 = .ok (.istore_n 1, 1) := by decide +kernel
theorem dX12_undo_24 : decode cX12_undo 24 = .ok (.iload_n 1, 1) := by decide +kernel
theorem dX12_undo_25 : decode cX12_undo 25 = .ok (.sipush 152, 3) := by decide +kernel
theorem dX12_undo_28 : decode cX12_undo 28 = .ok (.if_icmp .ge 38, 3) := by decide +kernel
theorem dX12_undo_31 : decode cX12_undo 31 = .ok (.aload_n 0, 1) := by decide +kernel
theorem dX12_undo_32 : decode cX12_undo 32 = .ok (.getfield 7, 3) := by decide +kernel
theorem dX12_undo_35 : decode cX12_undo 35 = .ok (.iconst 1, 1) := by decide +kernel
theorem dX12_undo_36 : decode cX12_undo 36 = .ok (.iload_n 1, 1) := by decide +kernel
theorem dX12_undo_37 : decode cX12_undo 37 = .ok (.iadd, 1) := by decide +kernel
theorem dX12_undo_38 : decode cX12_undo 38 = .ok (.aload_n 0, 1) := by decide +kernel
theorem dX12_undo_39 : decode cX12_undo 39 = .ok (.getfield 7, 3) := by decide +kernel
theorem dX12_undo_42 : decode cX12_undo 42 = .ok (.iconst 1, 1) := by decide +kernel
theorem dX12_undo_43 : decode cX12_undo 43 = .ok (.sipush 152, 3) := by decide +kernel
theorem dX12_undo_46 : decode cX12_undo 46 = .ok (.iconst 1, 1) := by decide +kernel
theorem dX12_undo_47 : decode cX12_undo 47 = .ok (.aload_n 0, 1) := by decide +kernel
theorem dX12_undo_48 : decode cX12_undo 48 = .ok (.getfield 7, 3) := by decide +kernel
theorem dX12_undo_51 : decode cX12_undo 51 = .ok (.iconst 0, 1) := by decide +kernel
theorem dX12_undo_52 : decode cX12_undo 52 = .ok (.iaload, 1) := by decide +kernel
theorem dX12_undo_53 : decode cX12_undo 53 = .ok (.iadd, 1) := by decide +kernel
theorem dX12_undo_54 : decode cX12_undo 54 = .ok (.imul, 1) := by decide +kernel
theorem dX12_undo_55 : decode cX12_undo 55 = .ok (.iadd, 1) := by decide +kernel
theorem dX12_undo_56 : decode cX12_undo 56 = .ok (.iload_n 1, 1) := by decide +kernel
theorem dX12_undo_57 : decode cX12_undo 57 = .ok (.iadd, 1) := by decide +kernel
theorem dX12_undo_58 : decode cX12_undo 58 = .ok (.iaload, 1) := by decide +kernel
theorem dX12_undo_59 : decode cX12_undo 59 = .ok (.iastore, 1) := by decide +kernel
theorem dX12_undo_60 : decode cX12_undo 60 = .ok (.iinc 1 1, 3) := by decide +kernel
theorem dX12_undo_63 : decode cX12_undo 63 = .ok (.goto (-39), 3) := by decide +kernel
theorem dX12_undo_66 : decode cX12_undo 66 = .ok (.aload_n 0, 1) := by decide +kernel
theorem dX12_undo_67 : decode cX12_undo 67 = .ok (.getfield 7, 3) := by decide +kernel
theorem dX12_undo_70 : decode cX12_undo 70 = .ok (.iconst 0, 1) := by decide +kernel
theorem dX12_undo_71 : decode cX12_undo 71 = .ok (.iaload, 1) := by decide +kernel
theorem dX12_undo_72 : decode cX12_undo 72 = .ok (.ireturn, 1) := by decide +kernel
set_option maxRecDepth 20000 in
theorem ggX12_isSo_X12_endOf : GoodIn wsX12_isSo wsX12_endOf := goodIn_r _ [7, 8, 9, 10, 11, 6, 12, 13, 14, 15, 16, 17, 18, 19, 20, 21, 22, 23, 24, 25, 26, 27, 28, 29, 30, 31, 32, 33, 34, 35, 36, 37, 38, 39, 40, 41, 42, 43, 44, 45, 46, 47, 48, 49, 50, 51, 52, 53, 54, 55, 56, 57, 58, 59, 60, 61, 62, 63, 64, 65, 66, 67, 68, 69, 70, 71, 72, 73, 74, 75, 76, 77, 78, 79, 80, 81, 82, 83, 84, 85, 86, 87, 88, 89, 90, 91, 92, 93, 94] (by decide +kernel) (by decide +kernel)
set_option maxRecDepth 20000 in
theorem gX12_isSo_X12_endOf : GoodIn wsX12_isSo (wsV RX12 249 RX12 yX12_endOf wsX12_endOf) := goodIn_app (goodIn_of _ (by decide +kernel)) ggX12_isSo_X12_endOf
theorem dX12_isSo_0 : decode cX12_isSo 0 = .ok (.iconst 1, 1) := by decide +kernel
theorem dX12_isSo_1 : decode cX12_isSo 1 = .ok (.istore_n 1, 1) := by decide +kernel
theorem dX12_isSo_2 : decode cX12_isSo 2 = .ok (.iconst 0, 1) := by decide +kernel
theorem dX12_isSo_3 : decode cX12_isSo 3 = .ok (.istore_n 2, 1) := by decide +kernel
theorem dX12_isSo_4 : decode cX12_isSo 4 = .ok (.iload_n 1, 1) := by decide +kernel
theorem dX12_isSo_5 : decode cX12_isSo 5 = .ok (.ifCond .eq 58, 3) := by decide +kernel
theorem dX12_isSo_8 : decode cX12_isSo 8 = .ok (.iload_n 2, 1) := by decide +kernel
theorem dX12_isSo_9 : decode cX12_isSo 9 = .ok (.aload_n 0, 1) := by decide +kernel
theorem dX12_isSo_10 : decode cX12_isSo 10 = .ok (.getfield 157, 3) := by decide +kernel
theorem dX12_isSo_13 : decode cX12_isSo 13 = .ok (.if_icmp .ge 50, 3) := by decide +kernel
theorem dX12_isSo_16 : decode cX12_isSo 16 = .ok (.aload_n 0, 1) := by decide +kernel
theorem dX12_isSo_17 : decode cX12_isSo 17 = .ok (.aload_n 0, 1) := by decide +kernel
theorem dX12_isSo_18 : decode cX12_isSo 18 = .ok (.getfield 38, 3) := by decide +kernel
theorem dX12_isSo_21 : decode cX12_isSo 21 = .ok (.iconst 3, 1) := by decide +kernel
theorem dX12_isSo_22 : decode cX12_isSo 22 = .ok (.iload_n 2, 1) := by decide +kernel
theorem dX12_isSo_23 : decode cX12_isSo 23 = .ok (.imul, 1) := by decide +kernel
theorem dX12_isSo_24 : decode cX12_isSo 24 = .ok (.iaload, 1) := by decide +kernel
theorem dX12_isSo_25 : decode cX12_isSo 25 = .ok (.aload_n 0, 1) := by decide +kernel
theorem dX12_isSo_26 : decode cX12_isSo 26 = .ok (.getfield 38, 3) := by decide +kernel
theorem dX12_isSo_29 : decode cX12_isSo 29 = .ok (.iconst 3, 1) := by decide +kernel
theorem dX12_isSo_30 : decode cX12_isSo 30 = .ok (.iload_n 2, 1) := by decide +kernel
theorem dX12_isSo_31 : decode cX12_isSo 31 = .ok (.imul, 1) := by decide +kernel
theorem dX12_isSo_32 : decode cX12_isSo 32 = .ok (.iconst 1, 1) := by decide +kernel
theorem dX12_isSo_33 : decode cX12_isSo 33 = .ok (.iadd, 1) := by decide +kernel
theorem dX12_isSo_34 : decode cX12_isSo 34 = .ok (.iaload, 1) := by decide +kernel
theorem dX12_isSo_35 : decode cX12_isSo 35 = .ok (.invokevirtual 249, 3) := by decide +kernel
theorem dX12_isSo_38 : decode cX12_isSo 38 = .ok (.aload_n 0, 1) := by decide +kernel
theorem dX12_isSo_39 : decode cX12_isSo 39 = .ok (.getfield 38, 3) := by decide +kernel
theorem dX12_isSo_42 : decode cX12_isSo 42 = .ok (.iconst 3, 1) := by decide +kernel
theorem dX12_isSo_43 : decode cX12_isSo 43 = .ok (.iload_n 2, 1) := by decide +kernel
theorem dX12_isSo_44 : decode cX12_isSo 44 = .ok (.imul, 1) := by decide +kernel
theorem dX12_isSo_45 : decode cX12_isSo 45 = .ok (.iconst 2, 1) := by decide +kernel
theorem dX12_isSo_46 : decode cX12_isSo 46 = .ok (.iadd, 1) := by decide +kernel
theorem dX12_isSo_47 : decode cX12_isSo 47 = .ok (.iaload, 1) := by decide +kernel
theorem dX12_isSo_48 : decode cX12_isSo 48 = .ok (.if_icmp .ne 7, 3) := by decide +kernel
theorem dX12_isSo_51 : decode cX12_isSo 51 = .ok (.iconst 1, 1) := by decide +kernel
theorem dX12_isSo_52 : decode cX12_isSo 52 = .ok (.goto 4, 3) := by decide +kernel
theorem dX12_isSo_55 : decode cX12_isSo 55 = .ok (.iconst 0, 1) := by decide +kernel
theorem dX12_isSo_56 : decode cX12_isSo 56 = .ok (.istore_n 1, 1) := by decide +kernel
theorem dX12_isSo_57 : decode cX12_isSo 57 = .ok (.iinc 2 1, 3) := by decide +kernel
theorem dX12_isSo_60 : decode cX12_isSo 60 = .ok (.goto (-56), 3) := by decide +kernel
theorem dX12_isSo_63 : decode cX12_isSo 63 = .ok (.iload_n 1, 1) := by decide +kernel
theorem dX12_isSo_64 : decode cX12_isSo 64 = .ok (.ireturn, 1) := by decide +kernel
set_option maxRecDepth 20000 in
theorem ggX12_now_X12_lying : GoodIn wsX12_now wsX12_lying := goodIn_r _ [5, 6, 7, 8, 4, 9, 10, 11, 12, 13, 14, 15, 16, 17, 84, 85, 86, 87, 88, 89, 90, 91, 92, 93, 94, 95, 96, 97, 98, 99, 100, 101, 102, 103, 104, 105, 106, 107, 108, 109, 110, 111, 112, 113, 114, 115, 116, 117, 118, 119] (by decide +kernel) (by decide +kernel)
set_option maxRecDepth 20000 in
theorem gX12_now_X12_lying : GoodIn wsX12_now (wsV RX12 226 RX12 yX12_lying wsX12_lying) := goodIn_app (goodIn_of _ (by decide +kernel)) ggX12_now_X12_lying
set_option maxRecDepth 20000 in
theorem ggX12_now_X12_sumFrom : GoodIn wsX12_now wsX12_sumFrom := goodIn_r _ [21, 16, 6, 7, 8, 4, 9, 10, 11, 84, 85, 86, 87, 88, 89, 90, 91, 92, 93, 94, 95, 96, 97, 98, 99, 100, 101, 102, 103, 104, 105, 106, 107, 108, 109, 110, 111, 112, 113, 114, 115, 116, 117, 118, 119] (by decide +kernel) (by decide +kernel)
set_option maxRecDepth 20000 in
theorem gX12_now_X12_sumFrom : GoodIn wsX12_now (wsV RX12 229 RX12 yX12_sumFrom wsX12_sumFrom) := goodIn_app (goodIn_of _ (by decide +kernel)) ggX12_now_X12_sumFrom
set_option maxRecDepth 20000 in
theorem ggX12_now_X12_planksNow : GoodIn wsX12_now wsX12_planksNow := goodIn_r _ [25, 26, 27, 28, 4, 29, 16, 84, 85, 86, 87, 88, 89, 90, 91, 92, 93, 94, 95, 96, 97, 98, 99, 100, 101, 102, 103, 104, 105, 106, 107, 108, 109, 110, 111, 112, 113, 114, 115, 116, 117, 118, 119] (by decide +kernel) (by decide +kernel)
set_option maxRecDepth 20000 in
theorem gX12_now_X12_planksNow : GoodIn wsX12_now (wsV RX12 240 RX12 yX12_planksNow wsX12_planksNow) := goodIn_app (goodIn_of _ (by decide +kernel)) ggX12_now_X12_planksNow
set_option maxRecDepth 20000 in
theorem ggX12_now_X12_isSo : GoodIn wsX12_now wsX12_isSo := goodIn_r _ [33, 34, 35, 36, 37, 38, 4, 39, 40, 41, 42, 43, 44, 45, 46, 47, 48, 49, 50, 51, 52, 53, 54, 55, 56, 57, 16, 58, 59, 60, 61, 62, 63, 64, 65, 66, 67, 10, 11, 68, 69, 70, 71, 72, 73, 74, 75, 76, 77, 78, 79, 26, 27, 28, 29, 80, 81, 82, 83, 84, 85, 86, 87, 88, 89, 90, 91, 92, 93, 94, 95, 96, 97, 98, 99, 100, 101, 102, 103, 104, 105, 106, 107, 108, 109, 110, 111, 112, 113, 114, 115, 116, 117, 118, 119] (by decide +kernel) (by decide +kernel)
set_option maxRecDepth 20000 in
theorem gX12_now_X12_isSo : GoodIn wsX12_now (wsV RX12 252 RX12 yX12_isSo wsX12_isSo) := goodIn_app (goodIn_of _ (by decide +kernel)) ggX12_now_X12_isSo
theorem dX12_now_0 : decode cX12_now 0 = .ok (.iload_n 1, 1) := by decide +kernel
theorem dX12_now_1 : decode cX12_now 1 = .ok (.tableswitch 99 0 6 #[43, 55, 60, 67, 74, 81, 86], 43) := by decide +kernel
theorem dX12_now_44 : decode cX12_now 44 = .ok (.aload_n 0, 1) := by decide +kernel
theorem dX12_now_45 : decode cX12_now 45 = .ok (.invokevirtual 226, 3) := by decide +kernel
theorem dX12_now_48 : decode cX12_now 48 = .ok (.aload_n 0, 1) := by decide +kernel
theorem dX12_now_49 : decode cX12_now 49 = .ok (.bipush 91, 2) := by decide +kernel
theorem dX12_now_51 : decode cX12_now 51 = .ok (.invokevirtual 229, 3) := by decide +kernel
theorem dX12_now_54 : decode cX12_now 54 = .ok (.iadd, 1) := by decide +kernel
theorem dX12_now_55 : decode cX12_now 55 = .ok (.ireturn, 1) := by decide +kernel
theorem dX12_now_56 : decode cX12_now 56 = .ok (.aload_n 0, 1) := by decide +kernel
theorem dX12_now_57 : decode cX12_now 57 = .ok (.invokevirtual 226, 3) := by decide +kernel
theorem dX12_now_60 : decode cX12_now 60 = .ok (.ireturn, 1) := by decide +kernel
theorem dX12_now_61 : decode cX12_now 61 = .ok (.aload_n 0, 1) := by decide +kernel
theorem dX12_now_62 : decode cX12_now 62 = .ok (.bipush 61, 2) := by decide +kernel
theorem dX12_now_64 : decode cX12_now 64 = .ok (.invokevirtual 229, 3) := by decide +kernel
theorem dX12_now_67 : decode cX12_now 67 = .ok (.ireturn, 1) := by decide +kernel
theorem dX12_now_68 : decode cX12_now 68 = .ok (.aload_n 0, 1) := by decide +kernel
theorem dX12_now_69 : decode cX12_now 69 = .ok (.bipush 91, 2) := by decide +kernel
theorem dX12_now_71 : decode cX12_now 71 = .ok (.invokevirtual 229, 3) := by decide +kernel
theorem dX12_now_74 : decode cX12_now 74 = .ok (.ireturn, 1) := by decide +kernel
theorem dX12_now_75 : decode cX12_now 75 = .ok (.aload_n 0, 1) := by decide +kernel
theorem dX12_now_76 : decode cX12_now 76 = .ok (.bipush 121, 2) := by decide +kernel
theorem dX12_now_78 : decode cX12_now 78 = .ok (.invokevirtual 229, 3) := by decide +kernel
theorem dX12_now_81 : decode cX12_now 81 = .ok (.ireturn, 1) := by decide +kernel
theorem dX12_now_82 : decode cX12_now 82 = .ok (.aload_n 0, 1) := by decide +kernel
theorem dX12_now_83 : decode cX12_now 83 = .ok (.invokevirtual 240, 3) := by decide +kernel
theorem dX12_now_86 : decode cX12_now 86 = .ok (.ireturn, 1) := by decide +kernel
theorem dX12_now_87 : decode cX12_now 87 = .ok (.aload_n 0, 1) := by decide +kernel
theorem dX12_now_88 : decode cX12_now 88 = .ok (.invokevirtual 252, 3) := by decide +kernel
theorem dX12_now_91 : decode cX12_now 91 = .ok (.ifCond .eq 7, 3) := by decide +kernel
theorem dX12_now_94 : decode cX12_now 94 = .ok (.iconst 1, 1) := by decide +kernel
theorem dX12_now_95 : decode cX12_now 95 = .ok (.goto 4, 3) := by decide +kernel
theorem dX12_now_98 : decode cX12_now 98 = .ok (.iconst 0, 1) := by decide +kernel
theorem dX12_now_99 : decode cX12_now 99 = .ok (.ireturn, 1) := by decide +kernel
theorem dX12_now_100 : decode cX12_now 100 = .ok (.iconst (-1), 1) := by decide +kernel
theorem dX12_now_101 : decode cX12_now 101 = .ok (.ireturn, 1) := by decide +kernel
set_option maxRecDepth 20000 in
theorem ggX12_end_X12_isKind : GoodIn wsX12_end wsX12_isKind := goodIn_r _ [8, 9, 10, 11, 7, 12, 78, 79, 80, 81, 82, 83, 84, 85, 86, 87, 88, 89, 90, 91, 92, 93, 94, 95, 96, 97, 98, 99, 100, 101, 102, 103, 104, 105, 106, 107, 108, 109, 110, 111, 112, 113] (by decide +kernel) (by decide +kernel)
set_option maxRecDepth 20000 in
theorem gX12_end_X12_isKind : GoodIn wsX12_end (wsV RX12 220 RX12 yX12_isKind wsX12_isKind) := goodIn_app (goodIn_of _ (by decide +kernel)) ggX12_end_X12_isKind
set_option maxRecDepth 20000 in
theorem ggX12_end_X12_isCell : GoodIn wsX12_end wsX12_isCell := goodIn_r _ [16, 17, 18, 10, 11, 7, 12, 78, 79, 80, 81, 82, 83, 84, 85, 86, 87, 88, 89, 90, 91, 92, 93, 94, 95, 96, 97, 98, 99, 100, 101, 102, 103, 104, 105, 106, 107, 108, 109, 110, 111, 112, 113] (by decide +kernel) (by decide +kernel)
set_option maxRecDepth 20000 in
theorem gX12_end_X12_isCell : GoodIn wsX12_end (wsV RX12 160 RX12 yX12_isCell wsX12_isCell) := goodIn_app (goodIn_of _ (by decide +kernel)) ggX12_end_X12_isCell
set_option maxRecDepth 20000 in
theorem ggX12_end_X12_in : GoodIn wsX12_end wsX12_in := goodIn_r _ [12] (by decide +kernel) (by decide +kernel)
set_option maxRecDepth 20000 in
theorem gX12_end_X12_in : GoodIn wsX12_end (va_wsS RX12 68 yX12_in wsX12_in) := goodIn_app (goodIn_of _ (by decide +kernel)) ggX12_end_X12_in
set_option maxRecDepth 20000 in
theorem ggX12_end_X12_bit : GoodIn wsX12_end wsX12_bit := goodIn_r _ [22, 17, 78, 79, 80, 81, 82, 83, 84, 85, 86, 87, 88, 89, 90, 91, 92, 93, 94, 95, 96, 97, 98, 99, 100, 101, 102, 103, 104, 105, 106, 107, 108, 109, 110, 111, 112, 113] (by decide +kernel) (by decide +kernel)
set_option maxRecDepth 20000 in
theorem gX12_end_X12_bit : GoodIn wsX12_end (wsV RX12 164 RX12 yX12_bit wsX12_bit) := goodIn_app (goodIn_of _ (by decide +kernel)) ggX12_end_X12_bit
set_option maxRecDepth 20000 in
theorem ggX12_end_X12_rollKind : GoodIn wsX12_end wsX12_rollKind := goodIn_r _ [26, 27, 28, 29, 30, 31, 7, 32, 2, 3, 33, 34, 35, 36, 37, 38, 39, 40, 41, 42, 43, 44, 45, 46, 47, 48, 49, 17, 18, 50, 51, 52, 53, 54, 55, 56, 57, 58, 59, 60, 61, 62, 63, 64, 65, 66, 67, 68, 69, 78, 79, 80, 81, 82, 83, 84, 85, 86, 87, 88, 89, 90, 91, 92, 93, 94, 95, 96, 97, 98, 99, 100, 101, 102, 103, 104, 105, 106, 107, 108, 109, 110, 111, 112, 113] (by decide +kernel) (by decide +kernel)
set_option maxRecDepth 20000 in
theorem gX12_end_X12_rollKind : GoodIn wsX12_end (wsV RX12 210 RX12 yX12_rollKind wsX12_rollKind) := goodIn_app (goodIn_of _ (by decide +kernel)) ggX12_end_X12_rollKind
set_option maxRecDepth 20000 in
theorem ggX12_end_X12_toldEnd : GoodIn wsX12_end wsX12_toldEnd := goodIn_r _ [73, 34, 74, 75, 76, 7, 77, 17, 78, 79, 80, 81, 82, 83, 84, 85, 86, 87, 88, 89, 90, 91, 92, 93, 94, 95, 96, 97, 98, 99, 100, 101, 102, 103, 104, 105, 106, 107, 108, 109, 110, 111, 112, 113] (by decide +kernel) (by decide +kernel)
set_option maxRecDepth 20000 in
theorem gX12_end_X12_toldEnd : GoodIn wsX12_end (wsV RX12 235 RX12 yX12_toldEnd wsX12_toldEnd) := goodIn_app (goodIn_of _ (by decide +kernel)) ggX12_end_X12_toldEnd
theorem dX12_end_0 : decode cX12_end 0 = .ok (.aload_n 0, 1) := by decide +kernel
theorem dX12_end_1 : decode cX12_end 1 = .ok (.iload_n 1, 1) := by decide +kernel
theorem dX12_end_2 : decode cX12_end 2 = .ok (.invokevirtual 220, 3) := by decide +kernel
theorem dX12_end_5 : decode cX12_end 5 = .ok (.ifCond .eq 25, 3) := by decide +kernel
theorem dX12_end_8 : decode cX12_end 8 = .ok (.aload_n 0, 1) := by decide +kernel
theorem dX12_end_9 : decode cX12_end 9 = .ok (.iload_n 2, 1) := by decide +kernel
theorem dX12_end_10 : decode cX12_end 10 = .ok (.iload_n 3, 1) := by decide +kernel
theorem dX12_end_11 : decode cX12_end 11 = .ok (.invokevirtual 160, 3) := by decide +kernel
theorem dX12_end_14 : decode cX12_end 14 = .ok (.ifCond .eq 16, 3) := by decide +kernel
theorem dX12_end_17 : decode cX12_end 17 = .ok (.iload 4, 2) := by decide +kernel
theorem dX12_end_19 : decode cX12_end 19 = .ok (.i2l, 1) := by decide +kernel
theorem dX12_end_20 : decode cX12_end 20 = .ok (.lconst 0, 1) := by decide +kernel
theorem dX12_end_21 : decode cX12_end 21 = .ok (.ldc2_w 255, 3) := by decide +kernel
theorem dX12_end_24 : decode cX12_end 24 = .ok (.invokestatic 68, 3) := by decide +kernel
theorem dX12_end_27 : decode cX12_end 27 = .ok (.ifCond .ne 5, 3) := by decide +kernel
theorem dX12_end_30 : decode cX12_end 30 = .ok (.iconst (-1), 1) := by decide +kernel
theorem dX12_end_31 : decode cX12_end 31 = .ok (.ireturn, 1) := by decide +kernel
theorem dX12_end_32 : decode cX12_end 32 = .ok (.aload_n 0, 1) := by decide +kernel
theorem dX12_end_33 : decode cX12_end 33 = .ok (.iload_n 1, 1) := by decide +kernel
theorem dX12_end_34 : decode cX12_end 34 = .ok (.aload_n 0, 1) := by decide +kernel
theorem dX12_end_35 : decode cX12_end 35 = .ok (.iload_n 2, 1) := by decide +kernel
theorem dX12_end_36 : decode cX12_end 36 = .ok (.iload_n 3, 1) := by decide +kernel
theorem dX12_end_37 : decode cX12_end 37 = .ok (.invokevirtual 164, 3) := by decide +kernel
theorem dX12_end_40 : decode cX12_end 40 = .ok (.invokevirtual 210, 3) := by decide +kernel
theorem dX12_end_43 : decode cX12_end 43 = .ok (.iload 4, 2) := by decide +kernel
theorem dX12_end_45 : decode cX12_end 45 = .ok (.ifCond .ne 10, 3) := by decide +kernel
theorem dX12_end_48 : decode cX12_end 48 = .ok (.aload_n 0, 1) := by decide +kernel
theorem dX12_end_49 : decode cX12_end 49 = .ok (.invokevirtual 235, 3) := by decide +kernel
theorem dX12_end_52 : decode cX12_end 52 = .ok (.goto 20, 3) := by decide +kernel
theorem dX12_end_55 : decode cX12_end 55 = .ok (.iload 4, 2) := by decide +kernel
theorem dX12_end_57 : decode cX12_end 57 = .ok (.iconst 1, 1) := by decide +kernel
theorem dX12_end_58 : decode cX12_end 58 = .ok (.if_icmp .ne 10, 3) := by decide +kernel
theorem dX12_end_61 : decode cX12_end 61 = .ok (.aload_n 0, 1) := by decide +kernel
theorem dX12_end_62 : decode cX12_end 62 = .ok (.getfield 190, 3) := by decide +kernel
theorem dX12_end_65 : decode cX12_end 65 = .ok (.goto 7, 3) := by decide +kernel
theorem dX12_end_68 : decode cX12_end 68 = .ok (.aload_n 0, 1) := by decide +kernel
theorem dX12_end_69 : decode cX12_end 69 = .ok (.getfield 193, 3) := by decide +kernel
theorem dX12_end_72 : decode cX12_end 72 = .ok (.ireturn, 1) := by decide +kernel
set_option maxRecDepth 20000 in
theorem ggX12_doorsOf_X12_cells : GoodIn wsX12_doorsOf wsX12_cells := goodIn_r _ [5, 6, 7, 61, 62, 63, 64, 65, 66, 67, 68, 69, 70, 71, 72, 73, 74, 75, 76, 77, 78, 79, 80, 81, 82, 83, 84, 85, 86, 87, 88, 89, 90, 91, 92, 93, 94, 95, 96] (by decide +kernel) (by decide +kernel)
set_option maxRecDepth 20000 in
theorem gX12_doorsOf_X12_cells : GoodIn wsX12_doorsOf (wsV RX12 223 RX12 yX12_cells wsX12_cells) := goodIn_app (goodIn_of _ (by decide +kernel)) ggX12_doorsOf_X12_cells
set_option maxRecDepth 20000 in
theorem ggX12_doorsOf_X12_endOf : GoodIn wsX12_doorsOf wsX12_endOf := goodIn_r _ [11, 12, 13, 14, 15, 4, 16, 17, 18, 19, 20, 21, 22, 23, 24, 25, 26, 27, 28, 29, 30, 31, 32, 33, 34, 35, 36, 37, 38, 39, 40, 6, 7, 41, 42, 43, 44, 45, 46, 47, 48, 49, 50, 51, 52, 53, 54, 55, 56, 57, 58, 59, 60, 61, 62, 63, 64, 65, 66, 67, 68, 69, 70, 71, 72, 73, 74, 75, 76, 77, 78, 79, 80, 81, 82, 83, 84, 85, 86, 87, 88, 89, 90, 91, 92, 93, 94, 95, 96] (by decide +kernel) (by decide +kernel)
set_option maxRecDepth 20000 in
theorem gX12_doorsOf_X12_endOf : GoodIn wsX12_doorsOf (wsV RX12 249 RX12 yX12_endOf wsX12_endOf) := goodIn_app (goodIn_of _ (by decide +kernel)) ggX12_doorsOf_X12_endOf
theorem dX12_doorsOf_0 : decode cX12_doorsOf 0 = .ok (.iconst 0, 1) := by decide +kernel
theorem dX12_doorsOf_1 : decode cX12_doorsOf 1 = .ok (.istore_n 3, 1) := by decide +kernel
theorem dX12_doorsOf_2 : decode cX12_doorsOf 2 = .ok (.iconst 0, 1) := by decide +kernel
theorem dX12_doorsOf_3 : decode cX12_doorsOf 3 = .ok (.istore 4, 2) := by decide +kernel
theorem dX12_doorsOf_5 : decode cX12_doorsOf 5 = .ok (.iload 4, 2) := by decide +kernel
theorem dX12_doorsOf_7 : decode cX12_doorsOf 7 = .ok (.aload_n 0, 1) := by decide +kernel
theorem dX12_doorsOf_8 : decode cX12_doorsOf 8 = .ok (.invokevirtual 223, 3) := by decide +kernel
theorem dX12_doorsOf_11 : decode cX12_doorsOf 11 = .ok (.if_icmp .ge 31, 3) := by decide +kernel
theorem dX12_doorsOf_14 : decode cX12_doorsOf 14 = .ok (.iload_n 3, 1) := by decide +kernel
theorem dX12_doorsOf_15 : decode cX12_doorsOf 15 = .ok (.aload_n 0, 1) := by decide +kernel
theorem dX12_doorsOf_16 : decode cX12_doorsOf 16 = .ok (.iload_n 1, 1) := by decide +kernel
theorem dX12_doorsOf_17 : decode cX12_doorsOf 17 = .ok (.iload 4, 2) := by decide +kernel
theorem dX12_doorsOf_19 : decode cX12_doorsOf 19 = .ok (.invokevirtual 249, 3) := by decide +kernel
theorem dX12_doorsOf_22 : decode cX12_doorsOf 22 = .ok (.iload_n 2, 1) := by decide +kernel
theorem dX12_doorsOf_23 : decode cX12_doorsOf 23 = .ok (.if_icmp .ne 10, 3) := by decide +kernel
theorem dX12_doorsOf_26 : decode cX12_doorsOf 26 = .ok (.iconst 1, 1) := by decide +kernel
theorem dX12_doorsOf_27 : decode cX12_doorsOf 27 = .ok (.iload 4, 2) := by decide +kernel
theorem dX12_doorsOf_29 : decode cX12_doorsOf 29 = .ok (.ishl, 1) := by decide +kernel
theorem dX12_doorsOf_30 : decode cX12_doorsOf 30 = .ok (.goto 4, 3) := by decide +kernel
theorem dX12_doorsOf_33 : decode cX12_doorsOf 33 = .ok (.iconst 0, 1) := by decide +kernel
theorem dX12_doorsOf_34 : decode cX12_doorsOf 34 = .ok (.ior, 1) := by decide +kernel
theorem dX12_doorsOf_35 : decode cX12_doorsOf 35 = .ok (.istore_n 3, 1) := by decide +kernel
theorem dX12_doorsOf_36 : decode cX12_doorsOf 36 = .ok (.iinc 4 1, 3) := by decide +kernel
theorem dX12_doorsOf_39 : decode cX12_doorsOf 39 = .ok (.goto (-34), 3) := by decide +kernel
theorem dX12_doorsOf_42 : decode cX12_doorsOf 42 = .ok (.iload_n 3, 1) := by decide +kernel
theorem dX12_doorsOf_43 : decode cX12_doorsOf 43 = .ok (.ireturn, 1) := by decide +kernel
set_option maxRecDepth 20000 in
theorem ggX12_doors_X12_isKind : GoodIn wsX12_doors wsX12_isKind := goodIn_r _ [5, 6, 7, 8, 4, 9, 81, 82, 83, 84, 85, 86, 87, 88, 89, 90, 91, 92, 93, 94, 95, 96, 97, 98, 99, 100, 101, 102, 103, 104, 105, 106, 107, 108, 109, 110, 111, 112, 113, 114, 115, 116] (by decide +kernel) (by decide +kernel)
set_option maxRecDepth 20000 in
theorem gX12_doors_X12_isKind : GoodIn wsX12_doors (wsV RX12 220 RX12 yX12_isKind wsX12_isKind) := goodIn_app (goodIn_of _ (by decide +kernel)) ggX12_doors_X12_isKind
set_option maxRecDepth 20000 in
theorem ggX12_doors_X12_isCell : GoodIn wsX12_doors wsX12_isCell := goodIn_r _ [13, 14, 15, 7, 8, 4, 9, 81, 82, 83, 84, 85, 86, 87, 88, 89, 90, 91, 92, 93, 94, 95, 96, 97, 98, 99, 100, 101, 102, 103, 104, 105, 106, 107, 108, 109, 110, 111, 112, 113, 114, 115, 116] (by decide +kernel) (by decide +kernel)
set_option maxRecDepth 20000 in
theorem gX12_doors_X12_isCell : GoodIn wsX12_doors (wsV RX12 160 RX12 yX12_isCell wsX12_isCell) := goodIn_app (goodIn_of _ (by decide +kernel)) ggX12_doors_X12_isCell
set_option maxRecDepth 20000 in
theorem ggX12_doors_X12_bit : GoodIn wsX12_doors wsX12_bit := goodIn_r _ [19, 14, 81, 82, 83, 84, 85, 86, 87, 88, 89, 90, 91, 92, 93, 94, 95, 96, 97, 98, 99, 100, 101, 102, 103, 104, 105, 106, 107, 108, 109, 110, 111, 112, 113, 114, 115, 116] (by decide +kernel) (by decide +kernel)
set_option maxRecDepth 20000 in
theorem gX12_doors_X12_bit : GoodIn wsX12_doors (wsV RX12 164 RX12 yX12_bit wsX12_bit) := goodIn_app (goodIn_of _ (by decide +kernel)) ggX12_doors_X12_bit
set_option maxRecDepth 20000 in
theorem ggX12_doors_X12_doorsOf : GoodIn wsX12_doors wsX12_doorsOf := goodIn_r _ [23, 24, 25, 26, 4, 27, 14, 15, 28, 29, 30, 31, 32, 33, 34, 35, 36, 37, 38, 39, 40, 41, 42, 43, 44, 45, 46, 47, 48, 49, 50, 51, 52, 53, 54, 55, 56, 57, 58, 59, 60, 61, 62, 63, 64, 65, 66, 67, 68, 69, 70, 71, 72, 73, 74, 75, 76, 77, 78, 79, 80, 81, 82, 83, 84, 85, 86, 87, 88, 89, 90, 91, 92, 93, 94, 95, 96, 97, 98, 99, 100, 101, 102, 103, 104, 105, 106, 107, 108, 109, 110, 111, 112, 113, 114, 115, 116] (by decide +kernel) (by decide +kernel)
set_option maxRecDepth 20000 in
theorem gX12_doors_X12_doorsOf : GoodIn wsX12_doors (wsV RX12 257 RX12 yX12_doorsOf wsX12_doorsOf) := goodIn_app (goodIn_of _ (by decide +kernel)) ggX12_doors_X12_doorsOf
theorem dX12_doors_0 : decode cX12_doors 0 = .ok (.aload_n 0, 1) := by decide +kernel
theorem dX12_doors_1 : decode cX12_doors 1 = .ok (.iload_n 1, 1) := by decide +kernel
theorem dX12_doors_2 : decode cX12_doors 2 = .ok (.invokevirtual 220, 3) := by decide +kernel
theorem dX12_doors_5 : decode cX12_doors 5 = .ok (.ifCond .eq 26, 3) := by decide +kernel
theorem dX12_doors_8 : decode cX12_doors 8 = .ok (.aload_n 0, 1) := by decide +kernel
theorem dX12_doors_9 : decode cX12_doors 9 = .ok (.iload_n 2, 1) := by decide +kernel
theorem dX12_doors_10 : decode cX12_doors 10 = .ok (.iload_n 3, 1) := by decide +kernel
theorem dX12_doors_11 : decode cX12_doors 11 = .ok (.invokevirtual 160, 3) := by decide +kernel
theorem dX12_doors_14 : decode cX12_doors 14 = .ok (.ifCond .eq 17, 3) := by decide +kernel
theorem dX12_doors_17 : decode cX12_doors 17 = .ok (.aload_n 0, 1) := by decide +kernel
theorem dX12_doors_18 : decode cX12_doors 18 = .ok (.iload_n 1, 1) := by decide +kernel
theorem dX12_doors_19 : decode cX12_doors 19 = .ok (.aload_n 0, 1) := by decide +kernel
theorem dX12_doors_20 : decode cX12_doors 20 = .ok (.iload_n 2, 1) := by decide +kernel
theorem dX12_doors_21 : decode cX12_doors 21 = .ok (.iload_n 3, 1) := by decide +kernel
theorem dX12_doors_22 : decode cX12_doors 22 = .ok (.invokevirtual 164, 3) := by decide +kernel
theorem dX12_doors_25 : decode cX12_doors 25 = .ok (.invokevirtual 257, 3) := by decide +kernel
theorem dX12_doors_28 : decode cX12_doors 28 = .ok (.goto 4, 3) := by decide +kernel
theorem dX12_doors_31 : decode cX12_doors 31 = .ok (.iconst (-1), 1) := by decide +kernel
theorem dX12_doors_32 : decode cX12_doors 32 = .ok (.ireturn, 1) := by decide +kernel
set_option maxRecDepth 20000 in
theorem ggX12_isFree_X12_isEdge : GoodIn wsX12_isFree wsX12_isEdge := goodIn_r _ [5, 6, 7, 21, 22, 23, 24, 25, 26, 27, 28, 29, 30, 31, 32, 33, 34, 35, 36, 37, 38, 39, 40, 41, 42, 43, 44, 45, 46, 47, 48, 49, 50, 51, 52, 53, 54, 55, 56] (by decide +kernel) (by decide +kernel)
set_option maxRecDepth 20000 in
theorem gX12_isFree_X12_isEdge : GoodIn wsX12_isFree (wsV RX12 171 RX12 yX12_isEdge wsX12_isEdge) := goodIn_app (goodIn_of _ (by decide +kernel)) ggX12_isFree_X12_isEdge
set_option maxRecDepth 20000 in
theorem ggX12_isFree_X12_isKerb : GoodIn wsX12_isFree wsX12_isKerb := goodIn_r _ [11, 12, 13, 14, 4, 15, 21, 22, 23, 24, 25, 26, 27, 28, 29, 30, 31, 32, 33, 34, 35, 36, 37, 38, 39, 40, 41, 42, 43, 44, 45, 46, 47, 48, 49, 50, 51, 52, 53, 54, 55, 56] (by decide +kernel) (by decide +kernel)
set_option maxRecDepth 20000 in
theorem gX12_isFree_X12_isKerb : GoodIn wsX12_isFree (wsV RX12 177 RX12 yX12_isKerb wsX12_isKerb) := goodIn_app (goodIn_of _ (by decide +kernel)) ggX12_isFree_X12_isKerb
set_option maxRecDepth 20000 in
theorem ggX12_isFree_X12_isPlank : GoodIn wsX12_isFree wsX12_isPlank := goodIn_r _ [19, 20, 21, 22, 23, 24, 25, 26, 27, 28, 29, 30, 31, 32, 33, 34, 35, 36, 37, 38, 39, 40, 41, 42, 43, 44, 45, 46, 47, 48, 49, 50, 51, 52, 53, 54, 55, 56] (by decide +kernel) (by decide +kernel)
set_option maxRecDepth 20000 in
theorem gX12_isFree_X12_isPlank : GoodIn wsX12_isFree (wsV RX12 181 RX12 yX12_isPlank wsX12_isPlank) := goodIn_app (goodIn_of _ (by decide +kernel)) ggX12_isFree_X12_isPlank
theorem dX12_isFree_0 : decode cX12_isFree 0 = .ok (.iload_n 1, 1) := by decide +kernel
theorem dX12_isFree_1 : decode cX12_isFree 1 = .ok (.iconst 2, 1) := by decide +kernel
theorem dX12_isFree_2 : decode cX12_isFree 2 = .ok (.irem, 1) := by decide +kernel
theorem dX12_isFree_3 : decode cX12_isFree 3 = .ok (.ifCond .ne 7, 3) := by decide +kernel
theorem dX12_isFree_6 : decode cX12_isFree 6 = .ok (.iconst 1, 1) := by decide +kernel
theorem dX12_isFree_7 : decode cX12_isFree 7 = .ok (.goto 4, 3) := by decide +kernel
theorem dX12_isFree_10 : decode cX12_isFree 10 = .ok (.iconst 2, 1) := by decide +kernel
theorem dX12_isFree_11 : decode cX12_isFree 11 = .ok (.istore_n 2, 1) := by decide +kernel
theorem dX12_isFree_12 : decode cX12_isFree 12 = .ok (.aload_n 0, 1) := by decide +kernel
theorem dX12_isFree_13 : decode cX12_isFree 13 = .ok (.iload_n 1, 1) := by decide +kernel
theorem dX12_isFree_14 : decode cX12_isFree 14 = .ok (.iconst 2, 1) := by decide +kernel
theorem dX12_isFree_15 : decode cX12_isFree 15 = .ok (.idiv, 1) := by decide +kernel
theorem dX12_isFree_16 : decode cX12_isFree 16 = .ok (.iload_n 2, 1) := by decide +kernel
theorem dX12_isFree_17 : decode cX12_isFree 17 = .ok (.invokevirtual 171, 3) := by decide +kernel
theorem dX12_isFree_20 : decode cX12_isFree 20 = .ok (.ifCond .ne 23, 3) := by decide +kernel
theorem dX12_isFree_23 : decode cX12_isFree 23 = .ok (.aload_n 0, 1) := by decide +kernel
theorem dX12_isFree_24 : decode cX12_isFree 24 = .ok (.iload_n 1, 1) := by decide +kernel
theorem dX12_isFree_25 : decode cX12_isFree 25 = .ok (.invokevirtual 177, 3) := by decide +kernel
theorem dX12_isFree_28 : decode cX12_isFree 28 = .ok (.ifCond .ne 15, 3) := by decide +kernel
theorem dX12_isFree_31 : decode cX12_isFree 31 = .ok (.aload_n 0, 1) := by decide +kernel
theorem dX12_isFree_32 : decode cX12_isFree 32 = .ok (.iload_n 1, 1) := by decide +kernel
theorem dX12_isFree_33 : decode cX12_isFree 33 = .ok (.invokevirtual 181, 3) := by decide +kernel
theorem dX12_isFree_36 : decode cX12_isFree 36 = .ok (.ifCond .ne 7, 3) := by decide +kernel
theorem dX12_isFree_39 : decode cX12_isFree 39 = .ok (.iconst 1, 1) := by decide +kernel
theorem dX12_isFree_40 : decode cX12_isFree 40 = .ok (.goto 4, 3) := by decide +kernel
theorem dX12_isFree_43 : decode cX12_isFree 43 = .ok (.iconst 0, 1) := by decide +kernel
theorem dX12_isFree_44 : decode cX12_isFree 44 = .ok (.ireturn, 1) := by decide +kernel
set_option maxRecDepth 20000 in
theorem ggX12_triesPlanks_X12_cells : GoodIn wsX12_triesPlanks wsX12_cells := goodIn_r _ [7, 8, 9, 65, 66, 67, 68, 69, 70, 71, 72, 73, 74, 75, 76, 77, 78, 79, 80, 81, 82, 83, 84, 85, 86, 87, 88, 89, 90, 91, 92, 93, 94, 95, 96, 97, 98, 99, 100] (by decide +kernel) (by decide +kernel)
set_option maxRecDepth 20000 in
theorem gX12_triesPlanks_X12_cells : GoodIn wsX12_triesPlanks (wsV RX12 223 RX12 yX12_cells wsX12_cells) := goodIn_app (goodIn_of _ (by decide +kernel)) ggX12_triesPlanks_X12_cells
set_option maxRecDepth 20000 in
theorem ggX12_triesPlanks_X12_isFree : GoodIn wsX12_triesPlanks wsX12_isFree := goodIn_r _ [13, 14, 15, 16, 6, 17, 8, 9, 18, 19, 20, 21, 22, 23, 24, 25, 26, 27, 28, 29, 30, 65, 66, 67, 68, 69, 70, 71, 72, 73, 74, 75, 76, 77, 78, 79, 80, 81, 82, 83, 84, 85, 86, 87, 88, 89, 90, 91, 92, 93, 94, 95, 96, 97, 98, 99, 100] (by decide +kernel) (by decide +kernel)
set_option maxRecDepth 20000 in
theorem gX12_triesPlanks_X12_isFree : GoodIn wsX12_triesPlanks (wsV RX12 260 RX12 yX12_isFree wsX12_isFree) := goodIn_app (goodIn_of _ (by decide +kernel)) ggX12_triesPlanks_X12_isFree
set_option maxRecDepth 20000 in
theorem ggX12_triesPlanks_X12_endOf : GoodIn wsX12_triesPlanks wsX12_endOf := goodIn_r _ [34, 35, 36, 37, 38, 6, 39, 40, 41, 42, 43, 44, 45, 46, 47, 48, 49, 50, 51, 52, 30, 53, 54, 55, 56, 1, 2, 14, 15, 16, 17, 8, 9, 57, 58, 59, 60, 18, 19, 20, 21, 22, 23, 24, 25, 26, 27, 28, 29, 61, 62, 63, 64, 65, 66, 67, 68, 69, 70, 71, 72, 73, 74, 75, 76, 77, 78, 79, 80, 81, 82, 83, 84, 85, 86, 87, 88, 89, 90, 91, 92, 93, 94, 95, 96, 97, 98, 99, 100] (by decide +kernel) (by decide +kernel)
set_option maxRecDepth 20000 in
theorem gX12_triesPlanks_X12_endOf : GoodIn wsX12_triesPlanks (wsV RX12 249 RX12 yX12_endOf wsX12_endOf) := goodIn_app (goodIn_of _ (by decide +kernel)) ggX12_triesPlanks_X12_endOf
theorem dX12_triesPlanks_0 : decode cX12_triesPlanks 0 = .ok (.iconst 0, 1) := by decide +kernel
theorem dX12_triesPlanks_1 : decode cX12_triesPlanks 1 = .ok (.istore 5, 2) := by decide +kernel
theorem dX12_triesPlanks_3 : decode cX12_triesPlanks 3 = .ok (.iload 5, 2) := by decide +kernel
theorem dX12_triesPlanks_5 : decode cX12_triesPlanks 5 = .ok (.iconst 2, 1) := by decide +kernel
theorem dX12_triesPlanks_6 : decode cX12_triesPlanks 6 = .ok (.aload_n 0, 1) := by decide +kernel
theorem dX12_triesPlanks_7 : decode cX12_triesPlanks 7 = .ok (.invokevirtual 223, 3) := by decide +kernel
theorem dX12_triesPlanks_10 : decode cX12_triesPlanks 10 = .ok (.imul, 1) := by decide +kernel
theorem dX12_triesPlanks_11 : decode cX12_triesPlanks 11 = .ok (.if_icmp .ge 118, 3) := by decide +kernel
theorem dX12_triesPlanks_14 : decode cX12_triesPlanks 14 = .ok (.aload_n 0, 1) := by decide +kernel
theorem dX12_triesPlanks_15 : decode cX12_triesPlanks 15 = .ok (.iload 5, 2) := by decide +kernel
theorem dX12_triesPlanks_17 : decode cX12_triesPlanks 17 = .ok (.invokevirtual 260, 3) := by decide +kernel
theorem dX12_triesPlanks_20 : decode cX12_triesPlanks 20 = .ok (.ifCond .eq 103, 3) := by decide +kernel
theorem dX12_triesPlanks_23 : decode cX12_triesPlanks 23 = .ok (.aload_n 0, 1) := by decide +kernel
theorem dX12_triesPlanks_24 : decode cX12_triesPlanks 24 = .ok (.iload 5, 2) := by decide +kernel
theorem dX12_triesPlanks_26 : decode cX12_triesPlanks 26 = .ok (.putfield 56, 3) := by decide +kernel
theorem dX12_triesPlanks_29 : decode cX12_triesPlanks 29 = .ok (.aload_n 0, 1) := by decide +kernel
theorem dX12_triesPlanks_30 : decode cX12_triesPlanks 30 = .ok (.bipush (-9), 2) := by decide +kernel
theorem dX12_triesPlanks_32 : decode cX12_triesPlanks 32 = .ok (.putfield 60, 3) := by decide +kernel
theorem dX12_triesPlanks_35 : decode cX12_triesPlanks 35 = .ok (.iload 4, 2) := by decide +kernel
theorem dX12_triesPlanks_37 : decode cX12_triesPlanks 37 = .ok (.iconst 1, 1) := by decide +kernel
theorem dX12_triesPlanks_38 : decode cX12_triesPlanks 38 = .ok (.if_icmp .ne 15, 3) := by decide +kernel
theorem dX12_triesPlanks_41 : decode cX12_triesPlanks 41 = .ok (.aload_n 0, 1) := by decide +kernel
theorem dX12_triesPlanks_42 : decode cX12_triesPlanks 42 = .ok (.iload_n 1, 1) := by decide +kernel
theorem dX12_triesPlanks_43 : decode cX12_triesPlanks 43 = .ok (.iload_n 2, 1) := by decide +kernel
theorem dX12_triesPlanks_44 : decode cX12_triesPlanks 44 = .ok (.invokevirtual 249, 3) := by decide +kernel
theorem dX12_triesPlanks_47 : decode cX12_triesPlanks 47 = .ok (.iload_n 3, 1) := by decide +kernel
theorem dX12_triesPlanks_48 : decode cX12_triesPlanks 48 = .ok (.if_icmp .ne 5, 3) := by decide +kernel
theorem dX12_triesPlanks_51 : decode cX12_triesPlanks 51 = .ok (.iconst 1, 1) := by decide +kernel
theorem dX12_triesPlanks_52 : decode cX12_triesPlanks 52 = .ok (.ireturn, 1) := by decide +kernel
theorem dX12_triesPlanks_53 : decode cX12_triesPlanks 53 = .ok (.iload 5, 2) := by decide +kernel
theorem dX12_triesPlanks_55 : decode cX12_triesPlanks 55 = .ok (.iconst 1, 1) := by decide +kernel
theorem dX12_triesPlanks_56 : decode cX12_triesPlanks 56 = .ok (.iadd, 1) := by decide +kernel
theorem dX12_triesPlanks_57 : decode cX12_triesPlanks 57 = .ok (.istore 6, 2) := by decide +kernel
theorem dX12_triesPlanks_59 : decode cX12_triesPlanks 59 = .ok (.iload 6, 2) := by decide +kernel
theorem dX12_triesPlanks_61 : decode cX12_triesPlanks 61 = .ok (.iconst 2, 1) := by decide +kernel
theorem dX12_triesPlanks_62 : decode cX12_triesPlanks 62 = .ok (.aload_n 0, 1) := by decide +kernel
theorem dX12_triesPlanks_63 : decode cX12_triesPlanks 63 = .ok (.invokevirtual 223, 3) := by decide +kernel
theorem dX12_triesPlanks_66 : decode cX12_triesPlanks 66 = .ok (.imul, 1) := by decide +kernel
theorem dX12_triesPlanks_67 : decode cX12_triesPlanks 67 = .ok (.if_icmp .ge 56, 3) := by decide +kernel
theorem dX12_triesPlanks_70 : decode cX12_triesPlanks 70 = .ok (.iload 4, 2) := by decide +kernel
theorem dX12_triesPlanks_72 : decode cX12_triesPlanks 72 = .ok (.iconst 2, 1) := by decide +kernel
theorem dX12_triesPlanks_73 : decode cX12_triesPlanks 73 = .ok (.if_icmp .ne 50, 3) := by decide +kernel
theorem dX12_triesPlanks_76 : decode cX12_triesPlanks 76 = .ok (.aload_n 0, 1) := by decide +kernel
theorem dX12_triesPlanks_77 : decode cX12_triesPlanks 77 = .ok (.aload_n 0, 1) := by decide +kernel
theorem dX12_triesPlanks_78 : decode cX12_triesPlanks 78 = .ok (.iload 6, 2) := by decide +kernel
theorem dX12_triesPlanks_80 : decode cX12_triesPlanks 80 = .ok (.invokevirtual 260, 3) := by decide +kernel
theorem dX12_triesPlanks_83 : decode cX12_triesPlanks 83 = .ok (.ifCond .eq 8, 3) := by decide +kernel
theorem dX12_triesPlanks_86 : decode cX12_triesPlanks 86 = .ok (.iload 6, 2) := by decide +kernel
theorem dX12_triesPlanks_88 : decode cX12_triesPlanks 88 = .ok (.goto 5, 3) := by decide +kernel
theorem dX12_triesPlanks_91 : decode cX12_triesPlanks 91 = .ok (.bipush (-9), 2) := by decide +kernel
theorem dX12_triesPlanks_93 : decode cX12_triesPlanks 93 = .ok (.putfield 60, 3) := by decide +kernel
theorem dX12_triesPlanks_96 : decode cX12_triesPlanks 96 = .ok (.aload_n 0, 1) := by decide +kernel
theorem dX12_triesPlanks_97 : decode cX12_triesPlanks 97 = .ok (.getfield 60, 3) := by decide +kernel
theorem dX12_triesPlanks_100 : decode cX12_triesPlanks 100 = .ok (.bipush (-9), 2) := by decide +kernel
theorem dX12_triesPlanks_102 : decode cX12_triesPlanks 102 = .ok (.if_icmp .eq 15, 3) := by decide +kernel
theorem dX12_triesPlanks_105 : decode cX12_triesPlanks 105 = .ok (.aload_n 0, 1) := by decide +kernel
theorem dX12_triesPlanks_106 : decode cX12_triesPlanks 106 = .ok (.iload_n 1, 1) := by decide +kernel
theorem dX12_triesPlanks_107 : decode cX12_triesPlanks 107 = .ok (.iload_n 2, 1) := by decide +kernel
theorem dX12_triesPlanks_108 : decode cX12_triesPlanks 108 = .ok (.invokevirtual 249, 3) := by decide +kernel
theorem dX12_triesPlanks_111 : decode cX12_triesPlanks 111 = .ok (.iload_n 3, 1) := by decide +kernel
theorem dX12_triesPlanks_112 : decode cX12_triesPlanks 112 = .ok (.if_icmp .ne 5, 3) := by decide +kernel
theorem dX12_triesPlanks_115 : decode cX12_triesPlanks 115 = .ok (.iconst 1, 1) := by decide +kernel
theorem dX12_triesPlanks_116 : decode cX12_triesPlanks 116 = .ok (.ireturn, 1) := by decide +kernel
theorem dX12_triesPlanks_117 : decode cX12_triesPlanks 117 = .ok (.iinc 6 1, 3) := by decide +kernel
theorem dX12_triesPlanks_120 : decode cX12_triesPlanks 120 = .ok (.goto (-61), 3) := by decide +kernel
theorem dX12_triesPlanks_123 : decode cX12_triesPlanks 123 = .ok (.iinc 5 1, 3) := by decide +kernel
theorem dX12_triesPlanks_126 : decode cX12_triesPlanks 126 = .ok (.goto (-123), 3) := by decide +kernel
theorem dX12_triesPlanks_129 : decode cX12_triesPlanks 129 = .ok (.iconst 0, 1) := by decide +kernel
theorem dX12_triesPlanks_130 : decode cX12_triesPlanks 130 = .ok (.ireturn, 1) := by decide +kernel
set_option maxRecDepth 20000 in
theorem ggX12_toldSide_X12_pairOf : GoodIn wsX12_toldSide wsX12_pairOf := goodIn_r _ [5, 6, 7, 8, 9, 10, 11, 12, 13, 14, 15, 16, 17, 18, 19, 20, 21, 22, 23, 24, 25, 26, 27, 28, 29, 30, 31, 32, 33, 34, 35, 36, 37, 38, 39, 40, 41, 42] (by decide +kernel) (by decide +kernel)
set_option maxRecDepth 20000 in
theorem gX12_toldSide_X12_pairOf : GoodIn wsX12_toldSide (wsV RX12 207 RX12 yX12_pairOf wsX12_pairOf) := goodIn_app (goodIn_of _ (by decide +kernel)) ggX12_toldSide_X12_pairOf
theorem dX12_toldSide_0 : decode cX12_toldSide 0 = .ok (.iload_n 1, 1) := by decide +kernel
theorem dX12_toldSide_1 : decode cX12_toldSide 1 = .ok (.bipush (-9), 2) := by decide +kernel
theorem dX12_toldSide_3 : decode cX12_toldSide 3 = .ok (.if_icmp .ne 8, 3) := by decide +kernel
theorem dX12_toldSide_6 : decode cX12_toldSide 6 = .ok (.bipush (-5), 2) := by decide +kernel
theorem dX12_toldSide_8 : decode cX12_toldSide 8 = .ok (.goto 17, 3) := by decide +kernel
theorem dX12_toldSide_11 : decode cX12_toldSide 11 = .ok (.bipush 10, 2) := by decide +kernel
theorem dX12_toldSide_13 : decode cX12_toldSide 13 = .ok (.aload_n 0, 1) := by decide +kernel
theorem dX12_toldSide_14 : decode cX12_toldSide 14 = .ok (.iload_n 1, 1) := by decide +kernel
theorem dX12_toldSide_15 : decode cX12_toldSide 15 = .ok (.iconst 2, 1) := by decide +kernel
theorem dX12_toldSide_16 : decode cX12_toldSide 16 = .ok (.idiv, 1) := by decide +kernel
theorem dX12_toldSide_17 : decode cX12_toldSide 17 = .ok (.invokevirtual 207, 3) := by decide +kernel
theorem dX12_toldSide_20 : decode cX12_toldSide 20 = .ok (.imul, 1) := by decide +kernel
theorem dX12_toldSide_21 : decode cX12_toldSide 21 = .ok (.iload_n 1, 1) := by decide +kernel
theorem dX12_toldSide_22 : decode cX12_toldSide 22 = .ok (.iconst 2, 1) := by decide +kernel
theorem dX12_toldSide_23 : decode cX12_toldSide 23 = .ok (.irem, 1) := by decide +kernel
theorem dX12_toldSide_24 : decode cX12_toldSide 24 = .ok (.iadd, 1) := by decide +kernel
theorem dX12_toldSide_25 : decode cX12_toldSide 25 = .ok (.ireturn, 1) := by decide +kernel
set_option maxRecDepth 20000 in
theorem ggX12_planks_X12_isKind : GoodIn wsX12_planks wsX12_isKind := goodIn_r _ [8, 9, 10, 11, 7, 12, 102, 103, 104, 105, 106, 107, 108, 109, 110, 111, 112, 113, 114, 115, 116, 117, 118, 119, 120, 121, 122, 123, 124, 125, 126, 127, 128, 129, 130, 131, 132, 133, 134, 135, 136, 137] (by decide +kernel) (by decide +kernel)
set_option maxRecDepth 20000 in
theorem gX12_planks_X12_isKind : GoodIn wsX12_planks (wsV RX12 220 RX12 yX12_isKind wsX12_isKind) := goodIn_app (goodIn_of _ (by decide +kernel)) ggX12_planks_X12_isKind
set_option maxRecDepth 20000 in
theorem ggX12_planks_X12_isPair : GoodIn wsX12_planks wsX12_isPair := goodIn_r _ [16, 17, 18, 19, 7, 20, 21, 22, 10, 11, 12, 102, 103, 104, 105, 106, 107, 108, 109, 110, 111, 112, 113, 114, 115, 116, 117, 118, 119, 120, 121, 122, 123, 124, 125, 126, 127, 128, 129, 130, 131, 132, 133, 134, 135, 136, 137] (by decide +kernel) (by decide +kernel)
set_option maxRecDepth 20000 in
theorem gX12_planks_X12_isPair : GoodIn wsX12_planks (wsV RX12 263 RX12 yX12_isPair wsX12_isPair) := goodIn_app (goodIn_of _ (by decide +kernel)) ggX12_planks_X12_isPair
set_option maxRecDepth 20000 in
theorem ggX12_planks_X12_in : GoodIn wsX12_planks wsX12_in := goodIn_r _ [12] (by decide +kernel) (by decide +kernel)
set_option maxRecDepth 20000 in
theorem gX12_planks_X12_in : GoodIn wsX12_planks (va_wsS RX12 68 yX12_in wsX12_in) := goodIn_app (goodIn_of _ (by decide +kernel)) ggX12_planks_X12_in
set_option maxRecDepth 20000 in
theorem ggX12_planks_X12_bitOf : GoodIn wsX12_planks wsX12_bitOf := goodIn_r _ [26, 27, 28, 29, 7, 30, 21, 102, 103, 104, 105, 106, 107, 108, 109, 110, 111, 112, 113, 114, 115, 116, 117, 118, 119, 120, 121, 122, 123, 124, 125, 126, 127, 128, 129, 130, 131, 132, 133, 134, 135, 136, 137] (by decide +kernel) (by decide +kernel)
set_option maxRecDepth 20000 in
theorem gX12_planks_X12_bitOf : GoodIn wsX12_planks (wsV RX12 266 RX12 yX12_bitOf wsX12_bitOf) := goodIn_app (goodIn_of _ (by decide +kernel)) ggX12_planks_X12_bitOf
set_option maxRecDepth 20000 in
theorem ggX12_planks_X12_endOf : GoodIn wsX12_planks wsX12_endOf := goodIn_r _ [34, 35, 36, 37, 38, 7, 39, 40, 41, 42, 43, 44, 45, 46, 47, 48, 49, 50, 51, 52, 53, 54, 55, 56, 57, 2, 3, 58, 59, 60, 61, 21, 22, 62, 63, 64, 65, 66, 67, 68, 69, 70, 71, 72, 73, 74, 75, 76, 77, 78, 79, 80, 81, 102, 103, 104, 105, 106, 107, 108, 109, 110, 111, 112, 113, 114, 115, 116, 117, 118, 119, 120, 121, 122, 123, 124, 125, 126, 127, 128, 129, 130, 131, 132, 133, 134, 135, 136, 137] (by decide +kernel) (by decide +kernel)
set_option maxRecDepth 20000 in
theorem gX12_planks_X12_endOf : GoodIn wsX12_planks (wsV RX12 249 RX12 yX12_endOf wsX12_endOf) := goodIn_app (goodIn_of _ (by decide +kernel)) ggX12_planks_X12_endOf
set_option maxRecDepth 20000 in
theorem ggX12_planks_X12_triesPlanks : GoodIn wsX12_planks wsX12_triesPlanks := goodIn_r _ [85, 2, 3, 86, 87, 88, 7, 89, 21, 22, 90, 91, 92, 93, 58, 59, 60, 61, 66, 67, 68, 69, 70, 71, 72, 73, 74, 75, 76, 77, 53, 31, 32, 33, 34, 35, 36, 37, 38, 39, 40, 41, 42, 43, 44, 45, 46, 47, 48, 49, 50, 51, 52, 54, 55, 56, 57, 62, 63, 64, 65, 78, 79, 80, 81, 102, 103, 104, 105, 106, 107, 108, 109, 110, 111, 112, 113, 114, 115, 116, 117, 118, 119, 120, 121, 122, 123, 124, 125, 126, 127, 128, 129, 130, 131, 132, 133, 134, 135, 136, 137] (by decide +kernel) (by decide +kernel)
set_option maxRecDepth 20000 in
theorem gX12_planks_X12_triesPlanks : GoodIn wsX12_planks (wsV RX12 269 RX12 yX12_triesPlanks wsX12_triesPlanks) := goodIn_app (goodIn_of _ (by decide +kernel)) ggX12_planks_X12_triesPlanks
set_option maxRecDepth 20000 in
theorem ggX12_planks_X12_toldSide : GoodIn wsX12_planks wsX12_toldSide := goodIn_r _ [97, 98, 99, 100, 7, 101, 21, 102, 103, 104, 105, 106, 107, 108, 109, 110, 111, 112, 113, 114, 115, 116, 117, 118, 119, 120, 121, 122, 123, 124, 125, 126, 127, 128, 129, 130, 131, 132, 133, 134, 135, 136, 137] (by decide +kernel) (by decide +kernel)
set_option maxRecDepth 20000 in
theorem gX12_planks_X12_toldSide : GoodIn wsX12_planks (wsV RX12 273 RX12 yX12_toldSide wsX12_toldSide) := goodIn_app (goodIn_of _ (by decide +kernel)) ggX12_planks_X12_toldSide

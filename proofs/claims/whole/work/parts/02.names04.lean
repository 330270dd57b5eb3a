theorem dX11_end_69 : decode cX11_end 69 = .ok (.if_icmp .ne 13, 3) := by decide +kernel
theorem dX11_end_72 : decode cX11_end 72 = .ok (.aload_n 0, 1) := by decide +kernel
theorem dX11_end_73 : decode cX11_end 73 = .ok (.getfield 48, 3) := by decide +kernel
theorem dX11_end_76 : decode cX11_end 76 = .ok (.getfield 204, 3) := by decide +kernel
theorem dX11_end_79 : decode cX11_end 79 = .ok (.goto 10, 3) := by decide +kernel
theorem dX11_end_82 : decode cX11_end 82 = .ok (.aload_n 0, 1) := by decide +kernel
theorem dX11_end_83 : decode cX11_end 83 = .ok (.getfield 48, 3) := by decide +kernel
theorem dX11_end_86 : decode cX11_end 86 = .ok (.getfield 207, 3) := by decide +kernel
theorem dX11_end_89 : decode cX11_end 89 = .ok (.ireturn, 1) := by decide +kernel
set_option maxRecDepth 20000 in
theorem ggX11_doors_X2_cellAt : GoodIn wsX11_doors wsX2_cellAt := goodIn_r _ [6, 7, 8, 78, 79, 80, 81, 82, 83, 84, 85, 86, 87, 88, 89] (by decide +kernel) (by decide +kernel)
set_option maxRecDepth 20000 in
theorem gX11_doors_X2_cellAt : GoodIn wsX11_doors (wsV RX11 109 RX2 yX2_cellAt wsX2_cellAt) := goodIn_app (goodIn_of _ (by decide +kernel)) ggX11_doors_X2_cellAt
set_option maxRecDepth 20000 in
theorem ggX11_doors_X11_isKind : GoodIn wsX11_doors wsX11_isKind := goodIn_r _ [13, 1, 14, 61, 62, 63, 64, 65, 66, 67, 68, 69, 70, 71, 72, 73, 74, 75, 76, 77, 78, 79, 80, 81, 82, 83, 84, 85, 86, 87, 88, 89] (by decide +kernel) (by decide +kernel)
set_option maxRecDepth 20000 in
theorem gX11_doors_X11_isKind : GoodIn wsX11_doors (wsV RX11 135 RX11 yX11_isKind wsX11_isKind) := goodIn_app (goodIn_of _ (by decide +kernel)) ggX11_doors_X11_isKind
set_option maxRecDepth 20000 in
theorem ggX11_doors_X11_doorBits : GoodIn wsX11_doors wsX11_doorBits := goodIn_r _ [18, 1, 19, 20, 21, 22, 12, 23, 24, 25, 26, 27, 28, 29, 30, 31, 32, 33, 34, 35, 36, 37, 38, 39, 40, 41, 42, 43, 44, 45, 46, 47, 48, 49, 50, 51, 52, 53, 54, 55, 56, 57, 58, 5, 59, 60, 61, 62, 63, 64, 65, 66, 67, 68, 69, 70, 71, 72, 73, 74, 75, 76, 77, 78, 79, 80, 81, 82, 83, 84, 85, 86, 87, 88, 89, 90, 91, 92, 93, 94, 95, 96, 97, 98, 99, 100, 101, 102, 103, 104, 105, 106] (by decide +kernel) (by decide +kernel)
set_option maxRecDepth 20000 in
theorem gX11_doors_X11_doorBits : GoodIn wsX11_doors (wsV RX11 210 RX11 yX11_doorBits wsX11_doorBits) := goodIn_app (goodIn_of _ (by decide +kernel)) ggX11_doors_X11_doorBits
theorem dX11_doors_0 : decode cX11_doors 0 = .ok (.aload_n 0, 1) := by decide +kernel
theorem dX11_doors_1 : decode cX11_doors 1 = .ok (.getfield 16, 3) := by decide +kernel
theorem dX11_doors_4 : decode cX11_doors 4 = .ok (.iload_n 2, 1) := by decide +kernel
theorem dX11_doors_5 : decode cX11_doors 5 = .ok (.iload_n 3, 1) := by decide +kernel
theorem dX11_doors_6 : decode cX11_doors 6 = .ok (.invokevirtual 109, 3) := by decide +kernel
theorem dX11_doors_9 : decode cX11_doors 9 = .ok (.istore 4, 2) := by decide +kernel
theorem dX11_doors_11 : decode cX11_doors 11 = .ok (.aload_n 0, 1) := by decide +kernel
theorem dX11_doors_12 : decode cX11_doors 12 = .ok (.iload_n 1, 1) := by decide +kernel
theorem dX11_doors_13 : decode cX11_doors 13 = .ok (.invokevirtual 135, 3) := by decide +kernel
theorem dX11_doors_16 : decode cX11_doors 16 = .ok (.ifCond .eq 9, 3) := by decide +kernel
theorem dX11_doors_19 : decode cX11_doors 19 = .ok (.iload 4, 2) := by decide +kernel
theorem dX11_doors_21 : decode cX11_doors 21 = .ok (.iconst (-1), 1) := by decide +kernel
theorem dX11_doors_22 : decode cX11_doors 22 = .ok (.if_icmp .ne 5, 3) := by decide +kernel
theorem dX11_doors_25 : decode cX11_doors 25 = .ok (.iconst (-1), 1) := by decide +kernel
theorem dX11_doors_26 : decode cX11_doors 26 = .ok (.ireturn, 1) := by decide +kernel
theorem dX11_doors_27 : decode cX11_doors 27 = .ok (.aload_n 0, 1) := by decide +kernel
theorem dX11_doors_28 : decode cX11_doors 28 = .ok (.iload_n 1, 1) := by decide +kernel
theorem dX11_doors_29 : decode cX11_doors 29 = .ok (.iload 4, 2) := by decide +kernel
theorem dX11_doors_31 : decode cX11_doors 31 = .ok (.invokevirtual 210, 3) := by decide +kernel
theorem dX11_doors_34 : decode cX11_doors 34 = .ok (.ireturn, 1) := by decide +kernel
set_option maxRecDepth 20000 in
theorem ggX11_planks_X2_cellOfPair : GoodIn wsX11_planks wsX2_cellOfPair := goodIn_r _ [11, 12, 13, 14, 10, 15, 16, 17, 136, 137, 138, 139, 140, 141, 142, 143, 144, 145, 146, 147] (by decide +kernel) (by decide +kernel)
set_option maxRecDepth 20000 in
theorem gX11_planks_X2_cellOfPair : GoodIn wsX11_planks (wsV RX11 213 RX2 yX2_cellOfPair wsX2_cellOfPair) := goodIn_app (goodIn_of _ (by decide +kernel)) ggX11_planks_X2_cellOfPair
set_option maxRecDepth 20000 in
theorem ggX11_planks_X11_isKind : GoodIn wsX11_planks wsX11_isKind := goodIn_r _ [22, 1, 23, 113, 114, 115, 116, 117, 118, 119, 120, 121, 122, 123, 124, 125, 126, 127, 128, 129, 136, 137, 138, 139, 140, 141, 142, 143, 144, 145, 146, 147] (by decide +kernel) (by decide +kernel)
set_option maxRecDepth 20000 in
theorem gX11_planks_X11_isKind : GoodIn wsX11_planks (wsV RX11 135 RX11 yX11_isKind wsX11_isKind) := goodIn_app (goodIn_of _ (by decide +kernel)) ggX11_planks_X11_isKind
set_option maxRecDepth 20000 in
theorem ggX11_planks_X6_seek : GoodIn wsX11_planks wsX6_seek := goodIn_r _ [28, 29, 30, 31, 32, 33, 34, 35, 36, 37, 38, 39, 40, 41, 42, 43, 44, 45, 46, 47, 48, 49, 50, 51, 52, 53, 54, 55, 56, 57, 58, 59, 60, 61, 62, 63, 64, 65, 66, 67, 68, 10, 69, 70, 71, 72, 27, 73, 74, 75, 76, 77, 78, 79, 80, 81, 82, 83, 84, 85, 86, 87, 88, 89, 90, 91, 92, 93, 94, 95, 96, 97, 98, 99, 100, 101, 102, 103, 104, 130, 131, 132, 133, 134, 135, 148, 149, 150, 151, 152, 136, 137, 138, 139, 140, 141, 142, 143, 144, 145, 146, 147, 153, 154, 155, 156, 157, 158, 159, 160, 161, 162, 163, 164] (by decide +kernel) (by decide +kernel)
set_option maxRecDepth 20000 in
theorem gX11_planks_X6_seek : GoodIn wsX11_planks (wsV RX11 216 RX6 yX6_seek wsX6_seek) := goodIn_app (goodIn_of _ (by decide +kernel)) ggX11_planks_X6_seek
set_option maxRecDepth 20000 in
theorem ggX11_planks_X11_sideCode : GoodIn wsX11_planks wsX11_sideCode := goodIn_r _ [108, 1, 109, 110, 111, 10, 112, 16, 113, 114, 115, 116, 117, 118, 119, 120, 121, 122, 123, 124, 125, 126, 127, 128, 129, 136, 137, 138, 139, 140, 141, 142, 143, 144, 145, 146, 147] (by decide +kernel) (by decide +kernel)
set_option maxRecDepth 20000 in
theorem gX11_planks_X11_sideCode : GoodIn wsX11_planks (wsV RX11 229 RX11 yX11_sideCode wsX11_sideCode) := goodIn_app (goodIn_of _ (by decide +kernel)) ggX11_planks_X11_sideCode
theorem dX11_planks_0 : decode cX11_planks 0 = .ok (.aload_n 0, 1) := by decide +kernel
theorem dX11_planks_1 : decode cX11_planks 1 = .ok (.getfield 16, 3) := by decide +kernel
theorem dX11_planks_4 : decode cX11_planks 4 = .ok (.iload_n 2, 1) := by decide +kernel
theorem dX11_planks_5 : decode cX11_planks 5 = .ok (.invokevirtual 213, 3) := by decide +kernel
theorem dX11_planks_8 : decode cX11_planks 8 = .ok (.istore 5, 2) := by decide +kernel
theorem dX11_planks_10 : decode cX11_planks 10 = .ok (.aload_n 0, 1) := by decide +kernel
theorem dX11_planks_11 : decode cX11_planks 11 = .ok (.getfield 16, 3) := by decide +kernel
theorem dX11_planks_14 : decode cX11_planks 14 = .ok (.iload_n 3, 1) := by decide +kernel
theorem dX11_planks_15 : decode cX11_planks 15 = .ok (.invokevirtual 213, 3) := by decide +kernel
theorem dX11_planks_18 : decode cX11_planks 18 = .ok (.istore 6, 2) := by decide +kernel
theorem dX11_planks_20 : decode cX11_planks 20 = .ok (.aload_n 0, 1) := by decide +kernel
theorem dX11_planks_21 : decode cX11_planks 21 = .ok (.iload_n 1, 1) := by decide +kernel
theorem dX11_planks_22 : decode cX11_planks 22 = .ok (.invokevirtual 135, 3) := by decide +kernel
theorem dX11_planks_25 : decode cX11_planks 25 = .ok (.ifCond .eq 26, 3) := by decide +kernel
theorem dX11_planks_28 : decode cX11_planks 28 = .ok (.iload 5, 2) := by decide +kernel
theorem dX11_planks_30 : decode cX11_planks 30 = .ok (.iconst (-1), 1) := by decide +kernel
theorem dX11_planks_31 : decode cX11_planks 31 = .ok (.if_icmp .eq 20, 3) := by decide +kernel
theorem dX11_planks_34 : decode cX11_planks 34 = .ok (.iload 6, 2) := by decide +kernel
theorem dX11_planks_36 : decode cX11_planks 36 = .ok (.iconst (-1), 1) := by decide +kernel
theorem dX11_planks_37 : decode cX11_planks 37 = .ok (.if_icmp .eq 14, 3) := by decide +kernel
theorem dX11_planks_40 : decode cX11_planks 40 = .ok (.iload 4, 2) := by decide +kernel
theorem dX11_planks_42 : decode cX11_planks 42 = .ok (.ifCond .lt 9, 3) := by decide +kernel
theorem dX11_planks_45 : decode cX11_planks 45 = .ok (.iload 4, 2) := by decide +kernel
theorem dX11_planks_47 : decode cX11_planks 47 = .ok (.iconst 2, 1) := by decide +kernel
theorem dX11_planks_48 : decode cX11_planks 48 = .ok (.if_icmp .le 5, 3) := by decide +kernel
theorem dX11_planks_51 : decode cX11_planks 51 = .ok (.iconst (-1), 1) := by decide +kernel
theorem dX11_planks_52 : decode cX11_planks 52 = .ok (.ireturn, 1) := by decide +kernel
theorem dX11_planks_53 : decode cX11_planks 53 = .ok (.aload_n 0, 1) := by decide +kernel
theorem dX11_planks_54 : decode cX11_planks 54 = .ok (.getfield 55, 3) := by decide +kernel
theorem dX11_planks_57 : decode cX11_planks 57 = .ok (.aload_n 0, 1) := by decide +kernel
theorem dX11_planks_58 : decode cX11_planks 58 = .ok (.getfield 16, 3) := by decide +kernel
theorem dX11_planks_61 : decode cX11_planks 61 = .ok (.aload_n 0, 1) := by decide +kernel
theorem dX11_planks_62 : decode cX11_planks 62 = .ok (.getfield 33, 3) := by decide +kernel
theorem dX11_planks_65 : decode cX11_planks 65 = .ok (.iload_n 1, 1) := by decide +kernel
theorem dX11_planks_66 : decode cX11_planks 66 = .ok (.iload 5, 2) := by decide +kernel
theorem dX11_planks_68 : decode cX11_planks 68 = .ok (.iload 6, 2) := by decide +kernel
theorem dX11_planks_70 : decode cX11_planks 70 = .ok (.invokevirtual 216, 3) := by decide +kernel
theorem dX11_planks_73 : decode cX11_planks 73 = .ok (.aload_n 0, 1) := by decide +kernel
theorem dX11_planks_74 : decode cX11_planks 74 = .ok (.getfield 55, 3) := by decide +kernel
theorem dX11_planks_77 : decode cX11_planks 77 = .ok (.getfield 220, 3) := by decide +kernel
theorem dX11_planks_80 : decode cX11_planks 80 = .ok (.bipush (-9), 2) := by decide +kernel
theorem dX11_planks_82 : decode cX11_planks 82 = .ok (.if_icmp .eq 8, 3) := by decide +kernel
theorem dX11_planks_85 : decode cX11_planks 85 = .ok (.iload 4, 2) := by decide +kernel
theorem dX11_planks_87 : decode cX11_planks 87 = .ok (.ifCond .ne 11, 3) := by decide +kernel
theorem dX11_planks_90 : decode cX11_planks 90 = .ok (.aload_n 0, 1) := by decide +kernel
theorem dX11_planks_91 : decode cX11_planks 91 = .ok (.getfield 55, 3) := by decide +kernel
theorem dX11_planks_94 : decode cX11_planks 94 = .ok (.getfield 220, 3) := by decide +kernel
theorem dX11_planks_97 : decode cX11_planks 97 = .ok (.ireturn, 1) := by decide +kernel
theorem dX11_planks_98 : decode cX11_planks 98 = .ok (.aload_n 0, 1) := by decide +kernel
theorem dX11_planks_99 : decode cX11_planks 99 = .ok (.getfield 55, 3) := by decide +kernel
theorem dX11_planks_102 : decode cX11_planks 102 = .ok (.getfield 220, 3) := by decide +kernel
theorem dX11_planks_105 : decode cX11_planks 105 = .ok (.iload 4, 2) := by decide +kernel
theorem dX11_planks_107 : decode cX11_planks 107 = .ok (.if_icmp .ge 6, 3) := by decide +kernel
theorem dX11_planks_110 : decode cX11_planks 110 = .ok (.bipush (-5), 2) := by decide +kernel
theorem dX11_planks_112 : decode cX11_planks 112 = .ok (.ireturn, 1) := by decide +kernel
theorem dX11_planks_113 : decode cX11_planks 113 = .ok (.aload_n 0, 1) := by decide +kernel
theorem dX11_planks_114 : decode cX11_planks 114 = .ok (.iload 4, 2) := by decide +kernel
theorem dX11_planks_116 : decode cX11_planks 116 = .ok (.iconst 1, 1) := by decide +kernel
theorem dX11_planks_117 : decode cX11_planks 117 = .ok (.if_icmp .ne 13, 3) := by decide +kernel
theorem dX11_planks_120 : decode cX11_planks 120 = .ok (.aload_n 0, 1) := by decide +kernel
theorem dX11_planks_121 : decode cX11_planks 121 = .ok (.getfield 55, 3) := by decide +kernel
theorem dX11_planks_124 : decode cX11_planks 124 = .ok (.getfield 223, 3) := by decide +kernel
theorem dX11_planks_127 : decode cX11_planks 127 = .ok (.goto 10, 3) := by decide +kernel
theorem dX11_planks_130 : decode cX11_planks 130 = .ok (.aload_n 0, 1) := by decide +kernel
theorem dX11_planks_131 : decode cX11_planks 131 = .ok (.getfield 55, 3) := by decide +kernel
theorem dX11_planks_134 : decode cX11_planks 134 = .ok (.getfield 226, 3) := by decide +kernel
theorem dX11_planks_137 : decode cX11_planks 137 = .ok (.invokevirtual 229, 3) := by decide +kernel
theorem dX11_planks_140 : decode cX11_planks 140 = .ok (.ireturn, 1) := by decide +kernel
set_option maxRecDepth 20000 in
theorem ggX11_paved_X2_cellAt : GoodIn wsX11_paved wsX2_cellAt := goodIn_r _ [9, 10, 11, 94, 95, 96, 97, 98, 99, 100, 101, 102, 103, 104, 105] (by decide +kernel) (by decide +kernel)
set_option maxRecDepth 20000 in
theorem gX11_paved_X2_cellAt : GoodIn wsX11_paved (wsV RX11 109 RX2 yX2_cellAt wsX2_cellAt) := goodIn_app (goodIn_of _ (by decide +kernel)) ggX11_paved_X2_cellAt
set_option maxRecDepth 20000 in
theorem ggX11_paved_X11_isKind : GoodIn wsX11_paved wsX11_isKind := goodIn_r _ [16, 1, 17, 77, 78, 79, 80, 81, 82, 83, 84, 85, 86, 87, 88, 89, 90, 91, 92, 93, 94, 95, 96, 97, 98, 99, 100, 101, 102, 103, 104, 105] (by decide +kernel) (by decide +kernel)
set_option maxRecDepth 20000 in
theorem gX11_paved_X11_isKind : GoodIn wsX11_paved (wsV RX11 135 RX11 yX11_isKind wsX11_isKind) := goodIn_app (goodIn_of _ (by decide +kernel)) ggX11_paved_X11_isKind
set_option maxRecDepth 20000 in
theorem ggX11_paved_X11_doorsWithout : GoodIn wsX11_paved wsX11_doorsWithout := goodIn_r _ [21, 3, 4, 22, 23, 24, 15, 25, 1, 2, 26, 27, 28, 29, 30, 31, 32, 33, 34, 35, 36, 37, 38, 39, 40, 41, 42, 43, 44, 45, 46, 47, 48, 49, 50, 51, 52, 53, 54, 55, 56, 57, 58, 59, 60, 61, 62, 63, 8, 64, 65, 66, 67, 68, 69, 70, 71, 72, 77, 78, 79, 80, 81, 82, 83, 84, 85, 86, 87, 88, 89, 90, 91, 92, 93, 106, 107, 108, 109, 110, 111, 112, 113, 114, 115, 116, 117, 94, 95, 96, 97, 98, 99, 100, 101, 102, 103, 104, 105, 118, 119, 120, 121, 122] (by decide +kernel) (by decide +kernel)
set_option maxRecDepth 20000 in
theorem gX11_paved_X11_doorsWithout : GoodIn wsX11_paved (wsV RX11 235 RX11 yX11_doorsWithout wsX11_doorsWithout) := goodIn_app (goodIn_of _ (by decide +kernel)) ggX11_paved_X11_doorsWithout
set_option maxRecDepth 20000 in
theorem ggX11_paved_X2_pairOf : GoodIn wsX11_paved wsX2_pairOf := goodIn_r _ [76, 10, 94, 95, 96, 97, 98, 99, 100, 101, 102, 103, 104, 105] (by decide +kernel) (by decide +kernel)
set_option maxRecDepth 20000 in
theorem gX11_paved_X2_pairOf : GoodIn wsX11_paved (wsV RX11 239 RX2 yX2_pairOf wsX2_pairOf) := goodIn_app (goodIn_of _ (by decide +kernel)) ggX11_paved_X2_pairOf
theorem dX11_paved_0 : decode cX11_paved 0 = .ok (.aload_n 0, 1) := by decide +kernel
theorem dX11_paved_1 : decode cX11_paved 1 = .ok (.getfield 16, 3) := by decide +kernel
theorem dX11_paved_4 : decode cX11_paved 4 = .ok (.iload_n 2, 1) := by decide +kernel
theorem dX11_paved_5 : decode cX11_paved 5 = .ok (.iload_n 3, 1) := by decide +kernel
theorem dX11_paved_6 : decode cX11_paved 6 = .ok (.invokevirtual 109, 3) := by decide +kernel
theorem dX11_paved_9 : decode cX11_paved 9 = .ok (.istore 5, 2) := by decide +kernel
theorem dX11_paved_11 : decode cX11_paved 11 = .ok (.aload_n 0, 1) := by decide +kernel
theorem dX11_paved_12 : decode cX11_paved 12 = .ok (.iload_n 1, 1) := by decide +kernel
theorem dX11_paved_13 : decode cX11_paved 13 = .ok (.invokevirtual 135, 3) := by decide +kernel
theorem dX11_paved_16 : decode cX11_paved 16 = .ok (.ifCond .eq 20, 3) := by decide +kernel
theorem dX11_paved_19 : decode cX11_paved 19 = .ok (.iload 5, 2) := by decide +kernel
theorem dX11_paved_21 : decode cX11_paved 21 = .ok (.iconst (-1), 1) := by decide +kernel
theorem dX11_paved_22 : decode cX11_paved 22 = .ok (.if_icmp .eq 14, 3) := by decide +kernel
theorem dX11_paved_25 : decode cX11_paved 25 = .ok (.iload 4, 2) := by decide +kernel
theorem dX11_paved_27 : decode cX11_paved 27 = .ok (.ifCond .eq 11, 3) := by decide +kernel
theorem dX11_paved_30 : decode cX11_paved 30 = .ok (.iload 4, 2) := by decide +kernel
theorem dX11_paved_32 : decode cX11_paved 32 = .ok (.iconst 1, 1) := by decide +kernel
theorem dX11_paved_33 : decode cX11_paved 33 = .ok (.if_icmp .eq 5, 3) := by decide +kernel
theorem dX11_paved_36 : decode cX11_paved 36 = .ok (.iconst (-1), 1) := by decide +kernel
theorem dX11_paved_37 : decode cX11_paved 37 = .ok (.ireturn, 1) := by decide +kernel
theorem dX11_paved_38 : decode cX11_paved 38 = .ok (.iconst (-1), 1) := by decide +kernel
theorem dX11_paved_39 : decode cX11_paved 39 = .ok (.istore 6, 2) := by decide +kernel
theorem dX11_paved_41 : decode cX11_paved 41 = .ok (.bipush (-9), 2) := by decide +kernel
theorem dX11_paved_43 : decode cX11_paved 43 = .ok (.istore 7, 2) := by decide +kernel
theorem dX11_paved_45 : decode cX11_paved 45 = .ok (.iconst 0, 1) := by decide +kernel
theorem dX11_paved_46 : decode cX11_paved 46 = .ok (.istore 8, 2) := by decide +kernel
theorem dX11_paved_48 : decode cX11_paved 48 = .ok (.iload 8, 2) := by decide +kernel
theorem dX11_paved_50 : decode cX11_paved 50 = .ok (.aload_n 0, 1) := by decide +kernel
theorem dX11_paved_51 : decode cX11_paved 51 = .ok (.getfield 16, 3) := by decide +kernel
theorem dX11_paved_54 : decode cX11_paved 54 = .ok (.getfield 232, 3) := by decide +kernel
theorem dX11_paved_57 : decode cX11_paved 57 = .ok (.if_icmp .ge 48, 3) := by decide +kernel
theorem dX11_paved_60 : decode cX11_paved 60 = .ok (.aload_n 0, 1) := by decide +kernel
theorem dX11_paved_61 : decode cX11_paved 61 = .ok (.getfield 33, 3) := by decide +kernel
theorem dX11_paved_64 : decode cX11_paved 64 = .ok (.getfield 113, 3) := by decide +kernel
theorem dX11_paved_67 : decode cX11_paved 67 = .ok (.iload 8, 2) := by decide +kernel
theorem dX11_paved_69 : decode cX11_paved 69 = .ok (.iaload, 1) := by decide +kernel
theorem dX11_paved_70 : decode cX11_paved 70 = .ok (.ifCond .le 29, 3) := by decide +kernel
theorem dX11_paved_73 : decode cX11_paved 73 = .ok (.aload_n 0, 1) := by decide +kernel
theorem dX11_paved_74 : decode cX11_paved 74 = .ok (.iload_n 1, 1) := by decide +kernel
theorem dX11_paved_75 : decode cX11_paved 75 = .ok (.iload 5, 2) := by decide +kernel
theorem dX11_paved_77 : decode cX11_paved 77 = .ok (.iload 8, 2) := by decide +kernel
theorem dX11_paved_79 : decode cX11_paved 79 = .ok (.invokevirtual 235, 3) := by decide +kernel
theorem dX11_paved_82 : decode cX11_paved 82 = .ok (.istore 9, 2) := by decide +kernel
theorem dX11_paved_84 : decode cX11_paved 84 = .ok (.iload 9, 2) := by decide +kernel
theorem dX11_paved_86 : decode cX11_paved 86 = .ok (.iload 7, 2) := by decide +kernel
theorem dX11_paved_88 : decode cX11_paved 88 = .ok (.if_icmp .le 11, 3) := by decide +kernel
theorem dX11_paved_91 : decode cX11_paved 91 = .ok (.iload 9, 2) := by decide +kernel
theorem dX11_paved_93 : decode cX11_paved 93 = .ok (.istore 7, 2) := by decide +kernel
theorem dX11_paved_95 : decode cX11_paved 95 = .ok (.iload 8, 2) := by decide +kernel
theorem dX11_paved_97 : decode cX11_paved 97 = .ok (.istore 6, 2) := by decide +kernel
theorem dX11_paved_99 : decode cX11_paved 99 = .ok (.iinc 8 1, 3) := by decide +kernel
theorem dX11_paved_102 : decode cX11_paved 102 = .ok (.goto (-54), 3) := by decide +kernel
theorem dX11_paved_105 : decode cX11_paved 105 = .ok (.iload 6, 2) := by decide +kernel
theorem dX11_paved_107 : decode cX11_paved 107 = .ok (.iconst (-1), 1) := by decide +kernel
theorem dX11_paved_108 : decode cX11_paved 108 = .ok (.if_icmp .ne 6, 3) := by decide +kernel
theorem dX11_paved_111 : decode cX11_paved 111 = .ok (.bipush (-9), 2) := by decide +kernel
theorem dX11_paved_113 : decode cX11_paved 113 = .ok (.ireturn, 1) := by decide +kernel
theorem dX11_paved_114 : decode cX11_paved 114 = .ok (.iload 4, 2) := by decide +kernel
theorem dX11_paved_116 : decode cX11_paved 116 = .ok (.ifCond .ne 15, 3) := by decide +kernel
theorem dX11_paved_119 : decode cX11_paved 119 = .ok (.aload_n 0, 1) := by decide +kernel
theorem dX11_paved_120 : decode cX11_paved 120 = .ok (.getfield 16, 3) := by decide +kernel
theorem dX11_paved_123 : decode cX11_paved 123 = .ok (.iload 6, 2) := by decide +kernel
theorem dX11_paved_125 : decode cX11_paved 125 = .ok (.invokevirtual 239, 3) := by decide +kernel
theorem dX11_paved_128 : decode cX11_paved 128 = .ok (.goto 5, 3) := by decide +kernel
theorem dX11_paved_131 : decode cX11_paved 131 = .ok (.iload 7, 2) := by decide +kernel
theorem dX11_paved_133 : decode cX11_paved 133 = .ok (.ireturn, 1) := by decide +kernel
set_option maxRecDepth 20000 in
theorem ggX11_rain_J7_fill_53178 : GoodIn wsX11_rain wsJ7_fill_53178 := goodIn_r _ [10] (by decide +kernel) (by decide +kernel)
set_option maxRecDepth 20000 in
theorem gX11_rain_J7_fill_53178 : GoodIn wsX11_rain (va_wsS RX11 242 yJ7_fill_53178 wsJ7_fill_53178) := goodIn_app (goodIn_of _ (by decide +kernel)) ggX11_rain_J7_fill_53178
set_option maxRecDepth 20000 in
theorem ggX11_rain_X8_go : GoodIn wsX11_rain wsX8_go := goodIn_r _ [15, 16, 17, 18, 19, 20, 21, 22, 23, 24, 14, 25, 26, 27, 28, 29, 30, 31, 32, 33, 34, 35, 36, 37, 38, 39, 74, 75, 76, 77, 78, 62, 63, 64, 65, 66, 67, 68, 69, 70, 71, 72, 73, 79, 80, 81, 82, 83, 84, 85, 86, 87, 88, 89, 90] (by decide +kernel) (by decide +kernel)
set_option maxRecDepth 20000 in
theorem gX11_rain_X8_go : GoodIn wsX11_rain (wsV RX11 248 RX8 yX8_go wsX8_go) := goodIn_app (goodIn_of _ (by decide +kernel)) ggX11_rain_X8_go
set_option maxRecDepth 20000 in
theorem ggX11_rain_X2_pairOf : GoodIn wsX11_rain wsX2_pairOf := goodIn_r _ [43, 44, 62, 63, 64, 65, 66, 67, 68, 69, 70, 71, 72, 73] (by decide +kernel) (by decide +kernel)
set_option maxRecDepth 20000 in
theorem gX11_rain_X2_pairOf : GoodIn wsX11_rain (wsV RX11 239 RX2 yX2_pairOf wsX2_pairOf) := goodIn_app (goodIn_of _ (by decide +kernel)) ggX11_rain_X2_pairOf
theorem dX11_rain_0 : decode cX11_rain 0 = .ok (.iload_n 1, 1) := by decide +kernel
theorem dX11_rain_1 : decode cX11_rain 1 = .ok (.ifCond .eq 10, 3) := by decide +kernel
theorem dX11_rain_4 : decode cX11_rain 4 = .ok (.iload_n 1, 1) := by decide +kernel
theorem dX11_rain_5 : decode cX11_rain 5 = .ok (.iconst 1, 1) := by decide +kernel
theorem dX11_rain_6 : decode cX11_rain 6 = .ok (.if_icmp .eq 5, 3) := by decide +kernel
theorem dX11_rain_9 : decode cX11_rain 9 = .ok (.iconst (-1), 1) := by decide +kernel
theorem dX11_rain_10 : decode cX11_rain 10 = .ok (.ireturn, 1) := by decide +kernel
theorem dX11_rain_11 : decode cX11_rain 11 = .ok (.aload_n 0, 1) := by decide +kernel
theorem dX11_rain_12 : decode cX11_rain 12 = .ok (.getfield 65, 3) := by decide +kernel
theorem dX11_rain_15 : decode cX11_rain 15 = .ok (.iconst 0, 1) := by decide +kernel
theorem dX11_rain_16 : decode cX11_rain 16 = .ok (.invokestatic 242, 3) := by decide +kernel
theorem dX11_rain_19 : decode cX11_rain 19 = .ok (.iconst 0, 1) := by decide +kernel
theorem dX11_rain_20 : decode cX11_rain 20 = .ok (.istore_n 2, 1) := by decide +kernel
theorem dX11_rain_21 : decode cX11_rain 21 = .ok (.iload_n 2, 1) := by decide +kernel
theorem dX11_rain_22 : decode cX11_rain 22 = .ok (.aload_n 0, 1) := by decide +kernel
theorem dX11_rain_23 : decode cX11_rain 23 = .ok (.getfield 16, 3) := by decide +kernel
theorem dX11_rain_26 : decode cX11_rain 26 = .ok (.getfield 232, 3) := by decide +kernel
theorem dX11_rain_29 : decode cX11_rain 29 = .ok (.if_icmp .ge 43, 3) := by decide +kernel
theorem dX11_rain_32 : decode cX11_rain 32 = .ok (.aload_n 0, 1) := by decide +kernel
theorem dX11_rain_33 : decode cX11_rain 33 = .ok (.getfield 48, 3) := by decide +kernel
theorem dX11_rain_36 : decode cX11_rain 36 = .ok (.aload_n 0, 1) := by decide +kernel
theorem dX11_rain_37 : decode cX11_rain 37 = .ok (.getfield 16, 3) := by decide +kernel
theorem dX11_rain_40 : decode cX11_rain 40 = .ok (.aload_n 0, 1) := by decide +kernel
theorem dX11_rain_41 : decode cX11_rain 41 = .ok (.getfield 33, 3) := by decide +kernel
theorem dX11_rain_44 : decode cX11_rain 44 = .ok (.iconst 1, 1) := by decide +kernel
theorem dX11_rain_45 : decode cX11_rain 45 = .ok (.iconst 0, 1) := by decide +kernel
theorem dX11_rain_46 : decode cX11_rain 46 = .ok (.iload_n 2, 1) := by decide +kernel
theorem dX11_rain_47 : decode cX11_rain 47 = .ok (.invokevirtual 248, 3) := by decide +kernel
theorem dX11_rain_50 : decode cX11_rain 50 = .ok (.aload_n 0, 1) := by decide +kernel
theorem dX11_rain_51 : decode cX11_rain 51 = .ok (.getfield 65, 3) := by decide +kernel
theorem dX11_rain_54 : decode cX11_rain 54 = .ok (.aload_n 0, 1) := by decide +kernel
theorem dX11_rain_55 : decode cX11_rain 55 = .ok (.getfield 48, 3) := by decide +kernel
theorem dX11_rain_58 : decode cX11_rain 58 = .ok (.getfield 156, 3) := by decide +kernel
theorem dX11_rain_61 : decode cX11_rain 61 = .ok (.dup2, 1) := by decide +kernel
theorem dX11_rain_62 : decode cX11_rain 62 = .ok (.iaload, 1) := by decide +kernel
theorem dX11_rain_63 : decode cX11_rain 63 = .ok (.iconst 1, 1) := by decide +kernel
theorem dX11_rain_64 : decode cX11_rain 64 = .ok (.iadd, 1) := by decide +kernel
theorem dX11_rain_65 : decode cX11_rain 65 = .ok (.iastore, 1) := by decide +kernel
theorem dX11_rain_66 : decode cX11_rain 66 = .ok (.iinc 2 1, 3) := by decide +kernel
theorem dX11_rain_69 : decode cX11_rain 69 = .ok (.goto (-48), 3) := by decide +kernel
theorem dX11_rain_72 : decode cX11_rain 72 = .ok (.iconst (-1), 1) := by decide +kernel
theorem dX11_rain_73 : decode cX11_rain 73 = .ok (.istore_n 2, 1) := by decide +kernel
theorem dX11_rain_74 : decode cX11_rain 74 = .ok (.iconst 0, 1) := by decide +kernel
theorem dX11_rain_75 : decode cX11_rain 75 = .ok (.istore_n 3, 1) := by decide +kernel
theorem dX11_rain_76 : decode cX11_rain 76 = .ok (.iconst 0, 1) := by decide +kernel
theorem dX11_rain_77 : decode cX11_rain 77 = .ok (.istore 4, 2) := by decide +kernel
theorem dX11_rain_79 : decode cX11_rain 79 = .ok (.iload 4, 2) := by decide +kernel
theorem dX11_rain_81 : decode cX11_rain 81 = .ok (.aload_n 0, 1) := by decide +kernel
theorem dX11_rain_82 : decode cX11_rain 82 = .ok (.getfield 16, 3) := by decide +kernel
theorem dX11_rain_85 : decode cX11_rain 85 = .ok (.getfield 232, 3) := by decide +kernel
theorem dX11_rain_88 : decode cX11_rain 88 = .ok (.if_icmp .ge 31, 3) := by decide +kernel
theorem dX11_rain_91 : decode cX11_rain 91 = .ok (.aload_n 0, 1) := by decide +kernel
theorem dX11_rain_92 : decode cX11_rain 92 = .ok (.getfield 65, 3) := by decide +kernel
theorem dX11_rain_95 : decode cX11_rain 95 = .ok (.iload 4, 2) := by decide +kernel
theorem dX11_rain_97 : decode cX11_rain 97 = .ok (.iaload, 1) := by decide +kernel
theorem dX11_rain_98 : decode cX11_rain 98 = .ok (.iload_n 3, 1) := by decide +kernel
theorem dX11_rain_99 : decode cX11_rain 99 = .ok (.if_icmp .le 14, 3) := by decide +kernel
theorem dX11_rain_102 : decode cX11_rain 102 = .ok (.aload_n 0, 1) := by decide +kernel
theorem dX11_rain_103 : decode cX11_rain 103 = .ok (.getfield 65, 3) := by decide +kernel
theorem dX11_rain_106 : decode cX11_rain 106 = .ok (.iload 4, 2) := by decide +kernel
theorem dX11_rain_108 : decode cX11_rain 108 = .ok (.iaload, 1) := by decide +kernel
theorem dX11_rain_109 : decode cX11_rain 109 = .ok (.istore_n 3, 1) := by decide +kernel
theorem dX11_rain_110 : decode cX11_rain 110 = .ok (.iload 4, 2) := by decide +kernel
theorem dX11_rain_112 : decode cX11_rain 112 = .ok (.istore_n 2, 1) := by decide +kernel
theorem dX11_rain_113 : decode cX11_rain 113 = .ok (.iinc 4 1, 3) := by decide +kernel
theorem dX11_rain_116 : decode cX11_rain 116 = .ok (.goto (-37), 3) := by decide +kernel
theorem dX11_rain_119 : decode cX11_rain 119 = .ok (.iload_n 1, 1) := by decide +kernel
theorem dX11_rain_120 : decode cX11_rain 120 = .ok (.iconst 1, 1) := by decide +kernel
theorem dX11_rain_121 : decode cX11_rain 121 = .ok (.if_icmp .ne 5, 3) := by decide +kernel
theorem dX11_rain_124 : decode cX11_rain 124 = .ok (.iload_n 3, 1) := by decide +kernel
theorem dX11_rain_125 : decode cX11_rain 125 = .ok (.ireturn, 1) := by decide +kernel
theorem dX11_rain_126 : decode cX11_rain 126 = .ok (.iload_n 2, 1) := by decide +kernel
theorem dX11_rain_127 : decode cX11_rain 127 = .ok (.iconst (-1), 1) := by decide +kernel
theorem dX11_rain_128 : decode cX11_rain 128 = .ok (.if_icmp .ne 8, 3) := by decide +kernel
theorem dX11_rain_131 : decode cX11_rain 131 = .ok (.bipush (-9), 2) := by decide +kernel
theorem dX11_rain_133 : decode cX11_rain 133 = .ok (.goto 11, 3) := by decide +kernel
theorem dX11_rain_136 : decode cX11_rain 136 = .ok (.aload_n 0, 1) := by decide +kernel
theorem dX11_rain_137 : decode cX11_rain 137 = .ok (.getfield 16, 3) := by decide +kernel
theorem dX11_rain_140 : decode cX11_rain 140 = .ok (.iload_n 2, 1) := by decide +kernel
theorem dX11_rain_141 : decode cX11_rain 141 = .ok (.invokevirtual 239, 3) := by decide +kernel
theorem dX11_rain_144 : decode cX11_rain 144 = .ok (.ireturn, 1) := by decide +kernel
set_option maxRecDepth 20000 in
theorem ggX11_feet_X2_cellOfPair : GoodIn wsX11_feet wsX2_cellOfPair := goodIn_r _ [6, 7, 8, 9, 5, 10, 11, 12, 81, 82, 83, 84, 85, 86, 87, 88, 89, 90, 91, 92] (by decide +kernel) (by decide +kernel)
set_option maxRecDepth 20000 in
theorem gX11_feet_X2_cellOfPair : GoodIn wsX11_feet (wsV RX11 213 RX2 yX2_cellOfPair wsX2_cellOfPair) := goodIn_app (goodIn_of _ (by decide +kernel)) ggX11_feet_X2_cellOfPair
set_option maxRecDepth 20000 in
theorem ggX11_feet_X11_isKind : GoodIn wsX11_feet wsX11_isKind := goodIn_r _ [17, 1, 18, 64, 65, 66, 67, 68, 69, 70, 71, 72, 73, 74, 75, 76, 77, 78, 79, 80, 81, 82, 83, 84, 85, 86, 87, 88, 89, 90, 91, 92] (by decide +kernel) (by decide +kernel)
set_option maxRecDepth 20000 in
theorem gX11_feet_X11_isKind : GoodIn wsX11_feet (wsV RX11 135 RX11 yX11_isKind wsX11_isKind) := goodIn_app (goodIn_of _ (by decide +kernel)) ggX11_feet_X11_isKind
set_option maxRecDepth 20000 in
theorem ggX11_feet_X11_endsAt : GoodIn wsX11_feet wsX11_endsAt := goodIn_r _ [22, 23, 1, 24, 25, 26, 27, 28, 29, 30, 31, 32, 33, 34, 35, 36, 37, 38, 39, 40, 41, 42, 43, 44, 45, 46, 47, 48, 49, 50, 51, 52, 53, 54, 55, 56, 57, 5, 58, 59, 64, 65, 66, 67, 68, 69, 70, 71, 72, 73, 74, 75, 76, 77, 78, 79, 80, 93, 94, 95, 96, 97, 81, 82, 83, 84, 85, 86, 87, 88, 89, 90, 91, 92, 98, 99, 100, 101, 102, 103, 104, 105, 106, 107, 108, 109] (by decide +kernel) (by decide +kernel)
set_option maxRecDepth 20000 in
theorem gX11_feet_X11_endsAt : GoodIn wsX11_feet (wsV RX11 252 RX11 yX11_endsAt wsX11_endsAt) := goodIn_app (goodIn_of _ (by decide +kernel)) ggX11_feet_X11_endsAt
set_option maxRecDepth 20000 in
theorem ggX11_feet_X2_besideOf : GoodIn wsX11_feet wsX2_besideOf := goodIn_r _ [58, 59, 81, 82, 83, 84, 85, 86, 87, 88, 89, 90, 91, 92] (by decide +kernel) (by decide +kernel)
set_option maxRecDepth 20000 in
theorem gX11_feet_X2_besideOf : GoodIn wsX11_feet (wsV RX11 256 RX2 yX2_besideOf wsX2_besideOf) := goodIn_app (goodIn_of _ (by decide +kernel)) ggX11_feet_X2_besideOf
set_option maxRecDepth 20000 in
theorem ggX11_feet_X11_sharedDivisor : GoodIn wsX11_feet wsX11_sharedDivisor := goodIn_r _ [63] (by decide +kernel) (by decide +kernel)
set_option maxRecDepth 20000 in
theorem gX11_feet_X11_sharedDivisor : GoodIn wsX11_feet (va_wsS RX11 259 yX11_sharedDivisor wsX11_sharedDivisor) := goodIn_app (goodIn_of _ (by decide +kernel)) ggX11_feet_X11_sharedDivisor
theorem dX11_feet_0 : decode cX11_feet 0 = .ok (.aload_n 0, 1) := by decide +kernel
theorem dX11_feet_1 : decode cX11_feet 1 = .ok (.getfield 16, 3) := by decide +kernel
theorem dX11_feet_4 : decode cX11_feet 4 = .ok (.iload_n 2, 1) := by decide +kernel
theorem dX11_feet_5 : decode cX11_feet 5 = .ok (.invokevirtual 213, 3) := by decide +kernel
theorem dX11_feet_8 : decode cX11_feet 8 = .ok (.istore 5, 2) := by decide +kernel
theorem dX11_feet_10 : decode cX11_feet 10 = .ok (.aload_n 0, 1) := by decide +kernel
theorem dX11_feet_11 : decode cX11_feet 11 = .ok (.getfield 16, 3) := by decide +kernel
theorem dX11_feet_14 : decode cX11_feet 14 = .ok (.iload_n 3, 1) := by decide +kernel
theorem dX11_feet_15 : decode cX11_feet 15 = .ok (.invokevirtual 213, 3) := by decide +kernel
theorem dX11_feet_18 : decode cX11_feet 18 = .ok (.istore 6, 2) := by decide +kernel
theorem dX11_feet_20 : decode cX11_feet 20 = .ok (.aload_n 0, 1) := by decide +kernel
theorem dX11_feet_21 : decode cX11_feet 21 = .ok (.iload_n 1, 1) := by decide +kernel
theorem dX11_feet_22 : decode cX11_feet 22 = .ok (.invokevirtual 135, 3) := by decide +kernel
theorem dX11_feet_25 : decode cX11_feet 25 = .ok (.ifCond .eq 26, 3) := by decide +kernel
theorem dX11_feet_28 : decode cX11_feet 28 = .ok (.iload 5, 2) := by decide +kernel
theorem dX11_feet_30 : decode cX11_feet 30 = .ok (.iconst (-1), 1) := by decide +kernel
theorem dX11_feet_31 : decode cX11_feet 31 = .ok (.if_icmp .eq 20, 3) := by decide +kernel
theorem dX11_feet_34 : decode cX11_feet 34 = .ok (.iload 6, 2) := by decide +kernel
theorem dX11_feet_36 : decode cX11_feet 36 = .ok (.iconst (-1), 1) := by decide +kernel
theorem dX11_feet_37 : decode cX11_feet 37 = .ok (.if_icmp .eq 14, 3) := by decide +kernel
theorem dX11_feet_40 : decode cX11_feet 40 = .ok (.iload 4, 2) := by decide +kernel
theorem dX11_feet_42 : decode cX11_feet 42 = .ok (.ifCond .eq 11, 3) := by decide +kernel
theorem dX11_feet_45 : decode cX11_feet 45 = .ok (.iload 4, 2) := by decide +kernel
theorem dX11_feet_47 : decode cX11_feet 47 = .ok (.iconst 1, 1) := by decide +kernel
theorem dX11_feet_48 : decode cX11_feet 48 = .ok (.if_icmp .eq 5, 3) := by decide +kernel
theorem dX11_feet_51 : decode cX11_feet 51 = .ok (.iconst (-1), 1) := by decide +kernel
theorem dX11_feet_52 : decode cX11_feet 52 = .ok (.ireturn, 1) := by decide +kernel
theorem dX11_feet_53 : decode cX11_feet 53 = .ok (.aload_n 0, 1) := by decide +kernel
theorem dX11_feet_54 : decode cX11_feet 54 = .ok (.iload_n 1, 1) := by decide +kernel
theorem dX11_feet_55 : decode cX11_feet 55 = .ok (.iload 5, 2) := by decide +kernel
theorem dX11_feet_57 : decode cX11_feet 57 = .ok (.iload 6, 2) := by decide +kernel
theorem dX11_feet_59 : decode cX11_feet 59 = .ok (.invokevirtual 252, 3) := by decide +kernel
theorem dX11_feet_62 : decode cX11_feet 62 = .ok (.ifCond .eq 7, 3) := by decide +kernel
theorem dX11_feet_65 : decode cX11_feet 65 = .ok (.iconst 1, 1) := by decide +kernel
theorem dX11_feet_66 : decode cX11_feet 66 = .ok (.goto 4, 3) := by decide +kernel
theorem dX11_feet_69 : decode cX11_feet 69 = .ok (.iconst 0, 1) := by decide +kernel
theorem dX11_feet_70 : decode cX11_feet 70 = .ok (.istore 7, 2) := by decide +kernel
theorem dX11_feet_72 : decode cX11_feet 72 = .ok (.iconst 1, 1) := by decide +kernel
theorem dX11_feet_73 : decode cX11_feet 73 = .ok (.istore 8, 2) := by decide +kernel
theorem dX11_feet_75 : decode cX11_feet 75 = .ok (.iconst 0, 1) := by decide +kernel
theorem dX11_feet_76 : decode cX11_feet 76 = .ok (.istore 9, 2) := by decide +kernel
theorem dX11_feet_78 : decode cX11_feet 78 = .ok (.iload 9, 2) := by decide +kernel
theorem dX11_feet_80 : decode cX11_feet 80 = .ok (.iconst 4, 1) := by decide +kernel
theorem dX11_feet_81 : decode cX11_feet 81 = .ok (.if_icmp .ge 53, 3) := by decide +kernel
theorem dX11_feet_84 : decode cX11_feet 84 = .ok (.aload_n 0, 1) := by decide +kernel
theorem dX11_feet_85 : decode cX11_feet 85 = .ok (.getfield 16, 3) := by decide +kernel
theorem dX11_feet_88 : decode cX11_feet 88 = .ok (.iload 5, 2) := by decide +kernel
theorem dX11_feet_90 : decode cX11_feet 90 = .ok (.iload 9, 2) := by decide +kernel
theorem dX11_feet_92 : decode cX11_feet 92 = .ok (.invokevirtual 256, 3) := by decide +kernel
theorem dX11_feet_95 : decode cX11_feet 95 = .ok (.istore 10, 2) := by decide +kernel
theorem dX11_feet_97 : decode cX11_feet 97 = .ok (.iload 10, 2) := by decide +kernel
theorem dX11_feet_99 : decode cX11_feet 99 = .ok (.iconst (-1), 1) := by decide +kernel
theorem dX11_feet_100 : decode cX11_feet 100 = .ok (.if_icmp .eq 28, 3) := by decide +kernel
theorem dX11_feet_103 : decode cX11_feet 103 = .ok (.iinc 8 1, 3) := by decide +kernel
theorem dX11_feet_106 : decode cX11_feet 106 = .ok (.iload 7, 2) := by decide +kernel
theorem dX11_feet_108 : decode cX11_feet 108 = .ok (.aload_n 0, 1) := by decide +kernel
theorem dX11_feet_109 : decode cX11_feet 109 = .ok (.iload_n 1, 1) := by decide +kernel
theorem dX11_feet_110 : decode cX11_feet 110 = .ok (.iload 10, 2) := by decide +kernel
theorem dX11_feet_112 : decode cX11_feet 112 = .ok (.iload 6, 2) := by decide +kernel
theorem dX11_feet_114 : decode cX11_feet 114 = .ok (.invokevirtual 252, 3) := by decide +kernel
theorem dX11_feet_117 : decode cX11_feet 117 = .ok (.ifCond .eq 7, 3) := by decide +kernel
theorem dX11_feet_120 : decode cX11_feet 120 = .ok (.iconst 1, 1) := by decide +kernel
theorem dX11_feet_121 : decode cX11_feet 121 = .ok (.goto 4, 3) := by decide +kernel
theorem dX11_feet_124 : decode cX11_feet 124 = .ok (.iconst 0, 1) := by decide +kernel
theorem dX11_feet_125 : decode cX11_feet 125 = .ok (.iadd, 1) := by decide +kernel
theorem dX11_feet_126 : decode cX11_feet 126 = .ok (.istore 7, 2) := by decide +kernel
theorem dX11_feet_128 : decode cX11_feet 128 = .ok (.iinc 9 1, 3) := by decide +kernel
theorem dX11_feet_131 : decode cX11_feet 131 = .ok (.goto (-53), 3) := by decide +kernel
theorem dX11_feet_134 : decode cX11_feet 134 = .ok (.iload 7, 2) := by decide +kernel
theorem dX11_feet_136 : decode cX11_feet 136 = .ok (.iload 8, 2) := by decide +kernel
theorem dX11_feet_138 : decode cX11_feet 138 = .ok (.invokestatic 259, 3) := by decide +kernel
theorem dX11_feet_141 : decode cX11_feet 141 = .ok (.istore 9, 2) := by decide +kernel
theorem dX11_feet_143 : decode cX11_feet 143 = .ok (.iload 4, 2) := by decide +kernel
theorem dX11_feet_145 : decode cX11_feet 145 = .ok (.ifCond .ne 8, 3) := by decide +kernel
theorem dX11_feet_148 : decode cX11_feet 148 = .ok (.iload 7, 2) := by decide +kernel
theorem dX11_feet_150 : decode cX11_feet 150 = .ok (.goto 5, 3) := by decide +kernel
theorem dX11_feet_153 : decode cX11_feet 153 = .ok (.iload 8, 2) := by decide +kernel
theorem dX11_feet_155 : decode cX11_feet 155 = .ok (.iload 9, 2) := by decide +kernel
theorem dX11_feet_157 : decode cX11_feet 157 = .ok (.idiv, 1) := by decide +kernel
theorem dX11_feet_158 : decode cX11_feet 158 = .ok (.ireturn, 1) := by decide +kernel
set_option maxRecDepth 20000 in
theorem ggX11_apart_X11_isKind : GoodIn wsX11_apart wsX11_isKind := goodIn_r _ [5, 6, 7, 65, 66, 67, 68, 69, 70, 71, 72, 73, 74, 75, 76, 77, 78, 79, 80, 81, 82, 83, 84, 85, 86, 87, 88, 89, 90, 91, 92, 93] (by decide +kernel) (by decide +kernel)
set_option maxRecDepth 20000 in
theorem gX11_apart_X11_isKind : GoodIn wsX11_apart (wsV RX11 135 RX11 yX11_isKind wsX11_isKind) := goodIn_app (goodIn_of _ (by decide +kernel)) ggX11_apart_X11_isKind
set_option maxRecDepth 20000 in
theorem ggX11_apart_X11_apartBits : GoodIn wsX11_apart wsX11_apartBits := goodIn_r _ [11, 6, 12, 13, 14, 15, 4, 16, 17, 18, 19, 20, 21, 22, 23, 24, 25, 26, 27, 28, 29, 30, 31, 32, 33, 34, 35, 36, 37, 38, 39, 40, 41, 42, 43, 44, 45, 46, 47, 48, 49, 50, 51, 52, 53, 54, 55, 56, 57, 58, 59, 60, 61, 62, 63, 64, 65, 66, 67, 68, 69, 70, 71, 72, 73, 74, 75, 76, 77, 78, 79, 80, 81, 82, 83, 84, 85, 86, 87, 88, 89, 90, 91, 92, 93, 94, 95, 96, 97, 98, 99, 100, 101, 102, 103, 104, 105, 106, 107, 108, 109, 110] (by decide +kernel) (by decide +kernel)
set_option maxRecDepth 20000 in
theorem gX11_apart_X11_apartBits : GoodIn wsX11_apart (wsV RX11 262 RX11 yX11_apartBits wsX11_apartBits) := goodIn_app (goodIn_of _ (by decide +kernel)) ggX11_apart_X11_apartBits
theorem dX11_apart_0 : decode cX11_apart 0 = .ok (.aload_n 0, 1) := by decide +kernel
theorem dX11_apart_1 : decode cX11_apart 1 = .ok (.iload_n 1, 1) := by decide +kernel
theorem dX11_apart_2 : decode cX11_apart 2 = .ok (.invokevirtual 135, 3) := by decide +kernel
theorem dX11_apart_5 : decode cX11_apart 5 = .ok (.ifCond .eq 16, 3) := by decide +kernel
theorem dX11_apart_8 : decode cX11_apart 8 = .ok (.aload_n 0, 1) := by decide +kernel
theorem dX11_apart_9 : decode cX11_apart 9 = .ok (.iload_n 2, 1) := by decide +kernel
theorem dX11_apart_10 : decode cX11_apart 10 = .ok (.invokevirtual 135, 3) := by decide +kernel
theorem dX11_apart_13 : decode cX11_apart 13 = .ok (.ifCond .eq 8, 3) := by decide +kernel
theorem dX11_apart_16 : decode cX11_apart 16 = .ok (.iload_n 1, 1) := by decide +kernel
theorem dX11_apart_17 : decode cX11_apart 17 = .ok (.iload_n 2, 1) := by decide +kernel
theorem dX11_apart_18 : decode cX11_apart 18 = .ok (.if_icmp .ne 5, 3) := by decide +kernel
theorem dX11_apart_21 : decode cX11_apart 21 = .ok (.iconst (-1), 1) := by decide +kernel
theorem dX11_apart_22 : decode cX11_apart 22 = .ok (.ireturn, 1) := by decide +kernel
theorem dX11_apart_23 : decode cX11_apart 23 = .ok (.aload_n 0, 1) := by decide +kernel
theorem dX11_apart_24 : decode cX11_apart 24 = .ok (.iload_n 1, 1) := by decide +kernel
theorem dX11_apart_25 : decode cX11_apart 25 = .ok (.iload_n 2, 1) := by decide +kernel
theorem dX11_apart_26 : decode cX11_apart 26 = .ok (.invokevirtual 262, 3) := by decide +kernel
theorem dX11_apart_29 : decode cX11_apart 29 = .ok (.ireturn, 1) := by decide +kernel
set_option maxRecDepth 20000 in
theorem ggX11_rolls_J7_fill_53178 : GoodIn wsX11_rolls wsJ7_fill_53178 := goodIn_r _ [7] (by decide +kernel) (by decide +kernel)
set_option maxRecDepth 20000 in
theorem gX11_rolls_J7_fill_53178 : GoodIn wsX11_rolls (va_wsS RX11 242 yJ7_fill_53178 wsJ7_fill_53178) := goodIn_app (goodIn_of _ (by decide +kernel)) ggX11_rolls_J7_fill_53178
set_option maxRecDepth 20000 in
theorem ggX11_rolls_X11_apartBits : GoodIn wsX11_rolls wsX11_apartBits := goodIn_r _ [12, 2, 13, 14, 15, 16, 11, 17, 18, 19, 20, 21, 22, 23, 24, 25, 26, 27, 28, 29, 30, 31, 32, 33, 34, 35, 36, 37, 38, 39, 40, 41, 42, 43, 44, 45, 46, 47, 48, 49, 50, 51, 52, 53, 54, 55, 56, 57, 58, 59, 60, 61, 62, 63, 64, 65, 78, 79, 80, 81, 82, 83, 84, 85, 86, 87, 88, 89, 90, 91, 92, 93, 94, 95, 96, 97, 98, 99, 100, 101, 102, 103, 104, 105, 106, 107, 108, 109, 110, 111, 112, 113, 114, 115, 116, 117, 118, 119, 120, 121, 122, 123] (by decide +kernel) (by decide +kernel)
set_option maxRecDepth 20000 in
theorem gX11_rolls_X11_apartBits : GoodIn wsX11_rolls (wsV RX11 262 RX11 yX11_apartBits wsX11_apartBits) := goodIn_app (goodIn_of _ (by decide +kernel)) ggX11_rolls_X11_apartBits
set_option maxRecDepth 20000 in
theorem ggX11_rolls_X11_noteTold : GoodIn wsX11_rolls wsX11_noteTold := goodIn_r _ [69, 2, 13, 1, 78, 79, 80, 81, 82, 83, 84, 85, 86, 87, 88, 89, 90, 91, 92, 93, 94, 95, 96, 97, 98, 99, 100, 101, 102, 103, 104, 105, 106] (by decide +kernel) (by decide +kernel)
set_option maxRecDepth 20000 in
theorem gX11_rolls_X11_noteTold : GoodIn wsX11_rolls (wsV RX11 268 RX11 yX11_noteTold wsX11_noteTold) := goodIn_app (goodIn_of _ (by decide +kernel)) ggX11_rolls_X11_noteTold
set_option maxRecDepth 20000 in
theorem ggX11_rolls_X11_fewestTelling : GoodIn wsX11_rolls wsX11_fewestTelling := goodIn_r _ [73, 2, 13, 1, 74, 75, 76, 11, 77, 78, 79, 80, 81, 82, 83, 84, 85, 86, 87, 88, 89, 90, 91, 92, 93, 94, 95, 96, 97, 98, 99, 100, 101, 102, 103, 104, 105, 106] (by decide +kernel) (by decide +kernel)
set_option maxRecDepth 20000 in
theorem gX11_rolls_X11_fewestTelling : GoodIn wsX11_rolls (wsV RX11 272 RX11 yX11_fewestTelling wsX11_fewestTelling) := goodIn_app (goodIn_of _ (by decide +kernel)) ggX11_rolls_X11_fewestTelling
theorem dX11_rolls_0 : decode cX11_rolls 0 = .ok (.iconst 0, 1) := by decide +kernel
theorem dX11_rolls_1 : decode cX11_rolls 1 = .ok (.istore_n 1, 1) := by decide +kernel
theorem dX11_rolls_2 : decode cX11_rolls 2 = .ok (.iconst 0, 1) := by decide +kernel
theorem dX11_rolls_3 : decode cX11_rolls 3 = .ok (.istore_n 2, 1) := by decide +kernel
theorem dX11_rolls_4 : decode cX11_rolls 4 = .ok (.aload_n 0, 1) := by decide +kernel
theorem dX11_rolls_5 : decode cX11_rolls 5 = .ok (.getfield 65, 3) := by decide +kernel
theorem dX11_rolls_8 : decode cX11_rolls 8 = .ok (.iconst 0, 1) := by decide +kernel
theorem dX11_rolls_9 : decode cX11_rolls 9 = .ok (.invokestatic 242, 3) := by decide +kernel
theorem dX11_rolls_12 : decode cX11_rolls 12 = .ok (.iconst 0, 1) := by decide +kernel
theorem dX11_rolls_13 : decode cX11_rolls 13 = .ok (.istore_n 3, 1) := by decide +kernel
theorem dX11_rolls_14 : decode cX11_rolls 14 = .ok (.iload_n 3, 1) := by decide +kernel
theorem dX11_rolls_15 : decode cX11_rolls 15 = .ok (.aload_n 0, 1) := by decide +kernel
theorem dX11_rolls_16 : decode cX11_rolls 16 = .ok (.getfield 16, 3) := by decide +kernel
theorem dX11_rolls_19 : decode cX11_rolls 19 = .ok (.getfield 265, 3) := by decide +kernel
theorem dX11_rolls_22 : decode cX11_rolls 22 = .ok (.if_icmp .ge 55, 3) := by decide +kernel
theorem dX11_rolls_25 : decode cX11_rolls 25 = .ok (.iload_n 3, 1) := by decide +kernel
theorem dX11_rolls_26 : decode cX11_rolls 26 = .ok (.iconst 1, 1) := by decide +kernel
theorem dX11_rolls_27 : decode cX11_rolls 27 = .ok (.iadd, 1) := by decide +kernel
theorem dX11_rolls_28 : decode cX11_rolls 28 = .ok (.istore 4, 2) := by decide +kernel
theorem dX11_rolls_30 : decode cX11_rolls 30 = .ok (.iload 4, 2) := by decide +kernel
theorem dX11_rolls_32 : decode cX11_rolls 32 = .ok (.aload_n 0, 1) := by decide +kernel
theorem dX11_rolls_33 : decode cX11_rolls 33 = .ok (.getfield 16, 3) := by decide +kernel
theorem dX11_rolls_36 : decode cX11_rolls 36 = .ok (.getfield 265, 3) := by decide +kernel
theorem dX11_rolls_39 : decode cX11_rolls 39 = .ok (.if_icmp .ge 32, 3) := by decide +kernel
theorem dX11_rolls_42 : decode cX11_rolls 42 = .ok (.aload_n 0, 1) := by decide +kernel
theorem dX11_rolls_43 : decode cX11_rolls 43 = .ok (.aload_n 0, 1) := by decide +kernel
theorem dX11_rolls_44 : decode cX11_rolls 44 = .ok (.iload_n 3, 1) := by decide +kernel
theorem dX11_rolls_45 : decode cX11_rolls 45 = .ok (.iload 4, 2) := by decide +kernel
theorem dX11_rolls_47 : decode cX11_rolls 47 = .ok (.invokevirtual 262, 3) := by decide +kernel
theorem dX11_rolls_50 : decode cX11_rolls 50 = .ok (.iconst 1, 1) := by decide +kernel
theorem dX11_rolls_51 : decode cX11_rolls 51 = .ok (.iload_n 2, 1) := by decide +kernel
theorem dX11_rolls_52 : decode cX11_rolls 52 = .ok (.ishl, 1) := by decide +kernel
theorem dX11_rolls_53 : decode cX11_rolls 53 = .ok (.invokevirtual 268, 3) := by decide +kernel
theorem dX11_rolls_56 : decode cX11_rolls 56 = .ok (.iload_n 1, 1) := by decide +kernel
theorem dX11_rolls_57 : decode cX11_rolls 57 = .ok (.iconst 1, 1) := by decide +kernel
theorem dX11_rolls_58 : decode cX11_rolls 58 = .ok (.iload_n 2, 1) := by decide +kernel
theorem dX11_rolls_59 : decode cX11_rolls 59 = .ok (.ishl, 1) := by decide +kernel
theorem dX11_rolls_60 : decode cX11_rolls 60 = .ok (.ior, 1) := by decide +kernel
theorem dX11_rolls_61 : decode cX11_rolls 61 = .ok (.istore_n 1, 1) := by decide +kernel
theorem dX11_rolls_62 : decode cX11_rolls 62 = .ok (.iinc 2 1, 3) := by decide +kernel
theorem dX11_rolls_65 : decode cX11_rolls 65 = .ok (.iinc 4 1, 3) := by decide +kernel
theorem dX11_rolls_68 : decode cX11_rolls 68 = .ok (.goto (-38), 3) := by decide +kernel
theorem dX11_rolls_71 : decode cX11_rolls 71 = .ok (.iinc 3 1, 3) := by decide +kernel
theorem dX11_rolls_74 : decode cX11_rolls 74 = .ok (.goto (-60), 3) := by decide +kernel
theorem dX11_rolls_77 : decode cX11_rolls 77 = .ok (.aload_n 0, 1) := by decide +kernel
theorem dX11_rolls_78 : decode cX11_rolls 78 = .ok (.iload_n 1, 1) := by decide +kernel
theorem dX11_rolls_79 : decode cX11_rolls 79 = .ok (.invokevirtual 272, 3) := by decide +kernel
theorem dX11_rolls_82 : decode cX11_rolls 82 = .ok (.ireturn, 1) := by decide +kernel
set_option maxRecDepth 20000 in
theorem ggX11_saw_X2_cellOfPair : GoodIn wsX11_saw wsX2_cellOfPair := goodIn_r _ [10, 11, 12, 13, 9, 14, 15, 16, 40, 41, 42, 43, 44, 45, 46, 47, 48, 49, 50, 51] (by decide +kernel) (by decide +kernel)
set_option maxRecDepth 20000 in
theorem gX11_saw_X2_cellOfPair : GoodIn wsX11_saw (wsV RX11 213 RX2 yX2_cellOfPair wsX2_cellOfPair) := goodIn_app (goodIn_of _ (by decide +kernel)) ggX11_saw_X2_cellOfPair
set_option maxRecDepth 20000 in
theorem ggX11_saw_X11_isKind : GoodIn wsX11_saw wsX11_isKind := goodIn_r _ [21, 1, 22, 23, 24, 25, 26, 27, 28, 29, 30, 31, 32, 33, 34, 35, 36, 37, 38, 39, 40, 41, 42, 43, 44, 45, 46, 47, 48, 49, 50, 51] (by decide +kernel) (by decide +kernel)
set_option maxRecDepth 20000 in
theorem gX11_saw_X11_isKind : GoodIn wsX11_saw (wsV RX11 135 RX11 yX11_isKind wsX11_isKind) := goodIn_app (goodIn_of _ (by decide +kernel)) ggX11_saw_X11_isKind
theorem dX11_saw_0 : decode cX11_saw 0 = .ok (.aload_n 0, 1) := by decide +kernel
theorem dX11_saw_1 : decode cX11_saw 1 = .ok (.getfield 16, 3) := by decide +kernel
theorem dX11_saw_4 : decode cX11_saw 4 = .ok (.iload_n 2, 1) := by decide +kernel
theorem dX11_saw_5 : decode cX11_saw 5 = .ok (.invokevirtual 213, 3) := by decide +kernel
theorem dX11_saw_8 : decode cX11_saw 8 = .ok (.istore 4, 2) := by decide +kernel
theorem dX11_saw_10 : decode cX11_saw 10 = .ok (.aload_n 0, 1) := by decide +kernel
theorem dX11_saw_11 : decode cX11_saw 11 = .ok (.getfield 16, 3) := by decide +kernel
theorem dX11_saw_14 : decode cX11_saw 14 = .ok (.iload_n 3, 1) := by decide +kernel
theorem dX11_saw_15 : decode cX11_saw 15 = .ok (.invokevirtual 213, 3) := by decide +kernel
theorem dX11_saw_18 : decode cX11_saw 18 = .ok (.istore 5, 2) := by decide +kernel
theorem dX11_saw_20 : decode cX11_saw 20 = .ok (.aload_n 0, 1) := by decide +kernel
theorem dX11_saw_21 : decode cX11_saw 21 = .ok (.iload_n 1, 1) := by decide +kernel
theorem dX11_saw_22 : decode cX11_saw 22 = .ok (.invokevirtual 135, 3) := by decide +kernel
theorem dX11_saw_25 : decode cX11_saw 25 = .ok (.ifCond .eq 15, 3) := by decide +kernel
theorem dX11_saw_28 : decode cX11_saw 28 = .ok (.iload 4, 2) := by decide +kernel
theorem dX11_saw_30 : decode cX11_saw 30 = .ok (.iconst (-1), 1) := by decide +kernel
theorem dX11_saw_31 : decode cX11_saw 31 = .ok (.if_icmp .eq 9, 3) := by decide +kernel
theorem dX11_saw_34 : decode cX11_saw 34 = .ok (.iload 5, 2) := by decide +kernel
theorem dX11_saw_36 : decode cX11_saw 36 = .ok (.iconst (-1), 1) := by decide +kernel
theorem dX11_saw_37 : decode cX11_saw 37 = .ok (.if_icmp .ne 5, 3) := by decide +kernel
theorem dX11_saw_40 : decode cX11_saw 40 = .ok (.iconst (-1), 1) := by decide +kernel
theorem dX11_saw_41 : decode cX11_saw 41 = .ok (.ireturn, 1) := by decide +kernel
theorem dX11_saw_42 : decode cX11_saw 42 = .ok (.aload_n 0, 1) := by decide +kernel
theorem dX11_saw_43 : decode cX11_saw 43 = .ok (.getfield 106, 3) := by decide +kernel
theorem dX11_saw_46 : decode cX11_saw 46 = .ok (.bipush 6, 2) := by decide +kernel
theorem dX11_saw_48 : decode cX11_saw 48 = .ok (.if_icmp .lt 6, 3) := by decide +kernel
theorem dX11_saw_51 : decode cX11_saw 51 = .ok (.bipush (-3), 2) := by decide +kernel
theorem dX11_saw_53 : decode cX11_saw 53 = .ok (.ireturn, 1) := by decide +kernel
theorem dX11_saw_54 : decode cX11_saw 54 = .ok (.aload_n 0, 1) := by decide +kernel
theorem dX11_saw_55 : decode cX11_saw 55 = .ok (.getfield 69, 3) := by decide +kernel
theorem dX11_saw_58 : decode cX11_saw 58 = .ok (.aload_n 0, 1) := by decide +kernel
theorem dX11_saw_59 : decode cX11_saw 59 = .ok (.getfield 106, 3) := by decide +kernel
theorem dX11_saw_62 : decode cX11_saw 62 = .ok (.iload_n 1, 1) := by decide +kernel
theorem dX11_saw_63 : decode cX11_saw 63 = .ok (.iastore, 1) := by decide +kernel
theorem dX11_saw_64 : decode cX11_saw 64 = .ok (.aload_n 0, 1) := by decide +kernel
theorem dX11_saw_65 : decode cX11_saw 65 = .ok (.getfield 72, 3) := by decide +kernel
theorem dX11_saw_68 : decode cX11_saw 68 = .ok (.aload_n 0, 1) := by decide +kernel
theorem dX11_saw_69 : decode cX11_saw 69 = .ok (.getfield 106, 3) := by decide +kernel
theorem dX11_saw_72 : decode cX11_saw 72 = .ok (.iload 4, 2) := by decide +kernel
theorem dX11_saw_74 : decode cX11_saw 74 = .ok (.iastore, 1) := by decide +kernel
theorem dX11_saw_75 : decode cX11_saw 75 = .ok (.aload_n 0, 1) := by decide +kernel
theorem dX11_saw_76 : decode cX11_saw 76 = .ok (.getfield 75, 3) := by decide +kernel
theorem dX11_saw_79 : decode cX11_saw 79 = .ok (.aload_n 0, 1) := by decide +kernel
theorem dX11_saw_80 : decode cX11_saw 80 = .ok (.getfield 106, 3) := by decide +kernel
theorem dX11_saw_83 : decode cX11_saw 83 = .ok (.iload 5, 2) := by decide +kernel
theorem dX11_saw_85 : decode cX11_saw 85 = .ok (.iastore, 1) := by decide +kernel
theorem dX11_saw_86 : decode cX11_saw 86 = .ok (.aload_n 0, 1) := by decide +kernel
theorem dX11_saw_87 : decode cX11_saw 87 = .ok (.dup, 1) := by decide +kernel
theorem dX11_saw_88 : decode cX11_saw 88 = .ok (.getfield 106, 3) := by decide +kernel
theorem dX11_saw_91 : decode cX11_saw 91 = .ok (.iconst 1, 1) := by decide +kernel
theorem dX11_saw_92 : decode cX11_saw 92 = .ok (.iadd, 1) := by decide +kernel
theorem dX11_saw_93 : decode cX11_saw 93 = .ok (.putfield 106, 3) := by decide +kernel
theorem dX11_saw_96 : decode cX11_saw 96 = .ok (.aload_n 0, 1) := by decide +kernel
theorem dX11_saw_97 : decode cX11_saw 97 = .ok (.getfield 106, 3) := by decide +kernel
theorem dX11_saw_100 : decode cX11_saw 100 = .ok (.ireturn, 1) := by decide +kernel
theorem dX11_forget_0 : decode cX11_forget 0 = .ok (.aload_n 0, 1) := by decide +kernel
theorem dX11_forget_1 : decode cX11_forget 1 = .ok (.getfield 106, 3) := by decide +kernel
theorem dX11_forget_4 : decode cX11_forget 4 = .ok (.istore_n 1, 1) := by decide +kernel
theorem dX11_forget_5 : decode cX11_forget 5 = .ok (.aload_n 0, 1) := by decide +kernel
theorem dX11_forget_6 : decode cX11_forget 6 = .ok (.iconst 0, 1) := by decide +kernel
theorem dX11_forget_7 : decode cX11_forget 7 = .ok (.putfield 106, 3) := by decide +kernel
theorem dX11_forget_10 : decode cX11_forget 10 = .ok (.iload_n 1, 1) := by decide +kernel
theorem dX11_forget_11 : decode cX11_forget 11 = .ok (.ireturn, 1) := by decide +kernel
set_option maxRecDepth 20000 in
theorem ggX11_moved_X11_isSoWithCobble : GoodIn wsX11_moved wsX11_isSoWithCobble := goodIn_r _ [7, 8, 9, 10, 11, 6, 12, 13, 14, 15, 16, 17, 18, 19, 20, 21, 22, 23, 24, 25, 1, 26, 27, 28, 29, 30, 31, 32, 33, 34, 35, 36, 37, 38, 39, 40, 41, 42, 43, 44, 45, 46, 47, 48, 49, 50, 51, 52, 53, 54, 55, 56, 57, 58, 59, 60, 61, 67, 68, 69, 70, 71, 72, 73, 74, 75, 76, 77, 78, 79, 80, 81, 82, 83, 96, 97, 98, 99, 100, 101, 102, 103, 104, 105, 106, 107, 108, 109, 110, 111, 112, 84, 85, 86, 87, 88, 89, 90, 91, 92, 93, 94, 95] (by decide +kernel) (by decide +kernel)
set_option maxRecDepth 20000 in
theorem gX11_moved_X11_isSoWithCobble : GoodIn wsX11_moved (wsV RX11 275 RX11 yX11_isSoWithCobble wsX11_isSoWithCobble) := goodIn_app (goodIn_of _ (by decide +kernel)) ggX11_moved_X11_isSoWithCobble
set_option maxRecDepth 20000 in
theorem ggX11_moved_X2_pairOf : GoodIn wsX11_moved wsX2_pairOf := goodIn_r _ [65, 66, 84, 85, 86, 87, 88, 89, 90, 91, 92, 93, 94, 95] (by decide +kernel) (by decide +kernel)
set_option maxRecDepth 20000 in
theorem gX11_moved_X2_pairOf : GoodIn wsX11_moved (wsV RX11 239 RX2 yX2_pairOf wsX2_pairOf) := goodIn_app (goodIn_of _ (by decide +kernel)) ggX11_moved_X2_pairOf
theorem dX11_moved_0 : decode cX11_moved 0 = .ok (.iload_n 1, 1) := by decide +kernel
theorem dX11_moved_1 : decode cX11_moved 1 = .ok (.ifCond .eq 10, 3) := by decide +kernel
theorem dX11_moved_4 : decode cX11_moved 4 = .ok (.iload_n 1, 1) := by decide +kernel
theorem dX11_moved_5 : decode cX11_moved 5 = .ok (.iconst 1, 1) := by decide +kernel
theorem dX11_moved_6 : decode cX11_moved 6 = .ok (.if_icmp .eq 5, 3) := by decide +kernel
theorem dX11_moved_9 : decode cX11_moved 9 = .ok (.iconst (-1), 1) := by decide +kernel
theorem dX11_moved_10 : decode cX11_moved 10 = .ok (.ireturn, 1) := by decide +kernel
theorem dX11_moved_11 : decode cX11_moved 11 = .ok (.iconst 0, 1) := by decide +kernel
theorem dX11_moved_12 : decode cX11_moved 12 = .ok (.istore_n 2, 1) := by decide +kernel
theorem dX11_moved_13 : decode cX11_moved 13 = .ok (.bipush (-9), 2) := by decide +kernel
theorem dX11_moved_15 : decode cX11_moved 15 = .ok (.istore_n 3, 1) := by decide +kernel
theorem dX11_moved_16 : decode cX11_moved 16 = .ok (.iconst 0, 1) := by decide +kernel
theorem dX11_moved_17 : decode cX11_moved 17 = .ok (.istore 4, 2) := by decide +kernel
theorem dX11_moved_19 : decode cX11_moved 19 = .ok (.iload 4, 2) := by decide +kernel
theorem dX11_moved_21 : decode cX11_moved 21 = .ok (.aload_n 0, 1) := by decide +kernel
theorem dX11_moved_22 : decode cX11_moved 22 = .ok (.getfield 16, 3) := by decide +kernel
theorem dX11_moved_25 : decode cX11_moved 25 = .ok (.getfield 232, 3) := by decide +kernel
theorem dX11_moved_28 : decode cX11_moved 28 = .ok (.if_icmp .ge 67, 3) := by decide +kernel
theorem dX11_moved_31 : decode cX11_moved 31 = .ok (.iconst 0, 1) := by decide +kernel
theorem dX11_moved_32 : decode cX11_moved 32 = .ok (.istore 5, 2) := by decide +kernel
theorem dX11_moved_34 : decode cX11_moved 34 = .ok (.iload 5, 2) := by decide +kernel
theorem dX11_moved_36 : decode cX11_moved 36 = .ok (.iconst 1, 1) := by decide +kernel
theorem dX11_moved_37 : decode cX11_moved 37 = .ok (.if_icmp .gt 52, 3) := by decide +kernel
theorem dX11_moved_40 : decode cX11_moved 40 = .ok (.aload_n 0, 1) := by decide +kernel
theorem dX11_moved_41 : decode cX11_moved 41 = .ok (.iload 4, 2) := by decide +kernel
theorem dX11_moved_43 : decode cX11_moved 43 = .ok (.iload 5, 2) := by decide +kernel
theorem dX11_moved_45 : decode cX11_moved 45 = .ok (.iconst 1, 1) := by decide +kernel
theorem dX11_moved_46 : decode cX11_moved 46 = .ok (.if_icmp .ne 7, 3) := by decide +kernel
theorem dX11_moved_49 : decode cX11_moved 49 = .ok (.iconst 1, 1) := by decide +kernel
theorem dX11_moved_50 : decode cX11_moved 50 = .ok (.goto 4, 3) := by decide +kernel
theorem dX11_moved_53 : decode cX11_moved 53 = .ok (.iconst (-1), 1) := by decide +kernel
theorem dX11_moved_54 : decode cX11_moved 54 = .ok (.invokevirtual 275, 3) := by decide +kernel
theorem dX11_moved_57 : decode cX11_moved 57 = .ok (.ifCond .eq 26, 3) := by decide +kernel
theorem dX11_moved_60 : decode cX11_moved 60 = .ok (.iload_n 2, 1) := by decide +kernel
theorem dX11_moved_61 : decode cX11_moved 61 = .ok (.ifCond .ne 19, 3) := by decide +kernel
theorem dX11_moved_64 : decode cX11_moved 64 = .ok (.bipush 10, 2) := by decide +kernel
theorem dX11_moved_66 : decode cX11_moved 66 = .ok (.aload_n 0, 1) := by decide +kernel
theorem dX11_moved_67 : decode cX11_moved 67 = .ok (.getfield 16, 3) := by decide +kernel
theorem dX11_moved_70 : decode cX11_moved 70 = .ok (.iload 4, 2) := by decide +kernel
theorem dX11_moved_72 : decode cX11_moved 72 = .ok (.invokevirtual 239, 3) := by decide +kernel
theorem dX11_moved_75 : decode cX11_moved 75 = .ok (.imul, 1) := by decide +kernel
theorem dX11_moved_76 : decode cX11_moved 76 = .ok (.iload 5, 2) := by decide +kernel
theorem dX11_moved_78 : decode cX11_moved 78 = .ok (.iadd, 1) := by decide +kernel
theorem dX11_moved_79 : decode cX11_moved 79 = .ok (.istore_n 3, 1) := by decide +kernel
theorem dX11_moved_80 : decode cX11_moved 80 = .ok (.iinc 2 1, 3) := by decide +kernel
theorem dX11_moved_83 : decode cX11_moved 83 = .ok (.iinc 5 1, 3) := by decide +kernel
theorem dX11_moved_86 : decode cX11_moved 86 = .ok (.goto (-52), 3) := by decide +kernel
theorem dX11_moved_89 : decode cX11_moved 89 = .ok (.iinc 4 1, 3) := by decide +kernel
theorem dX11_moved_92 : decode cX11_moved 92 = .ok (.goto (-73), 3) := by decide +kernel
theorem dX11_moved_95 : decode cX11_moved 95 = .ok (.iload_n 1, 1) := by decide +kernel
theorem dX11_moved_96 : decode cX11_moved 96 = .ok (.ifCond .ne 7, 3) := by decide +kernel
theorem dX11_moved_99 : decode cX11_moved 99 = .ok (.iload_n 2, 1) := by decide +kernel
theorem dX11_moved_100 : decode cX11_moved 100 = .ok (.goto 4, 3) := by decide +kernel
theorem dX11_moved_103 : decode cX11_moved 103 = .ok (.iload_n 3, 1) := by decide +kernel
theorem dX11_moved_104 : decode cX11_moved 104 = .ok (.ireturn, 1) := by decide +kernel
set_option maxRecDepth 20000 in
theorem ggX11_mark_X2_cellAt : GoodIn wsX11_mark wsX2_cellAt := goodIn_r _ [8, 9, 10, 91, 92, 93, 94, 95, 96, 97, 98, 99, 100, 101, 102] (by decide +kernel) (by decide +kernel)
set_option maxRecDepth 20000 in
theorem gX11_mark_X2_cellAt : GoodIn wsX11_mark (wsV RX11 109 RX2 yX2_cellAt wsX2_cellAt) := goodIn_app (goodIn_of _ (by decide +kernel)) ggX11_mark_X2_cellAt
set_option maxRecDepth 20000 in
theorem ggX11_mark_X0_ask : GoodIn wsX11_mark wsX0_ask := goodIn_r _ [17, 18, 19, 20, 21, 22, 23, 24, 25, 26, 27, 28, 12, 29, 30, 31, 32, 33, 74, 75, 76, 77, 78, 79, 80, 81, 82, 83, 84, 85, 86, 87, 88, 89, 90, 103, 104, 105, 106, 107, 108, 109, 110, 111, 112, 113, 114] (by decide +kernel) (by decide +kernel)
set_option maxRecDepth 20000 in
theorem gX11_mark_X0_ask_u280X0 : GoodIn wsX11_mark (va_wsO RX11 280 RX0 "SlopeCoins$CellKind" ⟨"SlopeCoins$CellKind", "ask", "(LSlopeCoins;I)I"⟩ yX0_ask wsX0_ask) := goodIn_app (goodIn_of _ (by decide +kernel)) ggX11_mark_X0_ask
set_option maxRecDepth 20000 in
theorem ggX11_mark_X1_ask : GoodIn wsX11_mark wsX1_ask := goodIn_r _ [32, 33, 74, 75, 76, 77, 78, 79, 80, 81, 82, 83, 84, 85, 86, 87, 88, 89, 90, 103, 104, 105, 106, 107, 108, 109, 110, 111, 112, 113, 114] (by decide +kernel) (by decide +kernel)
set_option maxRecDepth 20000 in
theorem gX11_mark_X1_ask : GoodIn wsX11_mark (wsV RX11 280 RX1 yX1_ask wsX1_ask) := goodIn_app (goodIn_of _ (by decide +kernel)) ggX11_mark_X1_ask
set_option maxRecDepth 20000 in
theorem ggX11_mark_X4_ask : GoodIn wsX11_mark wsX4_ask := goodIn_r _ [39, 40, 41, 42, 43, 44, 45, 46, 47, 48, 12, 49, 30, 31, 32, 33, 50, 51, 52, 53, 1, 54, 55, 56, 57, 58, 59, 60, 61, 62, 63, 74, 75, 76, 77, 78, 79, 80, 81, 82, 83, 84, 85, 86, 87, 88, 89, 90, 103, 104, 105, 106, 107, 108, 109, 110, 111, 112, 113, 114, 91, 92, 93, 94, 95, 96, 97, 98, 99, 100, 101, 102] (by decide +kernel) (by decide +kernel)
set_option maxRecDepth 20000 in
theorem gX11_mark_X4_ask_u280X4 : GoodIn wsX11_mark (va_wsO RX11 280 RX4 "SlopeCoins$CellKind" ⟨"SlopeCoins$CellKind", "ask", "(LSlopeCoins;I)I"⟩ yX4_ask wsX4_ask) := goodIn_app (goodIn_of _ (by decide +kernel)) ggX11_mark_X4_ask
set_option maxRecDepth 20000 in
theorem ggX11_mark_X5_ask : GoodIn wsX11_mark wsX5_ask := goodIn_r _ [67, 68, 69, 70, 12, 71, 30, 31, 32, 33, 74, 75, 76, 77, 78, 79, 80, 81, 82, 83, 84, 85, 86, 87, 88, 89, 90, 91, 92, 93, 94, 95, 96, 97, 98, 99, 100, 101, 102, 103, 104, 105, 106, 107, 108, 109, 110, 111, 112, 113, 114] (by decide +kernel) (by decide +kernel)
set_option maxRecDepth 20000 in
theorem gX11_mark_X5_ask_u280X5 : GoodIn wsX11_mark (va_wsO RX11 280 RX5 "SlopeCoins$CellKind" ⟨"SlopeCoins$CellKind", "ask", "(LSlopeCoins;I)I"⟩ yX5_ask wsX5_ask) := goodIn_app (goodIn_of _ (by decide +kernel)) ggX11_mark_X5_ask
set_option maxRecDepth 20000 in
theorem ggX11_mark_X9_ask : GoodIn wsX11_mark wsX9_ask := goodIn_r _ [25, 26, 27, 28, 12, 29, 30, 31, 32, 33, 74, 75, 76, 77, 78, 79, 80, 81, 82, 83, 84, 85, 86, 87, 88, 89, 90, 103, 104, 105, 106, 107, 108, 109, 110, 111, 112, 113, 114] (by decide +kernel) (by decide +kernel)
set_option maxRecDepth 20000 in
theorem gX11_mark_X9_ask_u280X9 : GoodIn wsX11_mark (va_wsO RX11 280 RX9 "SlopeCoins$CellKind" ⟨"SlopeCoins$CellKind", "ask", "(LSlopeCoins;I)I"⟩ yX9_ask wsX9_ask) := goodIn_app (goodIn_of _ (by decide +kernel)) ggX11_mark_X9_ask
set_option maxRecDepth 20000 in
theorem ggX11_mark_X10_ask : GoodIn wsX11_mark wsX10_ask := goodIn_r _ [46, 47, 48, 12, 49, 30, 31, 32, 33, 50, 51, 52, 53, 1, 54, 55, 56, 57, 58, 59, 60, 61, 62, 63, 74, 75, 76, 77, 78, 79, 80, 81, 82, 83, 84, 85, 86, 87, 88, 89, 90, 103, 104, 105, 106, 107, 108, 109, 110, 111, 112, 113, 114, 91, 92, 93, 94, 95, 96, 97, 98, 99, 100, 101, 102] (by decide +kernel) (by decide +kernel)
set_option maxRecDepth 20000 in
theorem gX11_mark_X10_ask_u280X10 : GoodIn wsX11_mark (va_wsO RX11 280 RX10 "SlopeCoins$CellKind" ⟨"SlopeCoins$CellKind", "ask", "(LSlopeCoins;I)I"⟩ yX10_ask wsX10_ask) := goodIn_app (goodIn_of _ (by decide +kernel)) ggX11_mark_X10_ask
theorem dX11_mark_0 : decode cX11_mark 0 = .ok (.aload_n 0, 1) := by decide +kernel
theorem dX11_mark_1 : decode cX11_mark 1 = .ok (.getfield 16, 3) := by decide +kernel
theorem dX11_mark_4 : decode cX11_mark 4 = .ok (.iload_n 2, 1) := by decide +kernel
theorem dX11_mark_5 : decode cX11_mark 5 = .ok (.iload_n 3, 1) := by decide +kernel
theorem dX11_mark_6 : decode cX11_mark 6 = .ok (.invokevirtual 109, 3) := by decide +kernel
theorem dX11_mark_9 : decode cX11_mark 9 = .ok (.istore 4, 2) := by decide +kernel
theorem dX11_mark_11 : decode cX11_mark 11 = .ok (.iload_n 1, 1) := by decide +kernel
theorem dX11_mark_12 : decode cX11_mark 12 = .ok (.ifCond .lt 18, 3) := by decide +kernel
theorem dX11_mark_15 : decode cX11_mark 15 = .ok (.iload_n 1, 1) := by decide +kernel
theorem dX11_mark_16 : decode cX11_mark 16 = .ok (.aload_n 0, 1) := by decide +kernel
theorem dX11_mark_17 : decode cX11_mark 17 = .ok (.getfield 61, 3) := by decide +kernel
theorem dX11_mark_20 : decode cX11_mark 20 = .ok (.arraylength, 1) := by decide +kernel
theorem dX11_mark_21 : decode cX11_mark 21 = .ok (.if_icmp .ge 9, 3) := by decide +kernel
theorem dX11_mark_24 : decode cX11_mark 24 = .ok (.iload 4, 2) := by decide +kernel
theorem dX11_mark_26 : decode cX11_mark 26 = .ok (.iconst (-1), 1) := by decide +kernel
theorem dX11_mark_27 : decode cX11_mark 27 = .ok (.if_icmp .ne 7, 3) := by decide +kernel
theorem dX11_mark_30 : decode cX11_mark 30 = .ok (.ldc_w 279, 3) := by decide +kernel
theorem dX11_mark_33 : decode cX11_mark 33 = .ok (.ireturn, 1) := by decide +kernel
theorem dX11_mark_34 : decode cX11_mark 34 = .ok (.aload_n 0, 1) := by decide +kernel
theorem dX11_mark_35 : decode cX11_mark 35 = .ok (.getfield 61, 3) := by decide +kernel
theorem dX11_mark_38 : decode cX11_mark 38 = .ok (.iload_n 1, 1) := by decide +kernel
theorem dX11_mark_39 : decode cX11_mark 39 = .ok (.aaload, 1) := by decide +kernel
theorem dX11_mark_40 : decode cX11_mark 40 = .ok (.aload_n 0, 1) := by decide +kernel
theorem dX11_mark_41 : decode cX11_mark 41 = .ok (.iload 4, 2) := by decide +kernel
theorem dX11_mark_43 : decode cX11_mark 43 = .ok (.invokevirtual 280, 3) := by decide +kernel
theorem dX11_mark_46 : decode cX11_mark 46 = .ok (.ireturn, 1) := by decide +kernel
set_option maxRecDepth 20000 in
theorem ggX11_keep_X11_isImage : GoodIn wsX11_keep wsX11_isImage := goodIn_r _ [8] (by decide +kernel) (by decide +kernel)
set_option maxRecDepth 20000 in
theorem gX11_keep_X11_isImage : GoodIn wsX11_keep (va_wsS RX11 284 yX11_isImage wsX11_isImage) := goodIn_app (goodIn_of _ (by decide +kernel)) ggX11_keep_X11_isImage
set_option maxRecDepth 20000 in
theorem ggX11_keep_X3_copyOf : GoodIn wsX11_keep wsX3_copyOf := goodIn_r _ [13, 14, 15, 16, 17, 18, 19, 20, 21, 22, 23, 24, 25, 26, 27, 12, 28, 29, 30, 31, 32, 33, 34, 35, 36, 60, 61, 62, 63, 64, 65, 66, 67, 68, 69, 70, 71] (by decide +kernel) (by decide +kernel)
set_option maxRecDepth 20000 in
theorem gX11_keep_X3_copyOf : GoodIn wsX11_keep (wsV RX11 287 RX3 yX3_copyOf wsX3_copyOf) := goodIn_app (goodIn_of _ (by decide +kernel)) ggX11_keep_X3_copyOf
set_option maxRecDepth 20000 in
theorem ggX11_keep_X11_sumOf : GoodIn wsX11_keep wsX11_sumOf := goodIn_r _ [40, 41, 42, 43, 44, 45, 46, 47, 48, 49, 50, 51, 52, 53, 54, 55, 56, 57, 58, 59, 72, 73, 74, 75, 76, 77, 78, 79, 80, 81, 82, 83] (by decide +kernel) (by decide +kernel)
set_option maxRecDepth 20000 in
theorem gX11_keep_X11_sumOf : GoodIn wsX11_keep (wsV RX11 148 RX11 yX11_sumOf wsX11_sumOf) := goodIn_app (goodIn_of _ (by decide +kernel)) ggX11_keep_X11_sumOf
theorem dX11_keep_0 : decode cX11_keep 0 = .ok (.iload_n 1, 1) := by decide +kernel
theorem dX11_keep_1 : decode cX11_keep 1 = .ok (.invokestatic 284, 3) := by decide +kernel
theorem dX11_keep_4 : decode cX11_keep 4 = .ok (.ifCond .ne 5, 3) := by decide +kernel
theorem dX11_keep_7 : decode cX11_keep 7 = .ok (.iconst (-1), 1) := by decide +kernel
theorem dX11_keep_8 : decode cX11_keep 8 = .ok (.ireturn, 1) := by decide +kernel
theorem dX11_keep_9 : decode cX11_keep 9 = .ok (.aload_n 0, 1) := by decide +kernel
theorem dX11_keep_10 : decode cX11_keep 10 = .ok (.getfield 37, 3) := by decide +kernel
theorem dX11_keep_13 : decode cX11_keep 13 = .ok (.iload_n 1, 1) := by decide +kernel
theorem dX11_keep_14 : decode cX11_keep 14 = .ok (.aaload, 1) := by decide +kernel
theorem dX11_keep_15 : decode cX11_keep 15 = .ok (.aload_n 0, 1) := by decide +kernel
theorem dX11_keep_16 : decode cX11_keep 16 = .ok (.getfield 33, 3) := by decide +kernel
theorem dX11_keep_19 : decode cX11_keep 19 = .ok (.invokevirtual 287, 3) := by decide +kernel
theorem dX11_keep_22 : decode cX11_keep 22 = .ok (.aload_n 0, 1) := by decide +kernel
theorem dX11_keep_23 : decode cX11_keep 23 = .ok (.getfield 41, 3) := by decide +kernel
theorem dX11_keep_26 : decode cX11_keep 26 = .ok (.iload_n 1, 1) := by decide +kernel
theorem dX11_keep_27 : decode cX11_keep 27 = .ok (.iconst 1, 1) := by decide +kernel
theorem dX11_keep_28 : decode cX11_keep 28 = .ok (.bastore, 1) := by decide +kernel
theorem dX11_keep_29 : decode cX11_keep 29 = .ok (.aload_n 0, 1) := by decide +kernel
theorem dX11_keep_30 : decode cX11_keep 30 = .ok (.aload_n 0, 1) := by decide +kernel
theorem dX11_keep_31 : decode cX11_keep 31 = .ok (.getfield 33, 3) := by decide +kernel
theorem dX11_keep_34 : decode cX11_keep 34 = .ok (.getfield 119, 3) := by decide +kernel
theorem dX11_keep_37 : decode cX11_keep 37 = .ok (.invokevirtual 148, 3) := by decide +kernel
theorem dX11_keep_40 : decode cX11_keep 40 = .ok (.ireturn, 1) := by decide +kernel
set_option maxRecDepth 20000 in
theorem ggX11_back_X11_isImage : GoodIn wsX11_back wsX11_isImage := goodIn_r _ [8] (by decide +kernel) (by decide +kernel)
set_option maxRecDepth 20000 in
theorem gX11_back_X11_isImage : GoodIn wsX11_back (va_wsS RX11 284 yX11_isImage wsX11_isImage) := goodIn_app (goodIn_of _ (by decide +kernel)) ggX11_back_X11_isImage
set_option maxRecDepth 20000 in
theorem ggX11_back_X3_copyOf : GoodIn wsX11_back wsX3_copyOf := goodIn_r _ [13, 14, 15, 16, 17, 18, 19, 20, 21, 22, 23, 24, 25, 26, 27, 12, 28, 29, 30, 31, 32, 33, 34, 35, 36, 60, 61, 62, 63, 64, 65, 66, 67, 68, 69, 70, 71] (by decide +kernel) (by decide +kernel)
set_option maxRecDepth 20000 in
theorem gX11_back_X3_copyOf : GoodIn wsX11_back (wsV RX11 287 RX3 yX3_copyOf wsX3_copyOf) := goodIn_app (goodIn_of _ (by decide +kernel)) ggX11_back_X3_copyOf
set_option maxRecDepth 20000 in
theorem ggX11_back_X11_sumOf : GoodIn wsX11_back wsX11_sumOf := goodIn_r _ [40, 41, 42, 43, 44, 45, 46, 47, 48, 49, 50, 51, 52, 53, 54, 55, 56, 57, 58, 59, 72, 73, 74, 75, 76, 77, 78, 79, 80, 81, 82, 83] (by decide +kernel) (by decide +kernel)
set_option maxRecDepth 20000 in
theorem gX11_back_X11_sumOf : GoodIn wsX11_back (wsV RX11 148 RX11 yX11_sumOf wsX11_sumOf) := goodIn_app (goodIn_of _ (by decide +kernel)) ggX11_back_X11_sumOf
theorem dX11_back_0 : decode cX11_back 0 = .ok (.iload_n 1, 1) := by decide +kernel
theorem dX11_back_1 : decode cX11_back 1 = .ok (.invokestatic 284, 3) := by decide +kernel
theorem dX11_back_4 : decode cX11_back 4 = .ok (.ifCond .ne 5, 3) := by decide +kernel
theorem dX11_back_7 : decode cX11_back 7 = .ok (.iconst (-1), 1) := by decide +kernel
theorem dX11_back_8 : decode cX11_back 8 = .ok (.ireturn, 1) := by decide +kernel
theorem dX11_back_9 : decode cX11_back 9 = .ok (.aload_n 0, 1) := by decide +kernel
theorem dX11_back_10 : decode cX11_back 10 = .ok (.getfield 41, 3) := by decide +kernel
theorem dX11_back_13 : decode cX11_back 13 = .ok (.iload_n 1, 1) := by decide +kernel
theorem dX11_back_14 : decode cX11_back 14 = .ok (.baload, 1) := by decide +kernel
theorem dX11_back_15 : decode cX11_back 15 = .ok (.ifCond .ne 6, 3) := by decide +kernel
theorem dX11_back_18 : decode cX11_back 18 = .ok (.bipush (-2), 2) := by decide +kernel
theorem dX11_back_20 : decode cX11_back 20 = .ok (.ireturn, 1) := by decide +kernel
theorem dX11_back_21 : decode cX11_back 21 = .ok (.aload_n 0, 1) := by decide +kernel
theorem dX11_back_22 : decode cX11_back 22 = .ok (.getfield 33, 3) := by decide +kernel
theorem dX11_back_25 : decode cX11_back 25 = .ok (.aload_n 0, 1) := by decide +kernel
theorem dX11_back_26 : decode cX11_back 26 = .ok (.getfield 37, 3) := by decide +kernel
theorem dX11_back_29 : decode cX11_back 29 = .ok (.iload_n 1, 1) := by decide +kernel
theorem dX11_back_30 : decode cX11_back 30 = .ok (.aaload, 1) := by decide +kernel
theorem dX11_back_31 : decode cX11_back 31 = .ok (.invokevirtual 287, 3) := by decide +kernel
theorem dX11_back_34 : decode cX11_back 34 = .ok (.aload_n 0, 1) := by decide +kernel
theorem dX11_back_35 : decode cX11_back 35 = .ok (.aload_n 0, 1) := by decide +kernel
theorem dX11_back_36 : decode cX11_back 36 = .ok (.getfield 33, 3) := by decide +kernel
theorem dX11_back_39 : decode cX11_back 39 = .ok (.getfield 119, 3) := by decide +kernel
theorem dX11_back_42 : decode cX11_back 42 = .ok (.invokevirtual 148, 3) := by decide +kernel
theorem dX11_back_45 : decode cX11_back 45 = .ok (.ireturn, 1) := by decide +kernel
theorem dX11_count_0 : decode cX11_count 0 = .ok (.iload_n 1, 1) := by decide +kernel
theorem dX11_count_1 : decode cX11_count 1 = .ok (.tableswitch 93 0 6 #[43, 51, 59, 67, 75, 80, 88], 43) := by decide +kernel
theorem dX11_count_44 : decode cX11_count 44 = .ok (.aload_n 0, 1) := by decide +kernel
theorem dX11_count_45 : decode cX11_count 45 = .ok (.getfield 16, 3) := by decide +kernel
theorem dX11_count_48 : decode cX11_count 48 = .ok (.getfield 291, 3) := by decide +kernel
theorem dX11_count_51 : decode cX11_count 51 = .ok (.ireturn, 1) := by decide +kernel
theorem dX11_count_52 : decode cX11_count 52 = .ok (.aload_n 0, 1) := by decide +kernel
theorem dX11_count_53 : decode cX11_count 53 = .ok (.getfield 16, 3) := by decide +kernel
theorem dX11_count_56 : decode cX11_count 56 = .ok (.getfield 294, 3) := by decide +kernel
theorem dX11_count_59 : decode cX11_count 59 = .ok (.ireturn, 1) := by decide +kernel
theorem dX11_count_60 : decode cX11_count 60 = .ok (.aload_n 0, 1) := by decide +kernel
theorem dX11_count_61 : decode cX11_count 61 = .ok (.getfield 16, 3) := by decide +kernel
theorem dX11_count_64 : decode cX11_count 64 = .ok (.getfield 297, 3) := by decide +kernel
theorem dX11_count_67 : decode cX11_count 67 = .ok (.ireturn, 1) := by decide +kernel
theorem dX11_count_68 : decode cX11_count 68 = .ok (.aload_n 0, 1) := by decide +kernel
theorem dX11_count_69 : decode cX11_count 69 = .ok (.getfield 16, 3) := by decide +kernel
theorem dX11_count_72 : decode cX11_count 72 = .ok (.getfield 265, 3) := by decide +kernel
theorem dX11_count_75 : decode cX11_count 75 = .ok (.ireturn, 1) := by decide +kernel
theorem dX11_count_76 : decode cX11_count 76 = .ok (.aload_n 0, 1) := by decide +kernel
theorem dX11_count_77 : decode cX11_count 77 = .ok (.getfield 106, 3) := by decide +kernel
theorem dX11_count_80 : decode cX11_count 80 = .ok (.ireturn, 1) := by decide +kernel
theorem dX11_count_81 : decode cX11_count 81 = .ok (.aload_n 0, 1) := by decide +kernel
theorem dX11_count_82 : decode cX11_count 82 = .ok (.getfield 33, 3) := by decide +kernel
theorem dX11_count_85 : decode cX11_count 85 = .ok (.getfield 193, 3) := by decide +kernel
theorem dX11_count_88 : decode cX11_count 88 = .ok (.ireturn, 1) := by decide +kernel
theorem dX11_count_89 : decode cX11_count 89 = .ok (.aload_n 0, 1) := by decide +kernel
theorem dX11_count_90 : decode cX11_count 90 = .ok (.getfield 94, 3) := by decide +kernel
theorem dX11_count_93 : decode cX11_count 93 = .ok (.ireturn, 1) := by decide +kernel
theorem dX11_count_94 : decode cX11_count 94 = .ok (.iconst (-1), 1) := by decide +kernel
theorem dX11_count_95 : decode cX11_count 95 = .ok (.ireturn, 1) := by decide +kernel
theorem dX11_trace_0 : decode cX11_trace 0 = .ok (.aload_n 0, 1) := by decide +kernel
theorem dX11_trace_1 : decode cX11_trace 1 = .ok (.getfield 300, 3) := by decide +kernel
theorem dX11_trace_4 : decode cX11_trace 4 = .ok (.lreturn, 1) := by decide +kernel
theorem dX11_isKind_0 : decode cX11_isKind 0 = .ok (.iload_n 1, 1) := by decide +kernel
theorem dX11_isKind_1 : decode cX11_isKind 1 = .ok (.ifCond .lt 18, 3) := by decide +kernel
theorem dX11_isKind_4 : decode cX11_isKind 4 = .ok (.iload_n 1, 1) := by decide +kernel
theorem dX11_isKind_5 : decode cX11_isKind 5 = .ok (.aload_n 0, 1) := by decide +kernel
theorem dX11_isKind_6 : decode cX11_isKind 6 = .ok (.getfield 16, 3) := by decide +kernel
theorem dX11_isKind_9 : decode cX11_isKind 9 = .ok (.getfield 265, 3) := by decide +kernel
theorem dX11_isKind_12 : decode cX11_isKind 12 = .ok (.if_icmp .ge 7, 3) := by decide +kernel
theorem dX11_isKind_15 : decode cX11_isKind 15 = .ok (.iconst 1, 1) := by decide +kernel
theorem dX11_isKind_16 : decode cX11_isKind 16 = .ok (.goto 4, 3) := by decide +kernel
theorem dX11_isKind_19 : decode cX11_isKind 19 = .ok (.iconst 0, 1) := by decide +kernel
theorem dX11_isKind_20 : decode cX11_isKind 20 = .ok (.ireturn, 1) := by decide +kernel
theorem dX11_isWay_0 : decode cX11_isWay 0 = .ok (.iload_n 0, 1) := by decide +kernel
theorem dX11_isWay_1 : decode cX11_isWay 1 = .ok (.ifCond .lt 12, 3) := by decide +kernel
theorem dX11_isWay_4 : decode cX11_isWay 4 = .ok (.iload_n 0, 1) := by decide +kernel
theorem dX11_isWay_5 : decode cX11_isWay 5 = .ok (.iconst 4, 1) := by decide +kernel
theorem dX11_isWay_6 : decode cX11_isWay 6 = .ok (.if_icmp .ge 7, 3) := by decide +kernel
theorem dX11_isWay_9 : decode cX11_isWay 9 = .ok (.iconst 1, 1) := by decide +kernel
theorem dX11_isWay_10 : decode cX11_isWay 10 = .ok (.goto 4, 3) := by decide +kernel
theorem dX11_isWay_13 : decode cX11_isWay 13 = .ok (.iconst 0, 1) := by decide +kernel
theorem dX11_isWay_14 : decode cX11_isWay 14 = .ok (.ireturn, 1) := by decide +kernel
theorem dX11_isImage_0 : decode cX11_isImage 0 = .ok (.iload_n 0, 1) := by decide +kernel
theorem dX11_isImage_1 : decode cX11_isImage 1 = .ok (.ifCond .lt 12, 3) := by decide +kernel
theorem dX11_isImage_4 : decode cX11_isImage 4 = .ok (.iload_n 0, 1) := by decide +kernel
theorem dX11_isImage_5 : decode cX11_isImage 5 = .ok (.iconst 2, 1) := by decide +kernel
theorem dX11_isImage_6 : decode cX11_isImage 6 = .ok (.if_icmp .ge 7, 3) := by decide +kernel
theorem dX11_isImage_9 : decode cX11_isImage 9 = .ok (.iconst 1, 1) := by decide +kernel
theorem dX11_isImage_10 : decode cX11_isImage 10 = .ok (.goto 4, 3) := by decide +kernel
theorem dX11_isImage_13 : decode cX11_isImage 13 = .ok (.iconst 0, 1) := by decide +kernel
theorem dX11_isImage_14 : decode cX11_isImage 14 = .ok (.ireturn, 1) := by decide +kernel
theorem dX11_isHeight_0 : decode cX11_isHeight 0 = .ok (.iload_n 0, 1) := by decide +kernel
theorem dX11_isHeight_1 : decode cX11_isHeight 1 = .ok (.ifCond .lt 13, 3) := by decide +kernel
theorem dX11_isHeight_4 : decode cX11_isHeight 4 = .ok (.iload_n 0, 1) := by decide +kernel
theorem dX11_isHeight_5 : decode cX11_isHeight 5 = .ok (.bipush 9, 2) := by decide +kernel
theorem dX11_isHeight_7 : decode cX11_isHeight 7 = .ok (.if_icmp .gt 7, 3) := by decide +kernel
theorem dX11_isHeight_10 : decode cX11_isHeight 10 = .ok (.iconst 1, 1) := by decide +kernel
theorem dX11_isHeight_11 : decode cX11_isHeight 11 = .ok (.goto 4, 3) := by decide +kernel
theorem dX11_isHeight_14 : decode cX11_isHeight 14 = .ok (.iconst 0, 1) := by decide +kernel
theorem dX11_isHeight_15 : decode cX11_isHeight 15 = .ok (.ireturn, 1) := by decide +kernel
theorem dX11_shutWays_0 : decode cX11_shutWays 0 = .ok (.aload_n 0, 1) := by decide +kernel
theorem dX11_shutWays_1 : decode cX11_shutWays 1 = .ok (.getfield 16, 3) := by decide +kernel
theorem dX11_shutWays_4 : decode cX11_shutWays 4 = .ok (.getfield 304, 3) := by decide +kernel
theorem dX11_shutWays_7 : decode cX11_shutWays 7 = .ok (.iload_n 1, 1) := by decide +kernel
theorem dX11_shutWays_8 : decode cX11_shutWays 8 = .ok (.iaload, 1) := by decide +kernel
theorem dX11_shutWays_9 : decode cX11_shutWays 9 = .ok (.aload_n 0, 1) := by decide +kernel
theorem dX11_shutWays_10 : decode cX11_shutWays 10 = .ok (.getfield 33, 3) := by decide +kernel
theorem dX11_shutWays_13 : decode cX11_shutWays 13 = .ok (.getfield 181, 3) := by decide +kernel
theorem dX11_shutWays_16 : decode cX11_shutWays 16 = .ok (.iload_n 1, 1) := by decide +kernel
theorem dX11_shutWays_17 : decode cX11_shutWays 17 = .ok (.iaload, 1) := by decide +kernel
theorem dX11_shutWays_18 : decode cX11_shutWays 18 = .ok (.ior, 1) := by decide +kernel
theorem dX11_shutWays_19 : decode cX11_shutWays 19 = .ok (.ireturn, 1) := by decide +kernel
theorem dX11_sumOf_0 : decode cX11_sumOf 0 = .ok (.iconst 0, 1) := by decide +kernel
theorem dX11_sumOf_1 : decode cX11_sumOf 1 = .ok (.istore_n 2, 1) := by decide +kernel
theorem dX11_sumOf_2 : decode cX11_sumOf 2 = .ok (.iconst 0, 1) := by decide +kernel
theorem dX11_sumOf_3 : decode cX11_sumOf 3 = .ok (.istore_n 3, 1) := by decide +kernel
theorem dX11_sumOf_4 : decode cX11_sumOf 4 = .ok (.iload_n 3, 1) := by decide +kernel
theorem dX11_sumOf_5 : decode cX11_sumOf 5 = .ok (.aload_n 0, 1) := by decide +kernel
theorem dX11_sumOf_6 : decode cX11_sumOf 6 = .ok (.getfield 16, 3) := by decide +kernel
theorem dX11_sumOf_9 : decode cX11_sumOf 9 = .ok (.getfield 232, 3) := by decide +kernel
theorem dX11_sumOf_12 : decode cX11_sumOf 12 = .ok (.if_icmp .ge 21, 3) := by decide +kernel
theorem dX11_sumOf_15 : decode cX11_sumOf 15 = .ok (.iload_n 3, 1) := by decide +kernel
theorem dX11_sumOf_16 : decode cX11_sumOf 16 = .ok (.aload_n 1, 1) := by decide +kernel
theorem dX11_sumOf_17 : decode cX11_sumOf 17 = .ok (.arraylength, 1) := by decide +kernel
theorem dX11_sumOf_18 : decode cX11_sumOf 18 = .ok (.if_icmp .ge 15, 3) := by decide +kernel
theorem dX11_sumOf_21 : decode cX11_sumOf 21 = .ok (.iload_n 2, 1) := by decide +kernel
theorem dX11_sumOf_22 : decode cX11_sumOf 22 = .ok (.aload_n 1, 1) := by decide +kernel
theorem dX11_sumOf_23 : decode cX11_sumOf 23 = .ok (.iload_n 3, 1) := by decide +kernel
theorem dX11_sumOf_24 : decode cX11_sumOf 24 = .ok (.iaload, 1) := by decide +kernel
theorem dX11_sumOf_25 : decode cX11_sumOf 25 = .ok (.iadd, 1) := by decide +kernel
theorem dX11_sumOf_26 : decode cX11_sumOf 26 = .ok (.istore_n 2, 1) := by decide +kernel
theorem dX11_sumOf_27 : decode cX11_sumOf 27 = .ok (.iinc 3 1, 3) := by decide +kernel
theorem dX11_sumOf_30 : decode cX11_sumOf 30 = .ok (.goto (-26), 3) := by decide +kernel
theorem dX11_sumOf_33 : decode cX11_sumOf 33 = .ok (.iload_n 2, 1) := by decide +kernel
theorem dX11_sumOf_34 : decode cX11_sumOf 34 = .ok (.ireturn, 1) := by decide +kernel
set_option maxRecDepth 20000 in
theorem ggX11_endCode_X2_pairOf : GoodIn wsX11_endCode wsX2_pairOf := goodIn_r _ [9, 10, 33, 34, 35, 36, 37, 38, 39, 40, 41, 42, 43, 44] (by decide +kernel) (by decide +kernel)
set_option maxRecDepth 20000 in
theorem gX11_endCode_X2_pairOf : GoodIn wsX11_endCode (wsV RX11 239 RX2 yX2_pairOf wsX2_pairOf) := goodIn_app (goodIn_of _ (by decide +kernel)) ggX11_endCode_X2_pairOf
theorem dX11_endCode_0 : decode cX11_endCode 0 = .ok (.aload_n 0, 1) := by decide +kernel
theorem dX11_endCode_1 : decode cX11_endCode 1 = .ok (.getfield 16, 3) := by decide +kernel
theorem dX11_endCode_4 : decode cX11_endCode 4 = .ok (.aload_n 0, 1) := by decide +kernel
theorem dX11_endCode_5 : decode cX11_endCode 5 = .ok (.getfield 48, 3) := by decide +kernel
theorem dX11_endCode_8 : decode cX11_endCode 8 = .ok (.getfield 156, 3) := by decide +kernel
theorem dX11_endCode_11 : decode cX11_endCode 11 = .ok (.invokevirtual 239, 3) := by decide +kernel
theorem dX11_endCode_14 : decode cX11_endCode 14 = .ok (.aload_n 0, 1) := by decide +kernel
theorem dX11_endCode_15 : decode cX11_endCode 15 = .ok (.getfield 48, 3) := by decide +kernel
theorem dX11_endCode_18 : decode cX11_endCode 18 = .ok (.getfield 159, 3) := by decide +kernel
theorem dX11_endCode_21 : decode cX11_endCode 21 = .ok (.ifCond .eq 8, 3) := by decide +kernel
theorem dX11_endCode_24 : decode cX11_endCode 24 = .ok (.bipush 100, 2) := by decide +kernel
theorem dX11_endCode_26 : decode cX11_endCode 26 = .ok (.goto 4, 3) := by decide +kernel
theorem dX11_endCode_29 : decode cX11_endCode 29 = .ok (.iconst 0, 1) := by decide +kernel
theorem dX11_endCode_30 : decode cX11_endCode 30 = .ok (.iadd, 1) := by decide +kernel
theorem dX11_endCode_31 : decode cX11_endCode 31 = .ok (.ireturn, 1) := by decide +kernel
set_option maxRecDepth 20000 in
theorem ggX11_endOf_X8_goAs : GoodIn wsX11_endOf wsX8_goAs := goodIn_r _ [8, 9, 10, 11, 12, 13, 7, 14, 15, 16, 17, 18, 19, 20, 21, 22, 23, 24, 25, 26, 27, 28, 29, 30, 31, 32, 33, 34, 35, 36, 37, 38, 68, 69, 70, 71, 72, 73, 74, 75, 76, 77, 78, 79, 80, 81, 82, 83, 84, 85, 86, 87, 88, 89, 90, 91, 92, 93, 94, 95, 96] (by decide +kernel) (by decide +kernel)
set_option maxRecDepth 20000 in
theorem gX11_endOf_X8_goAs : GoodIn wsX11_endOf (wsV RX11 152 RX8 yX8_goAs wsX8_goAs) := goodIn_app (goodIn_of _ (by decide +kernel)) ggX11_endOf_X8_goAs
set_option maxRecDepth 20000 in
theorem ggX11_endOf_X11_endCode : GoodIn wsX11_endOf wsX11_endCode := goodIn_r _ [43, 2, 1, 44, 45, 46, 47, 48, 36, 49, 50, 51, 52, 53, 54, 55, 56, 57, 58, 59, 60, 61, 62, 63, 64, 65, 66, 67, 80, 81, 82, 83, 84, 68, 69, 70, 71, 72, 73, 74, 75, 76, 77, 78, 79] (by decide +kernel) (by decide +kernel)
set_option maxRecDepth 20000 in
theorem gX11_endOf_X11_endCode : GoodIn wsX11_endOf (wsV RX11 167 RX11 yX11_endCode wsX11_endCode) := goodIn_app (goodIn_of _ (by decide +kernel)) ggX11_endOf_X11_endCode
theorem dX11_endOf_0 : decode cX11_endOf 0 = .ok (.aload_n 0, 1) := by decide +kernel
theorem dX11_endOf_1 : decode cX11_endOf 1 = .ok (.getfield 48, 3) := by decide +kernel
theorem dX11_endOf_4 : decode cX11_endOf 4 = .ok (.aload_n 0, 1) := by decide +kernel
theorem dX11_endOf_5 : decode cX11_endOf 5 = .ok (.getfield 16, 3) := by decide +kernel
theorem dX11_endOf_8 : decode cX11_endOf 8 = .ok (.aload_n 0, 1) := by decide +kernel
theorem dX11_endOf_9 : decode cX11_endOf 9 = .ok (.getfield 33, 3) := by decide +kernel
theorem dX11_endOf_12 : decode cX11_endOf 12 = .ok (.iload_n 1, 1) := by decide +kernel
theorem dX11_endOf_13 : decode cX11_endOf 13 = .ok (.iload_n 2, 1) := by decide +kernel
theorem dX11_endOf_14 : decode cX11_endOf 14 = .ok (.invokevirtual 152, 3) := by decide +kernel
theorem dX11_endOf_17 : decode cX11_endOf 17 = .ok (.aload_n 0, 1) := by decide +kernel
theorem dX11_endOf_18 : decode cX11_endOf 18 = .ok (.invokevirtual 167, 3) := by decide +kernel
theorem dX11_endOf_21 : decode cX11_endOf 21 = .ok (.ireturn, 1) := by decide +kernel
set_option maxRecDepth 20000 in
theorem ggX11_endsAt_X8_goAs : GoodIn wsX11_endsAt wsX8_goAs := goodIn_r _ [9, 10, 11, 12, 13, 14, 8, 15, 16, 17, 18, 19, 20, 21, 22, 23, 24, 25, 26, 27, 28, 29, 30, 31, 32, 33, 34, 35, 36, 37, 38, 39, 62, 63, 64, 65, 66, 67, 68, 69, 70, 71, 72, 73, 57, 58, 59, 60, 61, 74, 75, 76, 77, 78, 79, 80, 81, 82, 83, 84, 85] (by decide +kernel) (by decide +kernel)
set_option maxRecDepth 20000 in
theorem gX11_endsAt_X8_goAs : GoodIn wsX11_endsAt (wsV RX11 152 RX8 yX8_goAs wsX8_goAs) := goodIn_app (goodIn_of _ (by decide +kernel)) ggX11_endsAt_X8_goAs
theorem dX11_endsAt_0 : decode cX11_endsAt 0 = .ok (.aload_n 0, 1) := by decide +kernel
theorem dX11_endsAt_1 : decode cX11_endsAt 1 = .ok (.getfield 48, 3) := by decide +kernel
theorem dX11_endsAt_4 : decode cX11_endsAt 4 = .ok (.aload_n 0, 1) := by decide +kernel
theorem dX11_endsAt_5 : decode cX11_endsAt 5 = .ok (.getfield 16, 3) := by decide +kernel
theorem dX11_endsAt_8 : decode cX11_endsAt 8 = .ok (.aload_n 0, 1) := by decide +kernel
theorem dX11_endsAt_9 : decode cX11_endsAt 9 = .ok (.getfield 33, 3) := by decide +kernel
theorem dX11_endsAt_12 : decode cX11_endsAt 12 = .ok (.iload_n 1, 1) := by decide +kernel
theorem dX11_endsAt_13 : decode cX11_endsAt 13 = .ok (.iload_n 2, 1) := by decide +kernel
theorem dX11_endsAt_14 : decode cX11_endsAt 14 = .ok (.invokevirtual 152, 3) := by decide +kernel
theorem dX11_endsAt_17 : decode cX11_endsAt 17 = .ok (.aload_n 0, 1) := by decide +kernel
theorem dX11_endsAt_18 : decode cX11_endsAt 18 = .ok (.getfield 48, 3) := by decide +kernel
theorem dX11_endsAt_21 : decode cX11_endsAt 21 = .ok (.getfield 156, 3) := by decide +kernel
theorem dX11_endsAt_24 : decode cX11_endsAt 24 = .ok (.iload_n 3, 1) := by decide +kernel
theorem dX11_endsAt_25 : decode cX11_endsAt 25 = .ok (.if_icmp .ne 7, 3) := by decide +kernel
theorem dX11_endsAt_28 : decode cX11_endsAt 28 = .ok (.iconst 1, 1) := by decide +kernel
theorem dX11_endsAt_29 : decode cX11_endsAt 29 = .ok (.goto 4, 3) := by decide +kernel
theorem dX11_endsAt_32 : decode cX11_endsAt 32 = .ok (.iconst 0, 1) := by decide +kernel
theorem dX11_endsAt_33 : decode cX11_endsAt 33 = .ok (.ireturn, 1) := by decide +kernel
set_option maxRecDepth 20000 in
theorem ggX11_doorBits_X11_endsAt : GoodIn wsX11_doorBits wsX11_endsAt := goodIn_r _ [7, 8, 1, 9, 10, 11, 12, 13, 14, 15, 16, 17, 18, 19, 20, 21, 22, 23, 24, 25, 26, 27, 28, 29, 30, 31, 32, 33, 34, 35, 36, 37, 38, 39, 40, 41, 42, 43, 44, 45, 46, 47, 48, 49, 50, 51, 52, 53, 54, 55, 56, 57, 58, 59, 60, 61, 62, 75, 76, 77, 78, 79, 63, 64, 65, 66, 67, 68, 69, 70, 71, 72, 73, 74, 80, 81, 82, 83, 84, 85, 86, 87, 88, 89, 90, 91] (by decide +kernel) (by decide +kernel)
set_option maxRecDepth 20000 in
theorem gX11_doorBits_X11_endsAt : GoodIn wsX11_doorBits (wsV RX11 252 RX11 yX11_endsAt wsX11_endsAt) := goodIn_app (goodIn_of _ (by decide +kernel)) ggX11_doorBits_X11_endsAt
theorem dX11_doorBits_0 : decode cX11_doorBits 0 = .ok (.iconst 0, 1) := by decide +kernel
theorem dX11_doorBits_1 : decode cX11_doorBits 1 = .ok (.istore_n 3, 1) := by decide +kernel
theorem dX11_doorBits_2 : decode cX11_doorBits 2 = .ok (.iconst 0, 1) := by decide +kernel
theorem dX11_doorBits_3 : decode cX11_doorBits 3 = .ok (.istore 4, 2) := by decide +kernel
theorem dX11_doorBits_5 : decode cX11_doorBits 5 = .ok (.iload 4, 2) := by decide +kernel
theorem dX11_doorBits_7 : decode cX11_doorBits 7 = .ok (.aload_n 0, 1) := by decide +kernel
theorem dX11_doorBits_8 : decode cX11_doorBits 8 = .ok (.getfield 16, 3) := by decide +kernel
theorem dX11_doorBits_11 : decode cX11_doorBits 11 = .ok (.getfield 232, 3) := by decide +kernel
theorem dX11_doorBits_14 : decode cX11_doorBits 14 = .ok (.if_icmp .ge 27, 3) := by decide +kernel
theorem dX11_doorBits_17 : decode cX11_doorBits 17 = .ok (.aload_n 0, 1) := by decide +kernel
theorem dX11_doorBits_18 : decode cX11_doorBits 18 = .ok (.iload_n 1, 1) := by decide +kernel
theorem dX11_doorBits_19 : decode cX11_doorBits 19 = .ok (.iload 4, 2) := by decide +kernel
theorem dX11_doorBits_21 : decode cX11_doorBits 21 = .ok (.iload_n 2, 1) := by decide +kernel
theorem dX11_doorBits_22 : decode cX11_doorBits 22 = .ok (.invokevirtual 252, 3) := by decide +kernel
theorem dX11_doorBits_25 : decode cX11_doorBits 25 = .ok (.ifCond .eq 10, 3) := by decide +kernel
theorem dX11_doorBits_28 : decode cX11_doorBits 28 = .ok (.iload_n 3, 1) := by decide +kernel
theorem dX11_doorBits_29 : decode cX11_doorBits 29 = .ok (.iconst 1, 1) := by decide +kernel
theorem dX11_doorBits_30 : decode cX11_doorBits 30 = .ok (.iload 4, 2) := by decide +kernel
theorem dX11_doorBits_32 : decode cX11_doorBits 32 = .ok (.ishl, 1) := by decide +kernel
theorem dX11_doorBits_33 : decode cX11_doorBits 33 = .ok (.ior, 1) := by decide +kernel
theorem dX11_doorBits_34 : decode cX11_doorBits 34 = .ok (.istore_n 3, 1) := by decide +kernel
theorem dX11_doorBits_35 : decode cX11_doorBits 35 = .ok (.iinc 4 1, 3) := by decide +kernel
theorem dX11_doorBits_38 : decode cX11_doorBits 38 = .ok (.goto (-33), 3) := by decide +kernel
theorem dX11_doorBits_41 : decode cX11_doorBits 41 = .ok (.iload_n 3, 1) := by decide +kernel
theorem dX11_doorBits_42 : decode cX11_doorBits 42 = .ok (.ireturn, 1) := by decide +kernel
set_option maxRecDepth 20000 in
theorem ggX11_doorsWithout_X11_doorBits : GoodIn wsX11_doorsWithout wsX11_doorBits := goodIn_r _ [7, 8, 9, 10, 11, 12, 6, 13, 14, 1, 15, 16, 17, 18, 19, 20, 21, 22, 23, 24, 25, 26, 27, 28, 29, 30, 31, 32, 33, 34, 35, 36, 37, 38, 39, 40, 41, 42, 43, 44, 45, 46, 47, 48, 49, 50, 58, 59, 60, 61, 62, 63, 64, 65, 66, 67, 68, 69, 70, 71, 72, 73, 74, 87, 88, 89, 90, 91, 92, 93, 94, 95, 96, 97, 98, 99, 100, 101, 102, 103, 75, 76, 77, 78, 79, 80, 81, 82, 83, 84, 85, 86] (by decide +kernel) (by decide +kernel)
set_option maxRecDepth 20000 in
theorem gX11_doorsWithout_X11_doorBits : GoodIn wsX11_doorsWithout (wsV RX11 210 RX11 yX11_doorBits wsX11_doorBits) := goodIn_app (goodIn_of _ (by decide +kernel)) ggX11_doorsWithout_X11_doorBits
set_option maxRecDepth 20000 in
theorem ggX11_doorsWithout_J6_bitCount_0f7a4 : GoodIn wsX11_doorsWithout wsJ6_bitCount_0f7a4 := goodIn_r _ [54, 55, 56, 57] (by decide +kernel) (by decide +kernel)
set_option maxRecDepth 20000 in
theorem gX11_doorsWithout_J6_bitCount_0f7a4 : GoodIn wsX11_doorsWithout (va_wsS RX11 307 yJ6_bitCount_0f7a4 wsJ6_bitCount_0f7a4) := goodIn_app (goodIn_of _ (by decide +kernel)) ggX11_doorsWithout_J6_bitCount_0f7a4
theorem dX11_doorsWithout_0 : decode cX11_doorsWithout 0 = .ok (.aload_n 0, 1) := by decide +kernel
theorem dX11_doorsWithout_1 : decode cX11_doorsWithout 1 = .ok (.getfield 33, 3) := by decide +kernel
theorem dX11_doorsWithout_4 : decode cX11_doorsWithout 4 = .ok (.getfield 113, 3) := by decide +kernel
theorem dX11_doorsWithout_7 : decode cX11_doorsWithout 7 = .ok (.iload_n 3, 1) := by decide +kernel
theorem dX11_doorsWithout_8 : decode cX11_doorsWithout 8 = .ok (.dup2, 1) := by decide +kernel
theorem dX11_doorsWithout_9 : decode cX11_doorsWithout 9 = .ok (.iaload, 1) := by decide +kernel
theorem dX11_doorsWithout_10 : decode cX11_doorsWithout 10 = .ok (.iconst 1, 1) := by decide +kernel
theorem dX11_doorsWithout_11 : decode cX11_doorsWithout 11 = .ok (.isub, 1) := by decide +kernel
theorem dX11_doorsWithout_12 : decode cX11_doorsWithout 12 = .ok (.iastore, 1) := by decide +kernel
theorem dX11_doorsWithout_13 : decode cX11_doorsWithout 13 = .ok (.aload_n 0, 1) := by decide +kernel
theorem dX11_doorsWithout_14 : decode cX11_doorsWithout 14 = .ok (.iload_n 1, 1) := by decide +kernel
theorem dX11_doorsWithout_15 : decode cX11_doorsWithout 15 = .ok (.iload_n 2, 1) := by decide +kernel
theorem dX11_doorsWithout_16 : decode cX11_doorsWithout 16 = .ok (.invokevirtual 210, 3) := by decide +kernel
theorem dX11_doorsWithout_19 : decode cX11_doorsWithout 19 = .ok (.invokestatic 307, 3) := by decide +kernel
theorem dX11_doorsWithout_22 : decode cX11_doorsWithout 22 = .ok (.istore 4, 2) := by decide +kernel
theorem dX11_doorsWithout_24 : decode cX11_doorsWithout 24 = .ok (.aload_n 0, 1) := by decide +kernel
theorem dX11_doorsWithout_25 : decode cX11_doorsWithout 25 = .ok (.getfield 33, 3) := by decide +kernel
theorem dX11_doorsWithout_28 : decode cX11_doorsWithout 28 = .ok (.getfield 113, 3) := by decide +kernel
theorem dX11_doorsWithout_31 : decode cX11_doorsWithout 31 = .ok (.iload_n 3, 1) := by decide +kernel
theorem dX11_doorsWithout_32 : decode cX11_doorsWithout 32 = .ok (.dup2, 1) := by decide +kernel
theorem dX11_doorsWithout_33 : decode cX11_doorsWithout 33 = .ok (.iaload, 1) := by decide +kernel
theorem dX11_doorsWithout_34 : decode cX11_doorsWithout 34 = .ok (.iconst 1, 1) := by decide +kernel
theorem dX11_doorsWithout_35 : decode cX11_doorsWithout 35 = .ok (.iadd, 1) := by decide +kernel
theorem dX11_doorsWithout_36 : decode cX11_doorsWithout 36 = .ok (.iastore, 1) := by decide +kernel
theorem dX11_doorsWithout_37 : decode cX11_doorsWithout 37 = .ok (.iload 4, 2) := by decide +kernel
theorem dX11_doorsWithout_39 : decode cX11_doorsWithout 39 = .ok (.ireturn, 1) := by decide +kernel
set_option maxRecDepth 20000 in
theorem ggX11_sideCode_X2_pairOf : GoodIn wsX11_sideCode wsX2_pairOf := goodIn_r _ [6, 7, 25, 26, 27, 28, 29, 30, 31, 32, 33, 34, 35, 36] (by decide +kernel) (by decide +kernel)
set_option maxRecDepth 20000 in
theorem gX11_sideCode_X2_pairOf : GoodIn wsX11_sideCode (wsV RX11 239 RX2 yX2_pairOf wsX2_pairOf) := goodIn_app (goodIn_of _ (by decide +kernel)) ggX11_sideCode_X2_pairOf
theorem dX11_sideCode_0 : decode cX11_sideCode 0 = .ok (.bipush 10, 2) := by decide +kernel
theorem dX11_sideCode_2 : decode cX11_sideCode 2 = .ok (.aload_n 0, 1) := by decide +kernel
theorem dX11_sideCode_3 : decode cX11_sideCode 3 = .ok (.getfield 16, 3) := by decide +kernel
theorem dX11_sideCode_6 : decode cX11_sideCode 6 = .ok (.iload_n 1, 1) := by decide +kernel
theorem dX11_sideCode_7 : decode cX11_sideCode 7 = .ok (.iconst 2, 1) := by decide +kernel
theorem dX11_sideCode_8 : decode cX11_sideCode 8 = .ok (.idiv, 1) := by decide +kernel
theorem dX11_sideCode_9 : decode cX11_sideCode 9 = .ok (.invokevirtual 239, 3) := by decide +kernel
theorem dX11_sideCode_12 : decode cX11_sideCode 12 = .ok (.imul, 1) := by decide +kernel
theorem dX11_sideCode_13 : decode cX11_sideCode 13 = .ok (.iload_n 1, 1) := by decide +kernel
theorem dX11_sideCode_14 : decode cX11_sideCode 14 = .ok (.iconst 2, 1) := by decide +kernel
theorem dX11_sideCode_15 : decode cX11_sideCode 15 = .ok (.irem, 1) := by decide +kernel
theorem dX11_sideCode_16 : decode cX11_sideCode 16 = .ok (.iadd, 1) := by decide +kernel
theorem dX11_sideCode_17 : decode cX11_sideCode 17 = .ok (.ireturn, 1) := by decide +kernel
theorem dX11_sharedDivisor_0 : decode cX11_sharedDivisor 0 = .ok (.iconst 5, 1) := by decide +kernel
theorem dX11_sharedDivisor_1 : decode cX11_sharedDivisor 1 = .ok (.istore_n 2, 1) := by decide +kernel
theorem dX11_sharedDivisor_2 : decode cX11_sharedDivisor 2 = .ok (.iload_n 2, 1) := by decide +kernel

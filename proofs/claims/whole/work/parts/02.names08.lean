theorem dX12_planks_0 : decode cX12_planks 0 = .ok (.aload_n 0, 1) := by decide +kernel
theorem dX12_planks_1 : decode cX12_planks 1 = .ok (.iload_n 1, 1) := by decide +kernel
theorem dX12_planks_2 : decode cX12_planks 2 = .ok (.invokevirtual 220, 3) := by decide +kernel
theorem dX12_planks_5 : decode cX12_planks 5 = .ok (.ifCond .eq 32, 3) := by decide +kernel
theorem dX12_planks_8 : decode cX12_planks 8 = .ok (.aload_n 0, 1) := by decide +kernel
theorem dX12_planks_9 : decode cX12_planks 9 = .ok (.iload_n 2, 1) := by decide +kernel
theorem dX12_planks_10 : decode cX12_planks 10 = .ok (.invokevirtual 263, 3) := by decide +kernel
theorem dX12_planks_13 : decode cX12_planks 13 = .ok (.ifCond .eq 24, 3) := by decide +kernel
theorem dX12_planks_16 : decode cX12_planks 16 = .ok (.aload_n 0, 1) := by decide +kernel
theorem dX12_planks_17 : decode cX12_planks 17 = .ok (.iload_n 3, 1) := by decide +kernel
theorem dX12_planks_18 : decode cX12_planks 18 = .ok (.invokevirtual 263, 3) := by decide +kernel
theorem dX12_planks_21 : decode cX12_planks 21 = .ok (.ifCond .eq 16, 3) := by decide +kernel
theorem dX12_planks_24 : decode cX12_planks 24 = .ok (.iload 4, 2) := by decide +kernel
theorem dX12_planks_26 : decode cX12_planks 26 = .ok (.i2l, 1) := by decide +kernel
theorem dX12_planks_27 : decode cX12_planks 27 = .ok (.lconst 0, 1) := by decide +kernel
theorem dX12_planks_28 : decode cX12_planks 28 = .ok (.ldc2_w 255, 3) := by decide +kernel
theorem dX12_planks_31 : decode cX12_planks 31 = .ok (.invokestatic 68, 3) := by decide +kernel
theorem dX12_planks_34 : decode cX12_planks 34 = .ok (.ifCond .ne 5, 3) := by decide +kernel
theorem dX12_planks_37 : decode cX12_planks 37 = .ok (.iconst (-1), 1) := by decide +kernel
theorem dX12_planks_38 : decode cX12_planks 38 = .ok (.ireturn, 1) := by decide +kernel
theorem dX12_planks_39 : decode cX12_planks 39 = .ok (.aload_n 0, 1) := by decide +kernel
theorem dX12_planks_40 : decode cX12_planks 40 = .ok (.iload_n 2, 1) := by decide +kernel
theorem dX12_planks_41 : decode cX12_planks 41 = .ok (.invokevirtual 266, 3) := by decide +kernel
theorem dX12_planks_44 : decode cX12_planks 44 = .ok (.istore 5, 2) := by decide +kernel
theorem dX12_planks_46 : decode cX12_planks 46 = .ok (.aload_n 0, 1) := by decide +kernel
theorem dX12_planks_47 : decode cX12_planks 47 = .ok (.iload_n 3, 1) := by decide +kernel
theorem dX12_planks_48 : decode cX12_planks 48 = .ok (.invokevirtual 266, 3) := by decide +kernel
theorem dX12_planks_51 : decode cX12_planks 51 = .ok (.istore 6, 2) := by decide +kernel
theorem dX12_planks_53 : decode cX12_planks 53 = .ok (.aload_n 0, 1) := by decide +kernel
theorem dX12_planks_54 : decode cX12_planks 54 = .ok (.bipush (-9), 2) := by decide +kernel
theorem dX12_planks_56 : decode cX12_planks 56 = .ok (.putfield 56, 3) := by decide +kernel
theorem dX12_planks_59 : decode cX12_planks 59 = .ok (.aload_n 0, 1) := by decide +kernel
theorem dX12_planks_60 : decode cX12_planks 60 = .ok (.bipush (-9), 2) := by decide +kernel
theorem dX12_planks_62 : decode cX12_planks 62 = .ok (.putfield 60, 3) := by decide +kernel
theorem dX12_planks_65 : decode cX12_planks 65 = .ok (.aload_n 0, 1) := by decide +kernel
theorem dX12_planks_66 : decode cX12_planks 66 = .ok (.iload_n 1, 1) := by decide +kernel
theorem dX12_planks_67 : decode cX12_planks 67 = .ok (.iload 5, 2) := by decide +kernel
theorem dX12_planks_69 : decode cX12_planks 69 = .ok (.invokevirtual 249, 3) := by decide +kernel
theorem dX12_planks_72 : decode cX12_planks 72 = .ok (.iload 6, 2) := by decide +kernel
theorem dX12_planks_74 : decode cX12_planks 74 = .ok (.if_icmp .ne 7, 3) := by decide +kernel
theorem dX12_planks_77 : decode cX12_planks 77 = .ok (.iconst 0, 1) := by decide +kernel
theorem dX12_planks_78 : decode cX12_planks 78 = .ok (.goto 39, 3) := by decide +kernel
theorem dX12_planks_81 : decode cX12_planks 81 = .ok (.aload_n 0, 1) := by decide +kernel
theorem dX12_planks_82 : decode cX12_planks 82 = .ok (.iload_n 1, 1) := by decide +kernel
theorem dX12_planks_83 : decode cX12_planks 83 = .ok (.iload 5, 2) := by decide +kernel
theorem dX12_planks_85 : decode cX12_planks 85 = .ok (.iload 6, 2) := by decide +kernel
theorem dX12_planks_87 : decode cX12_planks 87 = .ok (.iconst 1, 1) := by decide +kernel
theorem dX12_planks_88 : decode cX12_planks 88 = .ok (.invokevirtual 269, 3) := by decide +kernel
theorem dX12_planks_91 : decode cX12_planks 91 = .ok (.ifCond .eq 7, 3) := by decide +kernel
theorem dX12_planks_94 : decode cX12_planks 94 = .ok (.iconst 1, 1) := by decide +kernel
theorem dX12_planks_95 : decode cX12_planks 95 = .ok (.goto 22, 3) := by decide +kernel
theorem dX12_planks_98 : decode cX12_planks 98 = .ok (.aload_n 0, 1) := by decide +kernel
theorem dX12_planks_99 : decode cX12_planks 99 = .ok (.iload_n 1, 1) := by decide +kernel
theorem dX12_planks_100 : decode cX12_planks 100 = .ok (.iload 5, 2) := by decide +kernel
theorem dX12_planks_102 : decode cX12_planks 102 = .ok (.iload 6, 2) := by decide +kernel
theorem dX12_planks_104 : decode cX12_planks 104 = .ok (.iconst 2, 1) := by decide +kernel
theorem dX12_planks_105 : decode cX12_planks 105 = .ok (.invokevirtual 269, 3) := by decide +kernel
theorem dX12_planks_108 : decode cX12_planks 108 = .ok (.ifCond .eq 7, 3) := by decide +kernel
theorem dX12_planks_111 : decode cX12_planks 111 = .ok (.iconst 2, 1) := by decide +kernel
theorem dX12_planks_112 : decode cX12_planks 112 = .ok (.goto 5, 3) := by decide +kernel
theorem dX12_planks_115 : decode cX12_planks 115 = .ok (.bipush (-9), 2) := by decide +kernel
theorem dX12_planks_117 : decode cX12_planks 117 = .ok (.istore 7, 2) := by decide +kernel
theorem dX12_planks_119 : decode cX12_planks 119 = .ok (.iload 7, 2) := by decide +kernel
theorem dX12_planks_121 : decode cX12_planks 121 = .ok (.ifCond .le 10, 3) := by decide +kernel
theorem dX12_planks_124 : decode cX12_planks 124 = .ok (.aload_n 0, 1) := by decide +kernel
theorem dX12_planks_125 : decode cX12_planks 125 = .ok (.getfield 56, 3) := by decide +kernel
theorem dX12_planks_128 : decode cX12_planks 128 = .ok (.goto 5, 3) := by decide +kernel
theorem dX12_planks_131 : decode cX12_planks 131 = .ok (.bipush (-9), 2) := by decide +kernel
theorem dX12_planks_133 : decode cX12_planks 133 = .ok (.istore 8, 2) := by decide +kernel
theorem dX12_planks_135 : decode cX12_planks 135 = .ok (.iload 7, 2) := by decide +kernel
theorem dX12_planks_137 : decode cX12_planks 137 = .ok (.iconst 2, 1) := by decide +kernel
theorem dX12_planks_138 : decode cX12_planks 138 = .ok (.if_icmp .ne 10, 3) := by decide +kernel
theorem dX12_planks_141 : decode cX12_planks 141 = .ok (.aload_n 0, 1) := by decide +kernel
theorem dX12_planks_142 : decode cX12_planks 142 = .ok (.getfield 60, 3) := by decide +kernel
theorem dX12_planks_145 : decode cX12_planks 145 = .ok (.goto 5, 3) := by decide +kernel
theorem dX12_planks_148 : decode cX12_planks 148 = .ok (.bipush (-9), 2) := by decide +kernel
theorem dX12_planks_150 : decode cX12_planks 150 = .ok (.istore 9, 2) := by decide +kernel
theorem dX12_planks_152 : decode cX12_planks 152 = .ok (.aload_n 0, 1) := by decide +kernel
theorem dX12_planks_153 : decode cX12_planks 153 = .ok (.bipush (-9), 2) := by decide +kernel
theorem dX12_planks_155 : decode cX12_planks 155 = .ok (.putfield 56, 3) := by decide +kernel
theorem dX12_planks_158 : decode cX12_planks 158 = .ok (.aload_n 0, 1) := by decide +kernel
theorem dX12_planks_159 : decode cX12_planks 159 = .ok (.bipush (-9), 2) := by decide +kernel
theorem dX12_planks_161 : decode cX12_planks 161 = .ok (.putfield 60, 3) := by decide +kernel
theorem dX12_planks_164 : decode cX12_planks 164 = .ok (.iload 7, 2) := by decide +kernel
theorem dX12_planks_166 : decode cX12_planks 166 = .ok (.bipush (-9), 2) := by decide +kernel
theorem dX12_planks_168 : decode cX12_planks 168 = .ok (.if_icmp .eq 8, 3) := by decide +kernel
theorem dX12_planks_171 : decode cX12_planks 171 = .ok (.iload 4, 2) := by decide +kernel
theorem dX12_planks_173 : decode cX12_planks 173 = .ok (.ifCond .ne 8, 3) := by decide +kernel
theorem dX12_planks_176 : decode cX12_planks 176 = .ok (.iload 7, 2) := by decide +kernel
theorem dX12_planks_178 : decode cX12_planks 178 = .ok (.goto 20, 3) := by decide +kernel
theorem dX12_planks_181 : decode cX12_planks 181 = .ok (.aload_n 0, 1) := by decide +kernel
theorem dX12_planks_182 : decode cX12_planks 182 = .ok (.iload 4, 2) := by decide +kernel
theorem dX12_planks_184 : decode cX12_planks 184 = .ok (.iconst 1, 1) := by decide +kernel
theorem dX12_planks_185 : decode cX12_planks 185 = .ok (.if_icmp .ne 8, 3) := by decide +kernel
theorem dX12_planks_188 : decode cX12_planks 188 = .ok (.iload 8, 2) := by decide +kernel
theorem dX12_planks_190 : decode cX12_planks 190 = .ok (.goto 5, 3) := by decide +kernel
theorem dX12_planks_193 : decode cX12_planks 193 = .ok (.iload 9, 2) := by decide +kernel
theorem dX12_planks_195 : decode cX12_planks 195 = .ok (.invokevirtual 273, 3) := by decide +kernel
theorem dX12_planks_198 : decode cX12_planks 198 = .ok (.ireturn, 1) := by decide +kernel
set_option maxRecDepth 20000 in
theorem ggX12_paved_X12_isKind : GoodIn wsX12_paved wsX12_isKind := goodIn_r _ [6, 7, 8, 9, 5, 10, 88, 89, 90, 91, 92, 93, 94, 95, 96, 97, 98, 99, 100, 101, 102, 103, 104, 105, 106, 107, 108, 109, 110, 111, 112, 113, 114, 115, 116, 117, 118, 119, 120, 121, 122, 123] (by decide +kernel) (by decide +kernel)
set_option maxRecDepth 20000 in
theorem gX12_paved_X12_isKind : GoodIn wsX12_paved (wsV RX12 220 RX12 yX12_isKind wsX12_isKind) := goodIn_app (goodIn_of _ (by decide +kernel)) ggX12_paved_X12_isKind
set_option maxRecDepth 20000 in
theorem ggX12_paved_X12_isCell : GoodIn wsX12_paved wsX12_isCell := goodIn_r _ [14, 15, 16, 8, 9, 5, 10, 88, 89, 90, 91, 92, 93, 94, 95, 96, 97, 98, 99, 100, 101, 102, 103, 104, 105, 106, 107, 108, 109, 110, 111, 112, 113, 114, 115, 116, 117, 118, 119, 120, 121, 122, 123] (by decide +kernel) (by decide +kernel)
set_option maxRecDepth 20000 in
theorem gX12_paved_X12_isCell : GoodIn wsX12_paved (wsV RX12 160 RX12 yX12_isCell wsX12_isCell) := goodIn_app (goodIn_of _ (by decide +kernel)) ggX12_paved_X12_isCell
set_option maxRecDepth 20000 in
theorem ggX12_paved_X12_in : GoodIn wsX12_paved wsX12_in := goodIn_r _ [10] (by decide +kernel) (by decide +kernel)
set_option maxRecDepth 20000 in
theorem gX12_paved_X12_in : GoodIn wsX12_paved (va_wsS RX12 68 yX12_in wsX12_in) := goodIn_app (goodIn_of _ (by decide +kernel)) ggX12_paved_X12_in
set_option maxRecDepth 20000 in
theorem ggX12_paved_X12_cells : GoodIn wsX12_paved wsX12_cells := goodIn_r _ [20, 15, 16, 88, 89, 90, 91, 92, 93, 94, 95, 96, 97, 98, 99, 100, 101, 102, 103, 104, 105, 106, 107, 108, 109, 110, 111, 112, 113, 114, 115, 116, 117, 118, 119, 120, 121, 122, 123] (by decide +kernel) (by decide +kernel)
set_option maxRecDepth 20000 in
theorem gX12_paved_X12_cells : GoodIn wsX12_paved (wsV RX12 223 RX12 yX12_cells wsX12_cells) := goodIn_app (goodIn_of _ (by decide +kernel)) ggX12_paved_X12_cells
set_option maxRecDepth 20000 in
theorem ggX12_paved_X12_bit : GoodIn wsX12_paved wsX12_bit := goodIn_r _ [24, 15, 88, 89, 90, 91, 92, 93, 94, 95, 96, 97, 98, 99, 100, 101, 102, 103, 104, 105, 106, 107, 108, 109, 110, 111, 112, 113, 114, 115, 116, 117, 118, 119, 120, 121, 122, 123] (by decide +kernel) (by decide +kernel)
set_option maxRecDepth 20000 in
theorem gX12_paved_X12_bit : GoodIn wsX12_paved (wsV RX12 164 RX12 yX12_bit wsX12_bit) := goodIn_app (goodIn_of _ (by decide +kernel)) ggX12_paved_X12_bit
set_option maxRecDepth 20000 in
theorem ggX12_paved_X12_doorsOf : GoodIn wsX12_paved wsX12_doorsOf := goodIn_r _ [28, 17, 18, 19, 5, 20, 15, 16, 29, 30, 31, 32, 33, 34, 35, 36, 37, 38, 39, 40, 41, 42, 43, 44, 45, 46, 47, 48, 49, 50, 1, 51, 52, 53, 54, 55, 56, 57, 58, 59, 60, 61, 62, 63, 64, 65, 66, 67, 68, 69, 70, 71, 72, 73, 74, 75, 76, 77, 78, 79, 80, 88, 89, 90, 91, 92, 93, 94, 95, 96, 97, 98, 99, 100, 101, 102, 103, 104, 105, 106, 107, 108, 109, 110, 111, 112, 113, 114, 115, 116, 117, 118, 119, 120, 121, 122, 123] (by decide +kernel) (by decide +kernel)
set_option maxRecDepth 20000 in
theorem gX12_paved_X12_doorsOf : GoodIn wsX12_paved (wsV RX12 257 RX12 yX12_doorsOf wsX12_doorsOf) := goodIn_app (goodIn_of _ (by decide +kernel)) ggX12_paved_X12_doorsOf
set_option maxRecDepth 20000 in
theorem ggX12_paved_X12_bits : GoodIn wsX12_paved wsX12_bits := goodIn_r _ [83] (by decide +kernel) (by decide +kernel)
set_option maxRecDepth 20000 in
theorem gX12_paved_X12_bits : GoodIn wsX12_paved (va_wsS RX12 276 yX12_bits wsX12_bits) := goodIn_app (goodIn_of _ (by decide +kernel)) ggX12_paved_X12_bits
set_option maxRecDepth 20000 in
theorem ggX12_paved_X12_pairOf : GoodIn wsX12_paved wsX12_pairOf := goodIn_r _ [87, 15, 88, 89, 90, 91, 92, 93, 94, 95, 96, 97, 98, 99, 100, 101, 102, 103, 104, 105, 106, 107, 108, 109, 110, 111, 112, 113, 114, 115, 116, 117, 118, 119, 120, 121, 122, 123] (by decide +kernel) (by decide +kernel)
set_option maxRecDepth 20000 in
theorem gX12_paved_X12_pairOf : GoodIn wsX12_paved (wsV RX12 207 RX12 yX12_pairOf wsX12_pairOf) := goodIn_app (goodIn_of _ (by decide +kernel)) ggX12_paved_X12_pairOf
theorem dX12_paved_0 : decode cX12_paved 0 = .ok (.aload_n 0, 1) := by decide +kernel
theorem dX12_paved_1 : decode cX12_paved 1 = .ok (.iload_n 1, 1) := by decide +kernel
theorem dX12_paved_2 : decode cX12_paved 2 = .ok (.invokevirtual 220, 3) := by decide +kernel
theorem dX12_paved_5 : decode cX12_paved 5 = .ok (.ifCond .eq 23, 3) := by decide +kernel
theorem dX12_paved_8 : decode cX12_paved 8 = .ok (.aload_n 0, 1) := by decide +kernel
theorem dX12_paved_9 : decode cX12_paved 9 = .ok (.iload_n 2, 1) := by decide +kernel
theorem dX12_paved_10 : decode cX12_paved 10 = .ok (.iload_n 3, 1) := by decide +kernel
theorem dX12_paved_11 : decode cX12_paved 11 = .ok (.invokevirtual 160, 3) := by decide +kernel
theorem dX12_paved_14 : decode cX12_paved 14 = .ok (.ifCond .eq 14, 3) := by decide +kernel
theorem dX12_paved_17 : decode cX12_paved 17 = .ok (.iload 4, 2) := by decide +kernel
theorem dX12_paved_19 : decode cX12_paved 19 = .ok (.i2l, 1) := by decide +kernel
theorem dX12_paved_20 : decode cX12_paved 20 = .ok (.lconst 0, 1) := by decide +kernel
theorem dX12_paved_21 : decode cX12_paved 21 = .ok (.lconst 1, 1) := by decide +kernel
theorem dX12_paved_22 : decode cX12_paved 22 = .ok (.invokestatic 68, 3) := by decide +kernel
theorem dX12_paved_25 : decode cX12_paved 25 = .ok (.ifCond .ne 5, 3) := by decide +kernel
theorem dX12_paved_28 : decode cX12_paved 28 = .ok (.iconst (-1), 1) := by decide +kernel
theorem dX12_paved_29 : decode cX12_paved 29 = .ok (.ireturn, 1) := by decide +kernel
theorem dX12_paved_30 : decode cX12_paved 30 = .ok (.bipush (-9), 2) := by decide +kernel
theorem dX12_paved_32 : decode cX12_paved 32 = .ok (.istore 5, 2) := by decide +kernel
theorem dX12_paved_34 : decode cX12_paved 34 = .ok (.bipush (-9), 2) := by decide +kernel
theorem dX12_paved_36 : decode cX12_paved 36 = .ok (.istore 6, 2) := by decide +kernel
theorem dX12_paved_38 : decode cX12_paved 38 = .ok (.iconst 0, 1) := by decide +kernel
theorem dX12_paved_39 : decode cX12_paved 39 = .ok (.istore 7, 2) := by decide +kernel
theorem dX12_paved_41 : decode cX12_paved 41 = .ok (.iload 7, 2) := by decide +kernel
theorem dX12_paved_43 : decode cX12_paved 43 = .ok (.aload_n 0, 1) := by decide +kernel
theorem dX12_paved_44 : decode cX12_paved 44 = .ok (.invokevirtual 223, 3) := by decide +kernel
theorem dX12_paved_47 : decode cX12_paved 47 = .ok (.if_icmp .ge 95, 3) := by decide +kernel
theorem dX12_paved_50 : decode cX12_paved 50 = .ok (.aload_n 0, 1) := by decide +kernel
theorem dX12_paved_51 : decode cX12_paved 51 = .ok (.getfield 7, 3) := by decide +kernel
theorem dX12_paved_54 : decode cX12_paved 54 = .ok (.iconst 1, 1) := by decide +kernel
theorem dX12_paved_55 : decode cX12_paved 55 = .ok (.iload 7, 2) := by decide +kernel
theorem dX12_paved_57 : decode cX12_paved 57 = .ok (.iadd, 1) := by decide +kernel
theorem dX12_paved_58 : decode cX12_paved 58 = .ok (.iaload, 1) := by decide +kernel
theorem dX12_paved_59 : decode cX12_paved 59 = .ok (.ifCond .le 77, 3) := by decide +kernel
theorem dX12_paved_62 : decode cX12_paved 62 = .ok (.aload_n 0, 1) := by decide +kernel
theorem dX12_paved_63 : decode cX12_paved 63 = .ok (.getfield 7, 3) := by decide +kernel
theorem dX12_paved_66 : decode cX12_paved 66 = .ok (.iconst 1, 1) := by decide +kernel
theorem dX12_paved_67 : decode cX12_paved 67 = .ok (.iload 7, 2) := by decide +kernel
theorem dX12_paved_69 : decode cX12_paved 69 = .ok (.iadd, 1) := by decide +kernel
theorem dX12_paved_70 : decode cX12_paved 70 = .ok (.dup2, 1) := by decide +kernel
theorem dX12_paved_71 : decode cX12_paved 71 = .ok (.iaload, 1) := by decide +kernel
theorem dX12_paved_72 : decode cX12_paved 72 = .ok (.iconst 1, 1) := by decide +kernel
theorem dX12_paved_73 : decode cX12_paved 73 = .ok (.isub, 1) := by decide +kernel
theorem dX12_paved_74 : decode cX12_paved 74 = .ok (.iastore, 1) := by decide +kernel
theorem dX12_paved_75 : decode cX12_paved 75 = .ok (.aload_n 0, 1) := by decide +kernel
theorem dX12_paved_76 : decode cX12_paved 76 = .ok (.iload_n 1, 1) := by decide +kernel
theorem dX12_paved_77 : decode cX12_paved 77 = .ok (.aload_n 0, 1) := by decide +kernel
theorem dX12_paved_78 : decode cX12_paved 78 = .ok (.iload_n 2, 1) := by decide +kernel
theorem dX12_paved_79 : decode cX12_paved 79 = .ok (.iload_n 3, 1) := by decide +kernel
theorem dX12_paved_80 : decode cX12_paved 80 = .ok (.invokevirtual 164, 3) := by decide +kernel
theorem dX12_paved_83 : decode cX12_paved 83 = .ok (.invokevirtual 257, 3) := by decide +kernel
theorem dX12_paved_86 : decode cX12_paved 86 = .ok (.invokestatic 276, 3) := by decide +kernel
theorem dX12_paved_89 : decode cX12_paved 89 = .ok (.istore 8, 2) := by decide +kernel
theorem dX12_paved_91 : decode cX12_paved 91 = .ok (.aload_n 0, 1) := by decide +kernel
theorem dX12_paved_92 : decode cX12_paved 92 = .ok (.getfield 7, 3) := by decide +kernel
theorem dX12_paved_95 : decode cX12_paved 95 = .ok (.iconst 1, 1) := by decide +kernel
theorem dX12_paved_96 : decode cX12_paved 96 = .ok (.iload 7, 2) := by decide +kernel
theorem dX12_paved_98 : decode cX12_paved 98 = .ok (.iadd, 1) := by decide +kernel
theorem dX12_paved_99 : decode cX12_paved 99 = .ok (.dup2, 1) := by decide +kernel
theorem dX12_paved_100 : decode cX12_paved 100 = .ok (.iaload, 1) := by decide +kernel
theorem dX12_paved_101 : decode cX12_paved 101 = .ok (.iconst 1, 1) := by decide +kernel
theorem dX12_paved_102 : decode cX12_paved 102 = .ok (.iadd, 1) := by decide +kernel
theorem dX12_paved_103 : decode cX12_paved 103 = .ok (.iastore, 1) := by decide +kernel
theorem dX12_paved_104 : decode cX12_paved 104 = .ok (.iload 8, 2) := by decide +kernel
theorem dX12_paved_106 : decode cX12_paved 106 = .ok (.iload 6, 2) := by decide +kernel
theorem dX12_paved_108 : decode cX12_paved 108 = .ok (.if_icmp .le 8, 3) := by decide +kernel
theorem dX12_paved_111 : decode cX12_paved 111 = .ok (.iload 7, 2) := by decide +kernel
theorem dX12_paved_113 : decode cX12_paved 113 = .ok (.goto 5, 3) := by decide +kernel
theorem dX12_paved_116 : decode cX12_paved 116 = .ok (.iload 5, 2) := by decide +kernel
theorem dX12_paved_118 : decode cX12_paved 118 = .ok (.istore 5, 2) := by decide +kernel
theorem dX12_paved_120 : decode cX12_paved 120 = .ok (.iload 8, 2) := by decide +kernel
theorem dX12_paved_122 : decode cX12_paved 122 = .ok (.iload 6, 2) := by decide +kernel
theorem dX12_paved_124 : decode cX12_paved 124 = .ok (.if_icmp .le 8, 3) := by decide +kernel
theorem dX12_paved_127 : decode cX12_paved 127 = .ok (.iload 8, 2) := by decide +kernel
theorem dX12_paved_129 : decode cX12_paved 129 = .ok (.goto 5, 3) := by decide +kernel
theorem dX12_paved_132 : decode cX12_paved 132 = .ok (.iload 6, 2) := by decide +kernel
theorem dX12_paved_134 : decode cX12_paved 134 = .ok (.istore 6, 2) := by decide +kernel
theorem dX12_paved_136 : decode cX12_paved 136 = .ok (.iinc 7 1, 3) := by decide +kernel
theorem dX12_paved_139 : decode cX12_paved 139 = .ok (.goto (-98), 3) := by decide +kernel
theorem dX12_paved_142 : decode cX12_paved 142 = .ok (.iload 5, 2) := by decide +kernel
theorem dX12_paved_144 : decode cX12_paved 144 = .ok (.bipush (-9), 2) := by decide +kernel
theorem dX12_paved_146 : decode cX12_paved 146 = .ok (.if_icmp .ne 8, 3) := by decide +kernel
theorem dX12_paved_149 : decode cX12_paved 149 = .ok (.bipush (-9), 2) := by decide +kernel
theorem dX12_paved_151 : decode cX12_paved 151 = .ok (.goto 19, 3) := by decide +kernel
theorem dX12_paved_154 : decode cX12_paved 154 = .ok (.iload 4, 2) := by decide +kernel
theorem dX12_paved_156 : decode cX12_paved 156 = .ok (.ifCond .ne 12, 3) := by decide +kernel
theorem dX12_paved_159 : decode cX12_paved 159 = .ok (.aload_n 0, 1) := by decide +kernel
theorem dX12_paved_160 : decode cX12_paved 160 = .ok (.iload 5, 2) := by decide +kernel
theorem dX12_paved_162 : decode cX12_paved 162 = .ok (.invokevirtual 207, 3) := by decide +kernel
theorem dX12_paved_165 : decode cX12_paved 165 = .ok (.goto 5, 3) := by decide +kernel
theorem dX12_paved_168 : decode cX12_paved 168 = .ok (.iload 6, 2) := by decide +kernel
theorem dX12_paved_170 : decode cX12_paved 170 = .ok (.ireturn, 1) := by decide +kernel
set_option maxRecDepth 20000 in
theorem ggX12_rain_X12_in : GoodIn wsX12_rain wsX12_in := goodIn_r _ [5] (by decide +kernel) (by decide +kernel)
set_option maxRecDepth 20000 in
theorem gX12_rain_X12_in : GoodIn wsX12_rain (va_wsS RX12 68 yX12_in wsX12_in) := goodIn_app (goodIn_of _ (by decide +kernel)) ggX12_rain_X12_in
set_option maxRecDepth 20000 in
theorem ggX12_rain_X12_cells : GoodIn wsX12_rain wsX12_cells := goodIn_r _ [9, 10, 11, 58, 59, 60, 61, 62, 63, 64, 65, 66, 67, 68, 69, 70, 71, 72, 73, 74, 75, 76, 77, 78, 79, 80, 81, 82, 83, 84, 85, 86, 87, 88, 89, 90, 91, 92, 93] (by decide +kernel) (by decide +kernel)
set_option maxRecDepth 20000 in
theorem gX12_rain_X12_cells : GoodIn wsX12_rain (wsV RX12 223 RX12 yX12_cells wsX12_cells) := goodIn_app (goodIn_of _ (by decide +kernel)) ggX12_rain_X12_cells
set_option maxRecDepth 20000 in
theorem ggX12_rain_X12_roll : GoodIn wsX12_rain wsX12_roll := goodIn_r _ [15, 16, 17, 18, 1, 19, 20, 21, 4, 22, 23, 24, 25, 26, 27, 28, 29, 30, 31, 32, 33, 10, 11, 34, 35, 36, 37, 38, 39, 40, 41, 42, 43, 44, 45, 46, 47, 48, 49, 50, 51, 52, 53, 58, 59, 60, 61, 62, 63, 64, 65, 66, 67, 68, 69, 70, 71, 72, 73, 74, 75, 76, 77, 78, 79, 80, 81, 82, 83, 84, 85, 86, 87, 88, 89, 90, 91, 92, 93] (by decide +kernel) (by decide +kernel)
set_option maxRecDepth 20000 in
theorem gX12_rain_X12_roll : GoodIn wsX12_rain (wsV RX12 203 RX12 yX12_roll wsX12_roll) := goodIn_app (goodIn_of _ (by decide +kernel)) ggX12_rain_X12_roll
set_option maxRecDepth 20000 in
theorem ggX12_rain_X12_pairOf : GoodIn wsX12_rain wsX12_pairOf := goodIn_r _ [57, 10, 58, 59, 60, 61, 62, 63, 64, 65, 66, 67, 68, 69, 70, 71, 72, 73, 74, 75, 76, 77, 78, 79, 80, 81, 82, 83, 84, 85, 86, 87, 88, 89, 90, 91, 92, 93] (by decide +kernel) (by decide +kernel)
set_option maxRecDepth 20000 in
theorem gX12_rain_X12_pairOf : GoodIn wsX12_rain (wsV RX12 207 RX12 yX12_pairOf wsX12_pairOf) := goodIn_app (goodIn_of _ (by decide +kernel)) ggX12_rain_X12_pairOf
theorem dX12_rain_0 : decode cX12_rain 0 = .ok (.iload_n 1, 1) := by decide +kernel
theorem dX12_rain_1 : decode cX12_rain 1 = .ok (.i2l, 1) := by decide +kernel
theorem dX12_rain_2 : decode cX12_rain 2 = .ok (.lconst 0, 1) := by decide +kernel
theorem dX12_rain_3 : decode cX12_rain 3 = .ok (.lconst 1, 1) := by decide +kernel
theorem dX12_rain_4 : decode cX12_rain 4 = .ok (.invokestatic 68, 3) := by decide +kernel
theorem dX12_rain_7 : decode cX12_rain 7 = .ok (.ifCond .ne 5, 3) := by decide +kernel
theorem dX12_rain_10 : decode cX12_rain 10 = .ok (.iconst (-1), 1) := by decide +kernel
theorem dX12_rain_11 : decode cX12_rain 11 = .ok (.ireturn, 1) := by decide +kernel
theorem dX12_rain_12 : decode cX12_rain 12 = .ok (.bipush (-9), 2) := by decide +kernel
theorem dX12_rain_14 : decode cX12_rain 14 = .ok (.istore_n 2, 1) := by decide +kernel
theorem dX12_rain_15 : decode cX12_rain 15 = .ok (.iconst 0, 1) := by decide +kernel
theorem dX12_rain_16 : decode cX12_rain 16 = .ok (.istore_n 3, 1) := by decide +kernel
theorem dX12_rain_17 : decode cX12_rain 17 = .ok (.iconst 0, 1) := by decide +kernel
theorem dX12_rain_18 : decode cX12_rain 18 = .ok (.istore 4, 2) := by decide +kernel
theorem dX12_rain_20 : decode cX12_rain 20 = .ok (.iload 4, 2) := by decide +kernel
theorem dX12_rain_22 : decode cX12_rain 22 = .ok (.aload_n 0, 1) := by decide +kernel
theorem dX12_rain_23 : decode cX12_rain 23 = .ok (.invokevirtual 223, 3) := by decide +kernel
theorem dX12_rain_26 : decode cX12_rain 26 = .ok (.if_icmp .ge 86, 3) := by decide +kernel
theorem dX12_rain_29 : decode cX12_rain 29 = .ok (.iconst 0, 1) := by decide +kernel
theorem dX12_rain_30 : decode cX12_rain 30 = .ok (.istore 5, 2) := by decide +kernel
theorem dX12_rain_32 : decode cX12_rain 32 = .ok (.iconst 0, 1) := by decide +kernel
theorem dX12_rain_33 : decode cX12_rain 33 = .ok (.istore 6, 2) := by decide +kernel
theorem dX12_rain_35 : decode cX12_rain 35 = .ok (.iload 6, 2) := by decide +kernel
theorem dX12_rain_37 : decode cX12_rain 37 = .ok (.aload_n 0, 1) := by decide +kernel
theorem dX12_rain_38 : decode cX12_rain 38 = .ok (.invokevirtual 223, 3) := by decide +kernel
theorem dX12_rain_41 : decode cX12_rain 41 = .ok (.if_icmp .ge 39, 3) := by decide +kernel
theorem dX12_rain_44 : decode cX12_rain 44 = .ok (.aload_n 0, 1) := by decide +kernel
theorem dX12_rain_45 : decode cX12_rain 45 = .ok (.iconst 1, 1) := by decide +kernel
theorem dX12_rain_46 : decode cX12_rain 46 = .ok (.iconst 0, 1) := by decide +kernel
theorem dX12_rain_47 : decode cX12_rain 47 = .ok (.iload 6, 2) := by decide +kernel
theorem dX12_rain_49 : decode cX12_rain 49 = .ok (.invokevirtual 203, 3) := by decide +kernel
theorem dX12_rain_52 : decode cX12_rain 52 = .ok (.iload 5, 2) := by decide +kernel
theorem dX12_rain_54 : decode cX12_rain 54 = .ok (.aload_n 0, 1) := by decide +kernel
theorem dX12_rain_55 : decode cX12_rain 55 = .ok (.getfield 200, 3) := by decide +kernel
theorem dX12_rain_58 : decode cX12_rain 58 = .ok (.bipush 100, 2) := by decide +kernel
theorem dX12_rain_60 : decode cX12_rain 60 = .ok (.irem, 1) := by decide +kernel
theorem dX12_rain_61 : decode cX12_rain 61 = .ok (.iload 4, 2) := by decide +kernel
theorem dX12_rain_63 : decode cX12_rain 63 = .ok (.if_icmp .ne 7, 3) := by decide +kernel
theorem dX12_rain_66 : decode cX12_rain 66 = .ok (.iconst 1, 1) := by decide +kernel
theorem dX12_rain_67 : decode cX12_rain 67 = .ok (.goto 4, 3) := by decide +kernel
theorem dX12_rain_70 : decode cX12_rain 70 = .ok (.iconst 0, 1) := by decide +kernel
theorem dX12_rain_71 : decode cX12_rain 71 = .ok (.iadd, 1) := by decide +kernel
theorem dX12_rain_72 : decode cX12_rain 72 = .ok (.istore 5, 2) := by decide +kernel
theorem dX12_rain_74 : decode cX12_rain 74 = .ok (.iinc 6 1, 3) := by decide +kernel
theorem dX12_rain_77 : decode cX12_rain 77 = .ok (.goto (-42), 3) := by decide +kernel
theorem dX12_rain_80 : decode cX12_rain 80 = .ok (.iload 5, 2) := by decide +kernel
theorem dX12_rain_82 : decode cX12_rain 82 = .ok (.iload_n 3, 1) := by decide +kernel
theorem dX12_rain_83 : decode cX12_rain 83 = .ok (.if_icmp .le 8, 3) := by decide +kernel
theorem dX12_rain_86 : decode cX12_rain 86 = .ok (.iload 4, 2) := by decide +kernel
theorem dX12_rain_88 : decode cX12_rain 88 = .ok (.goto 4, 3) := by decide +kernel
theorem dX12_rain_91 : decode cX12_rain 91 = .ok (.iload_n 2, 1) := by decide +kernel
theorem dX12_rain_92 : decode cX12_rain 92 = .ok (.istore_n 2, 1) := by decide +kernel
theorem dX12_rain_93 : decode cX12_rain 93 = .ok (.iload 5, 2) := by decide +kernel
theorem dX12_rain_95 : decode cX12_rain 95 = .ok (.iload_n 3, 1) := by decide +kernel
theorem dX12_rain_96 : decode cX12_rain 96 = .ok (.if_icmp .le 8, 3) := by decide +kernel
theorem dX12_rain_99 : decode cX12_rain 99 = .ok (.iload 5, 2) := by decide +kernel
theorem dX12_rain_101 : decode cX12_rain 101 = .ok (.goto 4, 3) := by decide +kernel
theorem dX12_rain_104 : decode cX12_rain 104 = .ok (.iload_n 3, 1) := by decide +kernel
theorem dX12_rain_105 : decode cX12_rain 105 = .ok (.istore_n 3, 1) := by decide +kernel
theorem dX12_rain_106 : decode cX12_rain 106 = .ok (.iinc 4 1, 3) := by decide +kernel
theorem dX12_rain_109 : decode cX12_rain 109 = .ok (.goto (-89), 3) := by decide +kernel
theorem dX12_rain_112 : decode cX12_rain 112 = .ok (.iload_n 1, 1) := by decide +kernel
theorem dX12_rain_113 : decode cX12_rain 113 = .ok (.iconst 1, 1) := by decide +kernel
theorem dX12_rain_114 : decode cX12_rain 114 = .ok (.if_icmp .ne 7, 3) := by decide +kernel
theorem dX12_rain_117 : decode cX12_rain 117 = .ok (.iload_n 3, 1) := by decide +kernel
theorem dX12_rain_118 : decode cX12_rain 118 = .ok (.goto 19, 3) := by decide +kernel
theorem dX12_rain_121 : decode cX12_rain 121 = .ok (.iload_n 2, 1) := by decide +kernel
theorem dX12_rain_122 : decode cX12_rain 122 = .ok (.bipush (-9), 2) := by decide +kernel
theorem dX12_rain_124 : decode cX12_rain 124 = .ok (.if_icmp .ne 8, 3) := by decide +kernel
theorem dX12_rain_127 : decode cX12_rain 127 = .ok (.bipush (-9), 2) := by decide +kernel
theorem dX12_rain_129 : decode cX12_rain 129 = .ok (.goto 8, 3) := by decide +kernel
theorem dX12_rain_132 : decode cX12_rain 132 = .ok (.aload_n 0, 1) := by decide +kernel
theorem dX12_rain_133 : decode cX12_rain 133 = .ok (.iload_n 2, 1) := by decide +kernel
theorem dX12_rain_134 : decode cX12_rain 134 = .ok (.invokevirtual 207, 3) := by decide +kernel
theorem dX12_rain_137 : decode cX12_rain 137 = .ok (.ireturn, 1) := by decide +kernel
theorem dX12_divisor_0 : decode cX12_divisor 0 = .ok (.iload_n 0, 1) := by decide +kernel
theorem dX12_divisor_1 : decode cX12_divisor 1 = .ok (.istore_n 2, 1) := by decide +kernel
theorem dX12_divisor_2 : decode cX12_divisor 2 = .ok (.iload_n 1, 1) := by decide +kernel
theorem dX12_divisor_3 : decode cX12_divisor 3 = .ok (.istore_n 3, 1) := by decide +kernel
theorem dX12_divisor_4 : decode cX12_divisor 4 = .ok (.iload_n 3, 1) := by decide +kernel
theorem dX12_divisor_5 : decode cX12_divisor 5 = .ok (.ifCond .eq 16, 3) := by decide +kernel
theorem dX12_divisor_8 : decode cX12_divisor 8 = .ok (.iload_n 2, 1) := by decide +kernel
theorem dX12_divisor_9 : decode cX12_divisor 9 = .ok (.iload_n 3, 1) := by decide +kernel
theorem dX12_divisor_10 : decode cX12_divisor 10 = .ok (.irem, 1) := by decide +kernel
theorem dX12_divisor_11 : decode cX12_divisor 11 = .ok (.istore 4, 2) := by decide +kernel
theorem dX12_divisor_13 : decode cX12_divisor 13 = .ok (.iload_n 3, 1) := by decide +kernel
theorem dX12_divisor_14 : decode cX12_divisor 14 = .ok (.istore_n 2, 1) := by decide +kernel
theorem dX12_divisor_15 : decode cX12_divisor 15 = .ok (.iload 4, 2) := by decide +kernel
theorem dX12_divisor_17 : decode cX12_divisor 17 = .ok (.istore_n 3, 1) := by decide +kernel
theorem dX12_divisor_18 : decode cX12_divisor 18 = .ok (.goto (-14), 3) := by decide +kernel
theorem dX12_divisor_21 : decode cX12_divisor 21 = .ok (.iload_n 2, 1) := by decide +kernel
theorem dX12_divisor_22 : decode cX12_divisor 22 = .ok (.ireturn, 1) := by decide +kernel
set_option maxRecDepth 20000 in
theorem ggX12_feet_X12_isKind : GoodIn wsX12_feet wsX12_isKind := goodIn_r _ [5, 6, 7, 8, 4, 9, 84, 85, 86, 87, 88, 89, 90, 91, 92, 93, 94, 95, 96, 97, 98, 99, 100, 101, 102, 103, 104, 105, 106, 107, 108, 109, 110, 111, 112, 113, 114, 115, 116, 117, 118, 119] (by decide +kernel) (by decide +kernel)
set_option maxRecDepth 20000 in
theorem gX12_feet_X12_isKind : GoodIn wsX12_feet (wsV RX12 220 RX12 yX12_isKind wsX12_isKind) := goodIn_app (goodIn_of _ (by decide +kernel)) ggX12_feet_X12_isKind
set_option maxRecDepth 20000 in
theorem ggX12_feet_X12_isPair : GoodIn wsX12_feet wsX12_isPair := goodIn_r _ [13, 14, 15, 16, 4, 17, 18, 19, 7, 8, 9, 84, 85, 86, 87, 88, 89, 90, 91, 92, 93, 94, 95, 96, 97, 98, 99, 100, 101, 102, 103, 104, 105, 106, 107, 108, 109, 110, 111, 112, 113, 114, 115, 116, 117, 118, 119] (by decide +kernel) (by decide +kernel)
set_option maxRecDepth 20000 in
theorem gX12_feet_X12_isPair : GoodIn wsX12_feet (wsV RX12 263 RX12 yX12_isPair wsX12_isPair) := goodIn_app (goodIn_of _ (by decide +kernel)) ggX12_feet_X12_isPair
set_option maxRecDepth 20000 in
theorem ggX12_feet_X12_in : GoodIn wsX12_feet wsX12_in := goodIn_r _ [9] (by decide +kernel) (by decide +kernel)
set_option maxRecDepth 20000 in
theorem gX12_feet_X12_in : GoodIn wsX12_feet (va_wsS RX12 68 yX12_in wsX12_in) := goodIn_app (goodIn_of _ (by decide +kernel)) ggX12_feet_X12_in
set_option maxRecDepth 20000 in
theorem ggX12_feet_X12_bitOf : GoodIn wsX12_feet wsX12_bitOf := goodIn_r _ [23, 24, 25, 26, 4, 27, 18, 84, 85, 86, 87, 88, 89, 90, 91, 92, 93, 94, 95, 96, 97, 98, 99, 100, 101, 102, 103, 104, 105, 106, 107, 108, 109, 110, 111, 112, 113, 114, 115, 116, 117, 118, 119] (by decide +kernel) (by decide +kernel)
set_option maxRecDepth 20000 in
theorem gX12_feet_X12_bitOf : GoodIn wsX12_feet (wsV RX12 266 RX12 yX12_bitOf wsX12_bitOf) := goodIn_app (goodIn_of _ (by decide +kernel)) ggX12_feet_X12_bitOf
set_option maxRecDepth 20000 in
theorem ggX12_feet_X12_endOf : GoodIn wsX12_feet wsX12_endOf := goodIn_r _ [31, 32, 33, 34, 35, 4, 36, 37, 38, 39, 40, 41, 42, 43, 44, 45, 46, 47, 48, 49, 50, 51, 52, 53, 54, 55, 56, 57, 58, 59, 60, 18, 19, 61, 62, 63, 64, 65, 66, 67, 68, 69, 70, 71, 72, 73, 74, 75, 76, 77, 78, 79, 80, 84, 85, 86, 87, 88, 89, 90, 91, 92, 93, 94, 95, 96, 97, 98, 99, 100, 101, 102, 103, 104, 105, 106, 107, 108, 109, 110, 111, 112, 113, 114, 115, 116, 117, 118, 119] (by decide +kernel) (by decide +kernel)
set_option maxRecDepth 20000 in
theorem gX12_feet_X12_endOf : GoodIn wsX12_feet (wsV RX12 249 RX12 yX12_endOf wsX12_endOf) := goodIn_app (goodIn_of _ (by decide +kernel)) ggX12_feet_X12_endOf
set_option maxRecDepth 20000 in
theorem ggX12_feet_X12_isEdge : GoodIn wsX12_feet wsX12_isEdge := goodIn_r _ [60, 18, 19, 84, 85, 86, 87, 88, 89, 90, 91, 92, 93, 94, 95, 96, 97, 98, 99, 100, 101, 102, 103, 104, 105, 106, 107, 108, 109, 110, 111, 112, 113, 114, 115, 116, 117, 118, 119] (by decide +kernel) (by decide +kernel)
set_option maxRecDepth 20000 in
theorem gX12_feet_X12_isEdge : GoodIn wsX12_feet (wsV RX12 171 RX12 yX12_isEdge wsX12_isEdge) := goodIn_app (goodIn_of _ (by decide +kernel)) ggX12_feet_X12_isEdge
set_option maxRecDepth 20000 in
theorem ggX12_feet_X12_beside : GoodIn wsX12_feet wsX12_beside := goodIn_r _ [80, 18, 84, 85, 86, 87, 88, 89, 90, 91, 92, 93, 94, 95, 96, 97, 98, 99, 100, 101, 102, 103, 104, 105, 106, 107, 108, 109, 110, 111, 112, 113, 114, 115, 116, 117, 118, 119] (by decide +kernel) (by decide +kernel)
set_option maxRecDepth 20000 in
theorem gX12_feet_X12_beside : GoodIn wsX12_feet (wsV RX12 187 RX12 yX12_beside wsX12_beside) := goodIn_app (goodIn_of _ (by decide +kernel)) ggX12_feet_X12_beside
set_option maxRecDepth 20000 in
theorem ggX12_feet_X12_divisor : GoodIn wsX12_feet wsX12_divisor := goodIn_r _ [83] (by decide +kernel) (by decide +kernel)
set_option maxRecDepth 20000 in
theorem gX12_feet_X12_divisor : GoodIn wsX12_feet (va_wsS RX12 279 yX12_divisor wsX12_divisor) := goodIn_app (goodIn_of _ (by decide +kernel)) ggX12_feet_X12_divisor
theorem dX12_feet_0 : decode cX12_feet 0 = .ok (.aload_n 0, 1) := by decide +kernel
theorem dX12_feet_1 : decode cX12_feet 1 = .ok (.iload_n 1, 1) := by decide +kernel
theorem dX12_feet_2 : decode cX12_feet 2 = .ok (.invokevirtual 220, 3) := by decide +kernel
theorem dX12_feet_5 : decode cX12_feet 5 = .ok (.ifCond .eq 30, 3) := by decide +kernel
theorem dX12_feet_8 : decode cX12_feet 8 = .ok (.aload_n 0, 1) := by decide +kernel
theorem dX12_feet_9 : decode cX12_feet 9 = .ok (.iload_n 2, 1) := by decide +kernel
theorem dX12_feet_10 : decode cX12_feet 10 = .ok (.invokevirtual 263, 3) := by decide +kernel
theorem dX12_feet_13 : decode cX12_feet 13 = .ok (.ifCond .eq 22, 3) := by decide +kernel
theorem dX12_feet_16 : decode cX12_feet 16 = .ok (.aload_n 0, 1) := by decide +kernel
theorem dX12_feet_17 : decode cX12_feet 17 = .ok (.iload_n 3, 1) := by decide +kernel
theorem dX12_feet_18 : decode cX12_feet 18 = .ok (.invokevirtual 263, 3) := by decide +kernel
theorem dX12_feet_21 : decode cX12_feet 21 = .ok (.ifCond .eq 14, 3) := by decide +kernel
theorem dX12_feet_24 : decode cX12_feet 24 = .ok (.iload 4, 2) := by decide +kernel
theorem dX12_feet_26 : decode cX12_feet 26 = .ok (.i2l, 1) := by decide +kernel
theorem dX12_feet_27 : decode cX12_feet 27 = .ok (.lconst 0, 1) := by decide +kernel
theorem dX12_feet_28 : decode cX12_feet 28 = .ok (.lconst 1, 1) := by decide +kernel
theorem dX12_feet_29 : decode cX12_feet 29 = .ok (.invokestatic 68, 3) := by decide +kernel
theorem dX12_feet_32 : decode cX12_feet 32 = .ok (.ifCond .ne 5, 3) := by decide +kernel
theorem dX12_feet_35 : decode cX12_feet 35 = .ok (.iconst (-1), 1) := by decide +kernel
theorem dX12_feet_36 : decode cX12_feet 36 = .ok (.ireturn, 1) := by decide +kernel
theorem dX12_feet_37 : decode cX12_feet 37 = .ok (.aload_n 0, 1) := by decide +kernel
theorem dX12_feet_38 : decode cX12_feet 38 = .ok (.iload_n 2, 1) := by decide +kernel
theorem dX12_feet_39 : decode cX12_feet 39 = .ok (.invokevirtual 266, 3) := by decide +kernel
theorem dX12_feet_42 : decode cX12_feet 42 = .ok (.istore 5, 2) := by decide +kernel
theorem dX12_feet_44 : decode cX12_feet 44 = .ok (.aload_n 0, 1) := by decide +kernel
theorem dX12_feet_45 : decode cX12_feet 45 = .ok (.iload_n 3, 1) := by decide +kernel
theorem dX12_feet_46 : decode cX12_feet 46 = .ok (.invokevirtual 266, 3) := by decide +kernel
theorem dX12_feet_49 : decode cX12_feet 49 = .ok (.istore 6, 2) := by decide +kernel
theorem dX12_feet_51 : decode cX12_feet 51 = .ok (.iconst 1, 1) := by decide +kernel
theorem dX12_feet_52 : decode cX12_feet 52 = .ok (.istore 7, 2) := by decide +kernel
theorem dX12_feet_54 : decode cX12_feet 54 = .ok (.aload_n 0, 1) := by decide +kernel
theorem dX12_feet_55 : decode cX12_feet 55 = .ok (.iload_n 1, 1) := by decide +kernel
theorem dX12_feet_56 : decode cX12_feet 56 = .ok (.iload 5, 2) := by decide +kernel
theorem dX12_feet_58 : decode cX12_feet 58 = .ok (.invokevirtual 249, 3) := by decide +kernel
theorem dX12_feet_61 : decode cX12_feet 61 = .ok (.iload 6, 2) := by decide +kernel
theorem dX12_feet_63 : decode cX12_feet 63 = .ok (.if_icmp .ne 7, 3) := by decide +kernel
theorem dX12_feet_66 : decode cX12_feet 66 = .ok (.iconst 1, 1) := by decide +kernel
theorem dX12_feet_67 : decode cX12_feet 67 = .ok (.goto 4, 3) := by decide +kernel
theorem dX12_feet_70 : decode cX12_feet 70 = .ok (.iconst 0, 1) := by decide +kernel
theorem dX12_feet_71 : decode cX12_feet 71 = .ok (.istore 8, 2) := by decide +kernel
theorem dX12_feet_73 : decode cX12_feet 73 = .ok (.iconst 0, 1) := by decide +kernel
theorem dX12_feet_74 : decode cX12_feet 74 = .ok (.istore 9, 2) := by decide +kernel
theorem dX12_feet_76 : decode cX12_feet 76 = .ok (.iload 9, 2) := by decide +kernel
theorem dX12_feet_78 : decode cX12_feet 78 = .ok (.iconst 4, 1) := by decide +kernel
theorem dX12_feet_79 : decode cX12_feet 79 = .ok (.if_icmp .ge 51, 3) := by decide +kernel
theorem dX12_feet_82 : decode cX12_feet 82 = .ok (.aload_n 0, 1) := by decide +kernel
theorem dX12_feet_83 : decode cX12_feet 83 = .ok (.iload 5, 2) := by decide +kernel
theorem dX12_feet_85 : decode cX12_feet 85 = .ok (.iload 9, 2) := by decide +kernel
theorem dX12_feet_87 : decode cX12_feet 87 = .ok (.invokevirtual 171, 3) := by decide +kernel
theorem dX12_feet_90 : decode cX12_feet 90 = .ok (.ifCond .ne 34, 3) := by decide +kernel
theorem dX12_feet_93 : decode cX12_feet 93 = .ok (.iinc 7 1, 3) := by decide +kernel
theorem dX12_feet_96 : decode cX12_feet 96 = .ok (.iload 8, 2) := by decide +kernel
theorem dX12_feet_98 : decode cX12_feet 98 = .ok (.aload_n 0, 1) := by decide +kernel
theorem dX12_feet_99 : decode cX12_feet 99 = .ok (.iload_n 1, 1) := by decide +kernel
theorem dX12_feet_100 : decode cX12_feet 100 = .ok (.aload_n 0, 1) := by decide +kernel
theorem dX12_feet_101 : decode cX12_feet 101 = .ok (.iload 5, 2) := by decide +kernel
theorem dX12_feet_103 : decode cX12_feet 103 = .ok (.iload 9, 2) := by decide +kernel
theorem dX12_feet_105 : decode cX12_feet 105 = .ok (.invokevirtual 187, 3) := by decide +kernel
theorem dX12_feet_108 : decode cX12_feet 108 = .ok (.invokevirtual 249, 3) := by decide +kernel
theorem dX12_feet_111 : decode cX12_feet 111 = .ok (.iload 6, 2) := by decide +kernel
theorem dX12_feet_113 : decode cX12_feet 113 = .ok (.if_icmp .ne 7, 3) := by decide +kernel
theorem dX12_feet_116 : decode cX12_feet 116 = .ok (.iconst 1, 1) := by decide +kernel
theorem dX12_feet_117 : decode cX12_feet 117 = .ok (.goto 4, 3) := by decide +kernel
theorem dX12_feet_120 : decode cX12_feet 120 = .ok (.iconst 0, 1) := by decide +kernel
theorem dX12_feet_121 : decode cX12_feet 121 = .ok (.iadd, 1) := by decide +kernel
theorem dX12_feet_122 : decode cX12_feet 122 = .ok (.istore 8, 2) := by decide +kernel
theorem dX12_feet_124 : decode cX12_feet 124 = .ok (.iinc 9 1, 3) := by decide +kernel
theorem dX12_feet_127 : decode cX12_feet 127 = .ok (.goto (-51), 3) := by decide +kernel
theorem dX12_feet_130 : decode cX12_feet 130 = .ok (.iload 8, 2) := by decide +kernel
theorem dX12_feet_132 : decode cX12_feet 132 = .ok (.iload 7, 2) := by decide +kernel
theorem dX12_feet_134 : decode cX12_feet 134 = .ok (.invokestatic 279, 3) := by decide +kernel
theorem dX12_feet_137 : decode cX12_feet 137 = .ok (.istore 9, 2) := by decide +kernel
theorem dX12_feet_139 : decode cX12_feet 139 = .ok (.iload 4, 2) := by decide +kernel
theorem dX12_feet_141 : decode cX12_feet 141 = .ok (.ifCond .ne 11, 3) := by decide +kernel
theorem dX12_feet_144 : decode cX12_feet 144 = .ok (.iload 8, 2) := by decide +kernel
theorem dX12_feet_146 : decode cX12_feet 146 = .ok (.iload 9, 2) := by decide +kernel
theorem dX12_feet_148 : decode cX12_feet 148 = .ok (.idiv, 1) := by decide +kernel
theorem dX12_feet_149 : decode cX12_feet 149 = .ok (.goto 8, 3) := by decide +kernel
theorem dX12_feet_152 : decode cX12_feet 152 = .ok (.iload 7, 2) := by decide +kernel
theorem dX12_feet_154 : decode cX12_feet 154 = .ok (.iload 9, 2) := by decide +kernel
theorem dX12_feet_156 : decode cX12_feet 156 = .ok (.idiv, 1) := by decide +kernel
theorem dX12_feet_157 : decode cX12_feet 157 = .ok (.ireturn, 1) := by decide +kernel
set_option maxRecDepth 20000 in
theorem ggX12_apartOf_X12_cells : GoodIn wsX12_apartOf wsX12_cells := goodIn_r _ [6, 7, 8, 57, 58, 59, 60, 61, 62, 63, 64, 65, 66, 67, 68, 69, 70, 71, 72, 73, 74, 75, 76, 77, 78, 79, 80, 81, 82, 83, 84, 85, 86, 87, 88, 89, 90, 91, 92] (by decide +kernel) (by decide +kernel)
set_option maxRecDepth 20000 in
theorem gX12_apartOf_X12_cells : GoodIn wsX12_apartOf (wsV RX12 223 RX12 yX12_cells wsX12_cells) := goodIn_app (goodIn_of _ (by decide +kernel)) ggX12_apartOf_X12_cells
set_option maxRecDepth 20000 in
theorem ggX12_apartOf_X12_rollKind : GoodIn wsX12_apartOf wsX12_rollKind := goodIn_r _ [12, 13, 14, 15, 16, 17, 5, 18, 19, 20, 21, 1, 22, 23, 24, 25, 26, 27, 28, 29, 30, 31, 32, 33, 34, 35, 36, 7, 8, 37, 38, 39, 40, 41, 42, 43, 44, 45, 46, 47, 48, 49, 50, 51, 52, 53, 54, 55, 56, 57, 58, 59, 60, 61, 62, 63, 64, 65, 66, 67, 68, 69, 70, 71, 72, 73, 74, 75, 76, 77, 78, 79, 80, 81, 82, 83, 84, 85, 86, 87, 88, 89, 90, 91, 92] (by decide +kernel) (by decide +kernel)
set_option maxRecDepth 20000 in
theorem gX12_apartOf_X12_rollKind : GoodIn wsX12_apartOf (wsV RX12 210 RX12 yX12_rollKind wsX12_rollKind) := goodIn_app (goodIn_of _ (by decide +kernel)) ggX12_apartOf_X12_rollKind
theorem dX12_apartOf_0 : decode cX12_apartOf 0 = .ok (.iconst 0, 1) := by decide +kernel
theorem dX12_apartOf_1 : decode cX12_apartOf 1 = .ok (.istore_n 3, 1) := by decide +kernel
theorem dX12_apartOf_2 : decode cX12_apartOf 2 = .ok (.iconst 0, 1) := by decide +kernel
theorem dX12_apartOf_3 : decode cX12_apartOf 3 = .ok (.istore 4, 2) := by decide +kernel
theorem dX12_apartOf_5 : decode cX12_apartOf 5 = .ok (.iload 4, 2) := by decide +kernel
theorem dX12_apartOf_7 : decode cX12_apartOf 7 = .ok (.aload_n 0, 1) := by decide +kernel
theorem dX12_apartOf_8 : decode cX12_apartOf 8 = .ok (.invokevirtual 223, 3) := by decide +kernel
theorem dX12_apartOf_11 : decode cX12_apartOf 11 = .ok (.if_icmp .ge 49, 3) := by decide +kernel
theorem dX12_apartOf_14 : decode cX12_apartOf 14 = .ok (.aload_n 0, 1) := by decide +kernel
theorem dX12_apartOf_15 : decode cX12_apartOf 15 = .ok (.iload_n 1, 1) := by decide +kernel
theorem dX12_apartOf_16 : decode cX12_apartOf 16 = .ok (.iload 4, 2) := by decide +kernel
theorem dX12_apartOf_18 : decode cX12_apartOf 18 = .ok (.invokevirtual 210, 3) := by decide +kernel
theorem dX12_apartOf_21 : decode cX12_apartOf 21 = .ok (.aload_n 0, 1) := by decide +kernel
theorem dX12_apartOf_22 : decode cX12_apartOf 22 = .ok (.getfield 200, 3) := by decide +kernel
theorem dX12_apartOf_25 : decode cX12_apartOf 25 = .ok (.istore 5, 2) := by decide +kernel
theorem dX12_apartOf_27 : decode cX12_apartOf 27 = .ok (.aload_n 0, 1) := by decide +kernel
theorem dX12_apartOf_28 : decode cX12_apartOf 28 = .ok (.iload_n 2, 1) := by decide +kernel
theorem dX12_apartOf_29 : decode cX12_apartOf 29 = .ok (.iload 4, 2) := by decide +kernel
theorem dX12_apartOf_31 : decode cX12_apartOf 31 = .ok (.invokevirtual 210, 3) := by decide +kernel
theorem dX12_apartOf_34 : decode cX12_apartOf 34 = .ok (.iload_n 3, 1) := by decide +kernel
theorem dX12_apartOf_35 : decode cX12_apartOf 35 = .ok (.iload 5, 2) := by decide +kernel
theorem dX12_apartOf_37 : decode cX12_apartOf 37 = .ok (.aload_n 0, 1) := by decide +kernel
theorem dX12_apartOf_38 : decode cX12_apartOf 38 = .ok (.getfield 200, 3) := by decide +kernel
theorem dX12_apartOf_41 : decode cX12_apartOf 41 = .ok (.if_icmp .eq 10, 3) := by decide +kernel
theorem dX12_apartOf_44 : decode cX12_apartOf 44 = .ok (.iconst 1, 1) := by decide +kernel
theorem dX12_apartOf_45 : decode cX12_apartOf 45 = .ok (.iload 4, 2) := by decide +kernel
theorem dX12_apartOf_47 : decode cX12_apartOf 47 = .ok (.ishl, 1) := by decide +kernel
theorem dX12_apartOf_48 : decode cX12_apartOf 48 = .ok (.goto 4, 3) := by decide +kernel
theorem dX12_apartOf_51 : decode cX12_apartOf 51 = .ok (.iconst 0, 1) := by decide +kernel
theorem dX12_apartOf_52 : decode cX12_apartOf 52 = .ok (.ior, 1) := by decide +kernel
theorem dX12_apartOf_53 : decode cX12_apartOf 53 = .ok (.istore_n 3, 1) := by decide +kernel
theorem dX12_apartOf_54 : decode cX12_apartOf 54 = .ok (.iinc 4 1, 3) := by decide +kernel
theorem dX12_apartOf_57 : decode cX12_apartOf 57 = .ok (.goto (-52), 3) := by decide +kernel
theorem dX12_apartOf_60 : decode cX12_apartOf 60 = .ok (.iload_n 3, 1) := by decide +kernel
theorem dX12_apartOf_61 : decode cX12_apartOf 61 = .ok (.ireturn, 1) := by decide +kernel
set_option maxRecDepth 20000 in
theorem ggX12_apart_X12_isKind : GoodIn wsX12_apart wsX12_isKind := goodIn_r _ [5, 6, 7, 8, 4, 9, 69, 70, 71, 72, 73, 74, 75, 76, 77, 78, 79, 80, 81, 82, 83, 84, 85, 86, 87, 88, 89, 90, 91, 92, 93, 94, 95, 96, 97, 98, 99, 100, 101, 102, 103, 104] (by decide +kernel) (by decide +kernel)
set_option maxRecDepth 20000 in
theorem gX12_apart_X12_isKind : GoodIn wsX12_apart (wsV RX12 220 RX12 yX12_isKind wsX12_isKind) := goodIn_app (goodIn_of _ (by decide +kernel)) ggX12_apart_X12_isKind
set_option maxRecDepth 20000 in
theorem ggX12_apart_X12_apartOf : GoodIn wsX12_apart wsX12_apartOf := goodIn_r _ [13, 14, 15, 16, 17, 4, 18, 19, 20, 21, 22, 23, 24, 25, 26, 27, 28, 29, 30, 31, 32, 33, 34, 35, 36, 37, 38, 39, 40, 41, 42, 43, 44, 45, 46, 47, 48, 49, 50, 51, 52, 53, 54, 55, 56, 57, 58, 59, 60, 61, 62, 63, 64, 65, 66, 67, 68, 69, 70, 71, 72, 73, 74, 75, 76, 77, 78, 79, 80, 81, 82, 83, 84, 85, 86, 87, 88, 89, 90, 91, 92, 93, 94, 95, 96, 97, 98, 99, 100, 101, 102, 103, 104] (by decide +kernel) (by decide +kernel)
set_option maxRecDepth 20000 in
theorem gX12_apart_X12_apartOf : GoodIn wsX12_apart (wsV RX12 282 RX12 yX12_apartOf wsX12_apartOf) := goodIn_app (goodIn_of _ (by decide +kernel)) ggX12_apart_X12_apartOf
theorem dX12_apart_0 : decode cX12_apart 0 = .ok (.aload_n 0, 1) := by decide +kernel
theorem dX12_apart_1 : decode cX12_apart 1 = .ok (.iload_n 1, 1) := by decide +kernel
theorem dX12_apart_2 : decode cX12_apart 2 = .ok (.invokevirtual 220, 3) := by decide +kernel
theorem dX12_apart_5 : decode cX12_apart 5 = .ok (.ifCond .eq 25, 3) := by decide +kernel
theorem dX12_apart_8 : decode cX12_apart 8 = .ok (.aload_n 0, 1) := by decide +kernel
theorem dX12_apart_9 : decode cX12_apart 9 = .ok (.iload_n 2, 1) := by decide +kernel
theorem dX12_apart_10 : decode cX12_apart 10 = .ok (.invokevirtual 220, 3) := by decide +kernel
theorem dX12_apart_13 : decode cX12_apart 13 = .ok (.ifCond .eq 17, 3) := by decide +kernel
theorem dX12_apart_16 : decode cX12_apart 16 = .ok (.iload_n 1, 1) := by decide +kernel
theorem dX12_apart_17 : decode cX12_apart 17 = .ok (.iload_n 2, 1) := by decide +kernel
theorem dX12_apart_18 : decode cX12_apart 18 = .ok (.if_icmp .eq 12, 3) := by decide +kernel
theorem dX12_apart_21 : decode cX12_apart 21 = .ok (.aload_n 0, 1) := by decide +kernel
theorem dX12_apart_22 : decode cX12_apart 22 = .ok (.iload_n 1, 1) := by decide +kernel
theorem dX12_apart_23 : decode cX12_apart 23 = .ok (.iload_n 2, 1) := by decide +kernel
theorem dX12_apart_24 : decode cX12_apart 24 = .ok (.invokevirtual 282, 3) := by decide +kernel
theorem dX12_apart_27 : decode cX12_apart 27 = .ok (.goto 4, 3) := by decide +kernel
theorem dX12_apart_30 : decode cX12_apart 30 = .ok (.iconst (-1), 1) := by decide +kernel
theorem dX12_apart_31 : decode cX12_apart 31 = .ok (.ireturn, 1) := by decide +kernel
theorem dX12_tellsAll_0 : decode cX12_tellsAll 0 = .ok (.iconst 1, 1) := by decide +kernel
theorem dX12_tellsAll_1 : decode cX12_tellsAll 1 = .ok (.istore_n 3, 1) := by decide +kernel
theorem dX12_tellsAll_2 : decode cX12_tellsAll 2 = .ok (.iconst 0, 1) := by decide +kernel
theorem dX12_tellsAll_3 : decode cX12_tellsAll 3 = .ok (.istore 4, 2) := by decide +kernel
theorem dX12_tellsAll_5 : decode cX12_tellsAll 5 = .ok (.iload 4, 2) := by decide +kernel
theorem dX12_tellsAll_7 : decode cX12_tellsAll 7 = .ok (.iload_n 2, 1) := by decide +kernel
theorem dX12_tellsAll_8 : decode cX12_tellsAll 8 = .ok (.if_icmp .ge 31, 3) := by decide +kernel
theorem dX12_tellsAll_11 : decode cX12_tellsAll 11 = .ok (.iload_n 3, 1) := by decide +kernel
theorem dX12_tellsAll_12 : decode cX12_tellsAll 12 = .ok (.ifCond .eq 19, 3) := by decide +kernel
theorem dX12_tellsAll_15 : decode cX12_tellsAll 15 = .ok (.aload_n 0, 1) := by decide +kernel
theorem dX12_tellsAll_16 : decode cX12_tellsAll 16 = .ok (.getfield 63, 3) := by decide +kernel
theorem dX12_tellsAll_19 : decode cX12_tellsAll 19 = .ok (.iload 4, 2) := by decide +kernel
theorem dX12_tellsAll_21 : decode cX12_tellsAll 21 = .ok (.iaload, 1) := by decide +kernel
theorem dX12_tellsAll_22 : decode cX12_tellsAll 22 = .ok (.iload_n 1, 1) := by decide +kernel
theorem dX12_tellsAll_23 : decode cX12_tellsAll 23 = .ok (.iand, 1) := by decide +kernel
theorem dX12_tellsAll_24 : decode cX12_tellsAll 24 = .ok (.ifCond .eq 7, 3) := by decide +kernel
theorem dX12_tellsAll_27 : decode cX12_tellsAll 27 = .ok (.iconst 1, 1) := by decide +kernel
theorem dX12_tellsAll_28 : decode cX12_tellsAll 28 = .ok (.goto 4, 3) := by decide +kernel
theorem dX12_tellsAll_31 : decode cX12_tellsAll 31 = .ok (.iconst 0, 1) := by decide +kernel
theorem dX12_tellsAll_32 : decode cX12_tellsAll 32 = .ok (.istore_n 3, 1) := by decide +kernel
theorem dX12_tellsAll_33 : decode cX12_tellsAll 33 = .ok (.iinc 4 1, 3) := by decide +kernel
theorem dX12_tellsAll_36 : decode cX12_tellsAll 36 = .ok (.goto (-31), 3) := by decide +kernel
theorem dX12_tellsAll_39 : decode cX12_tellsAll 39 = .ok (.iload_n 3, 1) := by decide +kernel
theorem dX12_tellsAll_40 : decode cX12_tellsAll 40 = .ok (.ireturn, 1) := by decide +kernel
set_option maxRecDepth 20000 in
theorem ggX12_rolls_X12_apartOf : GoodIn wsX12_rolls wsX12_apartOf := goodIn_r _ [7, 8, 9, 10, 11, 6, 12, 13, 14, 15, 16, 17, 18, 19, 20, 21, 22, 23, 24, 25, 26, 27, 28, 29, 30, 31, 32, 33, 34, 35, 36, 37, 38, 39, 40, 41, 42, 43, 44, 45, 46, 47, 48, 49, 50, 51, 52, 53, 54, 55, 56, 57, 58, 59, 60, 61, 62, 71, 72, 73, 74, 75, 76, 77, 78, 79, 80, 81, 82, 83, 84, 85, 86, 87, 88, 89, 90, 91, 92, 93, 94, 95, 96, 97, 98, 99, 100, 101, 102, 103, 104, 105, 106] (by decide +kernel) (by decide +kernel)
set_option maxRecDepth 20000 in
theorem gX12_rolls_X12_apartOf : GoodIn wsX12_rolls (wsV RX12 282 RX12 yX12_apartOf wsX12_apartOf) := goodIn_app (goodIn_of _ (by decide +kernel)) ggX12_rolls_X12_apartOf
set_option maxRecDepth 20000 in
theorem ggX12_rolls_X12_rollsOf : GoodIn wsX12_rolls wsX12_rollsOf := goodIn_r _ [66, 9, 10, 11, 6, 12, 13, 14, 67, 68, 69, 70, 2, 71, 72, 73, 74, 75, 76, 77, 78, 79, 80, 81, 82, 83, 84, 85, 86, 87, 88, 89, 90, 91, 92, 93, 94, 95, 96, 97, 98, 99, 100, 101, 102, 103, 104, 105, 106] (by decide +kernel) (by decide +kernel)
set_option maxRecDepth 20000 in
theorem gX12_rolls_X12_rollsOf : GoodIn wsX12_rolls (wsV RX12 285 RX12 yX12_rollsOf wsX12_rollsOf) := goodIn_app (goodIn_of _ (by decide +kernel)) ggX12_rolls_X12_rollsOf
theorem dX12_rolls_0 : decode cX12_rolls 0 = .ok (.iconst 0, 1) := by decide +kernel
theorem dX12_rolls_1 : decode cX12_rolls 1 = .ok (.istore_n 1, 1) := by decide +kernel
theorem dX12_rolls_2 : decode cX12_rolls 2 = .ok (.iconst 0, 1) := by decide +kernel
theorem dX12_rolls_3 : decode cX12_rolls 3 = .ok (.istore_n 2, 1) := by decide +kernel
theorem dX12_rolls_4 : decode cX12_rolls 4 = .ok (.iload_n 2, 1) := by decide +kernel
theorem dX12_rolls_5 : decode cX12_rolls 5 = .ok (.aload_n 0, 1) := by decide +kernel
theorem dX12_rolls_6 : decode cX12_rolls 6 = .ok (.getfield 149, 3) := by decide +kernel
theorem dX12_rolls_9 : decode cX12_rolls 9 = .ok (.if_icmp .ge 37, 3) := by decide +kernel
theorem dX12_rolls_12 : decode cX12_rolls 12 = .ok (.iconst 0, 1) := by decide +kernel
theorem dX12_rolls_13 : decode cX12_rolls 13 = .ok (.istore_n 3, 1) := by decide +kernel
theorem dX12_rolls_14 : decode cX12_rolls 14 = .ok (.iload_n 3, 1) := by decide +kernel
theorem dX12_rolls_15 : decode cX12_rolls 15 = .ok (.iload_n 2, 1) := by decide +kernel
theorem dX12_rolls_16 : decode cX12_rolls 16 = .ok (.if_icmp .ge 24, 3) := by decide +kernel
theorem dX12_rolls_19 : decode cX12_rolls 19 = .ok (.aload_n 0, 1) := by decide +kernel
theorem dX12_rolls_20 : decode cX12_rolls 20 = .ok (.getfield 63, 3) := by decide +kernel
theorem dX12_rolls_23 : decode cX12_rolls 23 = .ok (.iload_n 1, 1) := by decide +kernel
theorem dX12_rolls_24 : decode cX12_rolls 24 = .ok (.aload_n 0, 1) := by decide +kernel
theorem dX12_rolls_25 : decode cX12_rolls 25 = .ok (.iload_n 2, 1) := by decide +kernel
theorem dX12_rolls_26 : decode cX12_rolls 26 = .ok (.iload_n 3, 1) := by decide +kernel
theorem dX12_rolls_27 : decode cX12_rolls 27 = .ok (.invokevirtual 282, 3) := by decide +kernel
theorem dX12_rolls_30 : decode cX12_rolls 30 = .ok (.iastore, 1) := by decide +kernel
theorem dX12_rolls_31 : decode cX12_rolls 31 = .ok (.iinc 1 1, 3) := by decide +kernel
theorem dX12_rolls_34 : decode cX12_rolls 34 = .ok (.iinc 3 1, 3) := by decide +kernel
theorem dX12_rolls_37 : decode cX12_rolls 37 = .ok (.goto (-23), 3) := by decide +kernel
theorem dX12_rolls_40 : decode cX12_rolls 40 = .ok (.iinc 2 1, 3) := by decide +kernel
theorem dX12_rolls_43 : decode cX12_rolls 43 = .ok (.goto (-39), 3) := by decide +kernel
theorem dX12_rolls_46 : decode cX12_rolls 46 = .ok (.iload_n 1, 1) := by decide +kernel
theorem dX12_rolls_47 : decode cX12_rolls 47 = .ok (.ifCond .ne 5, 3) := by decide +kernel
theorem dX12_rolls_50 : decode cX12_rolls 50 = .ok (.iconst 0, 1) := by decide +kernel
theorem dX12_rolls_51 : decode cX12_rolls 51 = .ok (.ireturn, 1) := by decide +kernel
theorem dX12_rolls_52 : decode cX12_rolls 52 = .ok (.iconst 1, 1) := by decide +kernel
theorem dX12_rolls_53 : decode cX12_rolls 53 = .ok (.istore_n 2, 1) := by decide +kernel
theorem dX12_rolls_54 : decode cX12_rolls 54 = .ok (.iload_n 2, 1) := by decide +kernel
theorem dX12_rolls_55 : decode cX12_rolls 55 = .ok (.iconst 4, 1) := by decide +kernel
theorem dX12_rolls_56 : decode cX12_rolls 56 = .ok (.if_icmp .ge 24, 3) := by decide +kernel
theorem dX12_rolls_59 : decode cX12_rolls 59 = .ok (.aload_n 0, 1) := by decide +kernel
theorem dX12_rolls_60 : decode cX12_rolls 60 = .ok (.iload_n 2, 1) := by decide +kernel
theorem dX12_rolls_61 : decode cX12_rolls 61 = .ok (.iload_n 1, 1) := by decide +kernel
theorem dX12_rolls_62 : decode cX12_rolls 62 = .ok (.invokevirtual 285, 3) := by decide +kernel
theorem dX12_rolls_65 : decode cX12_rolls 65 = .ok (.istore_n 3, 1) := by decide +kernel
theorem dX12_rolls_66 : decode cX12_rolls 66 = .ok (.iload_n 3, 1) := by decide +kernel
theorem dX12_rolls_67 : decode cX12_rolls 67 = .ok (.bipush (-9), 2) := by decide +kernel
theorem dX12_rolls_69 : decode cX12_rolls 69 = .ok (.if_icmp .eq 5, 3) := by decide +kernel
theorem dX12_rolls_72 : decode cX12_rolls 72 = .ok (.iload_n 3, 1) := by decide +kernel
theorem dX12_rolls_73 : decode cX12_rolls 73 = .ok (.ireturn, 1) := by decide +kernel
theorem dX12_rolls_74 : decode cX12_rolls 74 = .ok (.iinc 2 1, 3) := by decide +kernel
theorem dX12_rolls_77 : decode cX12_rolls 77 = .ok (.goto (-23), 3) := by decide +kernel
theorem dX12_rolls_80 : decode cX12_rolls 80 = .ok (.bipush (-9), 2) := by decide +kernel
theorem dX12_rolls_82 : decode cX12_rolls 82 = .ok (.ireturn, 1) := by decide +kernel
set_option maxRecDepth 20000 in
theorem ggX12_rollsOf_X12_cells : GoodIn wsX12_rollsOf wsX12_cells := goodIn_r _ [5, 6, 7, 13, 14, 15, 16, 17, 18, 19, 20, 21, 22, 23, 24, 25, 26, 27, 28, 29, 30, 31, 32, 33, 34, 35, 36, 37, 38, 39, 40, 41, 42, 43, 44, 45, 46, 47, 48] (by decide +kernel) (by decide +kernel)
set_option maxRecDepth 20000 in
theorem gX12_rollsOf_X12_cells : GoodIn wsX12_rollsOf (wsV RX12 223 RX12 yX12_cells wsX12_cells) := goodIn_app (goodIn_of _ (by decide +kernel)) ggX12_rollsOf_X12_cells
set_option maxRecDepth 20000 in
theorem ggX12_rollsOf_X12_tellsAll : GoodIn wsX12_rollsOf wsX12_tellsAll := goodIn_r _ [11, 12, 13, 14, 15, 16, 17, 18, 19, 20, 21, 22, 23, 24, 25, 26, 27, 28, 29, 30, 31, 32, 33, 34, 35, 36, 37, 38, 39, 40, 41, 42, 43, 44, 45, 46, 47, 48] (by decide +kernel) (by decide +kernel)
set_option maxRecDepth 20000 in
theorem gX12_rollsOf_X12_tellsAll : GoodIn wsX12_rollsOf (wsV RX12 288 RX12 yX12_tellsAll wsX12_tellsAll) := goodIn_app (goodIn_of _ (by decide +kernel)) ggX12_rollsOf_X12_tellsAll
theorem dX12_rollsOf_0 : decode cX12_rollsOf 0 = .ok (.bipush (-9), 2) := by decide +kernel
theorem dX12_rollsOf_2 : decode cX12_rollsOf 2 = .ok (.istore_n 3, 1) := by decide +kernel
theorem dX12_rollsOf_3 : decode cX12_rollsOf 3 = .ok (.iconst 0, 1) := by decide +kernel
theorem dX12_rollsOf_4 : decode cX12_rollsOf 4 = .ok (.istore 4, 2) := by decide +kernel
theorem dX12_rollsOf_6 : decode cX12_rollsOf 6 = .ok (.iload 4, 2) := by decide +kernel
theorem dX12_rollsOf_8 : decode cX12_rollsOf 8 = .ok (.aload_n 0, 1) := by decide +kernel
theorem dX12_rollsOf_9 : decode cX12_rollsOf 9 = .ok (.invokevirtual 223, 3) := by decide +kernel
theorem dX12_rollsOf_12 : decode cX12_rollsOf 12 = .ok (.if_icmp .ge 134, 3) := by decide +kernel
theorem dX12_rollsOf_15 : decode cX12_rollsOf 15 = .ok (.iload_n 1, 1) := by decide +kernel
theorem dX12_rollsOf_16 : decode cX12_rollsOf 16 = .ok (.iconst 1, 1) := by decide +kernel
theorem dX12_rollsOf_17 : decode cX12_rollsOf 17 = .ok (.if_icmp .le 7, 3) := by decide +kernel
theorem dX12_rollsOf_20 : decode cX12_rollsOf 20 = .ok (.iconst 0, 1) := by decide +kernel
theorem dX12_rollsOf_21 : decode cX12_rollsOf 21 = .ok (.goto 5, 3) := by decide +kernel
theorem dX12_rollsOf_24 : decode cX12_rollsOf 24 = .ok (.iload 4, 2) := by decide +kernel
theorem dX12_rollsOf_26 : decode cX12_rollsOf 26 = .ok (.istore 5, 2) := by decide +kernel
theorem dX12_rollsOf_28 : decode cX12_rollsOf 28 = .ok (.iload 5, 2) := by decide +kernel
theorem dX12_rollsOf_30 : decode cX12_rollsOf 30 = .ok (.iload_n 1, 1) := by decide +kernel
theorem dX12_rollsOf_31 : decode cX12_rollsOf 31 = .ok (.iconst 1, 1) := by decide +kernel
theorem dX12_rollsOf_32 : decode cX12_rollsOf 32 = .ok (.if_icmp .le 8, 3) := by decide +kernel
theorem dX12_rollsOf_35 : decode cX12_rollsOf 35 = .ok (.iload 4, 2) := by decide +kernel
theorem dX12_rollsOf_37 : decode cX12_rollsOf 37 = .ok (.goto 7, 3) := by decide +kernel
theorem dX12_rollsOf_40 : decode cX12_rollsOf 40 = .ok (.iload 4, 2) := by decide +kernel
theorem dX12_rollsOf_42 : decode cX12_rollsOf 42 = .ok (.iconst 1, 1) := by decide +kernel
theorem dX12_rollsOf_43 : decode cX12_rollsOf 43 = .ok (.iadd, 1) := by decide +kernel
theorem dX12_rollsOf_44 : decode cX12_rollsOf 44 = .ok (.if_icmp .ge 96, 3) := by decide +kernel
theorem dX12_rollsOf_47 : decode cX12_rollsOf 47 = .ok (.iload_n 1, 1) := by decide +kernel
theorem dX12_rollsOf_48 : decode cX12_rollsOf 48 = .ok (.iconst 2, 1) := by decide +kernel
theorem dX12_rollsOf_49 : decode cX12_rollsOf 49 = .ok (.if_icmp .le 7, 3) := by decide +kernel
theorem dX12_rollsOf_52 : decode cX12_rollsOf 52 = .ok (.iconst 0, 1) := by decide +kernel
theorem dX12_rollsOf_53 : decode cX12_rollsOf 53 = .ok (.goto 5, 3) := by decide +kernel
theorem dX12_rollsOf_56 : decode cX12_rollsOf 56 = .ok (.iload 5, 2) := by decide +kernel
theorem dX12_rollsOf_58 : decode cX12_rollsOf 58 = .ok (.istore 6, 2) := by decide +kernel
theorem dX12_rollsOf_60 : decode cX12_rollsOf 60 = .ok (.iload 6, 2) := by decide +kernel
theorem dX12_rollsOf_62 : decode cX12_rollsOf 62 = .ok (.iload_n 1, 1) := by decide +kernel
theorem dX12_rollsOf_63 : decode cX12_rollsOf 63 = .ok (.iconst 2, 1) := by decide +kernel
theorem dX12_rollsOf_64 : decode cX12_rollsOf 64 = .ok (.if_icmp .le 8, 3) := by decide +kernel
theorem dX12_rollsOf_67 : decode cX12_rollsOf 67 = .ok (.iload 5, 2) := by decide +kernel
theorem dX12_rollsOf_69 : decode cX12_rollsOf 69 = .ok (.goto 7, 3) := by decide +kernel
theorem dX12_rollsOf_72 : decode cX12_rollsOf 72 = .ok (.iload 5, 2) := by decide +kernel
theorem dX12_rollsOf_74 : decode cX12_rollsOf 74 = .ok (.iconst 1, 1) := by decide +kernel
theorem dX12_rollsOf_75 : decode cX12_rollsOf 75 = .ok (.iadd, 1) := by decide +kernel
theorem dX12_rollsOf_76 : decode cX12_rollsOf 76 = .ok (.if_icmp .ge 58, 3) := by decide +kernel
theorem dX12_rollsOf_79 : decode cX12_rollsOf 79 = .ok (.iconst 1, 1) := by decide +kernel
theorem dX12_rollsOf_80 : decode cX12_rollsOf 80 = .ok (.iload 4, 2) := by decide +kernel
theorem dX12_rollsOf_82 : decode cX12_rollsOf 82 = .ok (.ishl, 1) := by decide +kernel
theorem dX12_rollsOf_83 : decode cX12_rollsOf 83 = .ok (.iconst 1, 1) := by decide +kernel
theorem dX12_rollsOf_84 : decode cX12_rollsOf 84 = .ok (.iload 5, 2) := by decide +kernel
theorem dX12_rollsOf_86 : decode cX12_rollsOf 86 = .ok (.ishl, 1) := by decide +kernel
theorem dX12_rollsOf_87 : decode cX12_rollsOf 87 = .ok (.ior, 1) := by decide +kernel
theorem dX12_rollsOf_88 : decode cX12_rollsOf 88 = .ok (.iconst 1, 1) := by decide +kernel
theorem dX12_rollsOf_89 : decode cX12_rollsOf 89 = .ok (.iload 6, 2) := by decide +kernel
theorem dX12_rollsOf_91 : decode cX12_rollsOf 91 = .ok (.ishl, 1) := by decide +kernel
theorem dX12_rollsOf_92 : decode cX12_rollsOf 92 = .ok (.ior, 1) := by decide +kernel
theorem dX12_rollsOf_93 : decode cX12_rollsOf 93 = .ok (.istore 7, 2) := by decide +kernel
theorem dX12_rollsOf_95 : decode cX12_rollsOf 95 = .ok (.aload_n 0, 1) := by decide +kernel
theorem dX12_rollsOf_96 : decode cX12_rollsOf 96 = .ok (.iload 7, 2) := by decide +kernel
theorem dX12_rollsOf_98 : decode cX12_rollsOf 98 = .ok (.iload_n 2, 1) := by decide +kernel
theorem dX12_rollsOf_99 : decode cX12_rollsOf 99 = .ok (.invokevirtual 288, 3) := by decide +kernel
theorem dX12_rollsOf_102 : decode cX12_rollsOf 102 = .ok (.istore 8, 2) := by decide +kernel
theorem dX12_rollsOf_104 : decode cX12_rollsOf 104 = .ok (.iload 8, 2) := by decide +kernel
theorem dX12_rollsOf_106 : decode cX12_rollsOf 106 = .ok (.ifCond .eq 20, 3) := by decide +kernel
theorem dX12_rollsOf_109 : decode cX12_rollsOf 109 = .ok (.iload_n 3, 1) := by decide +kernel
theorem dX12_rollsOf_110 : decode cX12_rollsOf 110 = .ok (.bipush (-9), 2) := by decide +kernel
theorem dX12_rollsOf_112 : decode cX12_rollsOf 112 = .ok (.if_icmp .eq 9, 3) := by decide +kernel
theorem dX12_rollsOf_115 : decode cX12_rollsOf 115 = .ok (.iload 7, 2) := by decide +kernel
theorem dX12_rollsOf_117 : decode cX12_rollsOf 117 = .ok (.iload_n 3, 1) := by decide +kernel
theorem dX12_rollsOf_118 : decode cX12_rollsOf 118 = .ok (.if_icmp .ge 8, 3) := by decide +kernel
theorem dX12_rollsOf_121 : decode cX12_rollsOf 121 = .ok (.iload 7, 2) := by decide +kernel
theorem dX12_rollsOf_123 : decode cX12_rollsOf 123 = .ok (.goto 4, 3) := by decide +kernel
theorem dX12_rollsOf_126 : decode cX12_rollsOf 126 = .ok (.iload_n 3, 1) := by decide +kernel
theorem dX12_rollsOf_127 : decode cX12_rollsOf 127 = .ok (.istore_n 3, 1) := by decide +kernel
theorem dX12_rollsOf_128 : decode cX12_rollsOf 128 = .ok (.iinc 6 1, 3) := by decide +kernel
theorem dX12_rollsOf_131 : decode cX12_rollsOf 131 = .ok (.goto (-71), 3) := by decide +kernel
theorem dX12_rollsOf_134 : decode cX12_rollsOf 134 = .ok (.iinc 5 1, 3) := by decide +kernel
theorem dX12_rollsOf_137 : decode cX12_rollsOf 137 = .ok (.goto (-109), 3) := by decide +kernel
theorem dX12_rollsOf_140 : decode cX12_rollsOf 140 = .ok (.iinc 4 1, 3) := by decide +kernel
theorem dX12_rollsOf_143 : decode cX12_rollsOf 143 = .ok (.goto (-137), 3) := by decide +kernel
theorem dX12_rollsOf_146 : decode cX12_rollsOf 146 = .ok (.iload_n 3, 1) := by decide +kernel
theorem dX12_rollsOf_147 : decode cX12_rollsOf 147 = .ok (.ireturn, 1) := by decide +kernel
set_option maxRecDepth 20000 in
theorem ggX12_saw_X12_isKind : GoodIn wsX12_saw wsX12_isKind := goodIn_r _ [7, 8, 9, 10, 6, 11, 30, 31, 32, 33, 34, 35, 36, 37, 38, 39, 40, 41, 42, 43, 44, 45, 46, 47, 48, 49, 50, 51, 52, 53, 54, 55, 56, 57, 58, 59, 60, 61, 62, 63, 64, 65] (by decide +kernel) (by decide +kernel)
set_option maxRecDepth 20000 in
theorem gX12_saw_X12_isKind : GoodIn wsX12_saw (wsV RX12 220 RX12 yX12_isKind wsX12_isKind) := goodIn_app (goodIn_of _ (by decide +kernel)) ggX12_saw_X12_isKind
set_option maxRecDepth 20000 in
theorem ggX12_saw_X12_isPair : GoodIn wsX12_saw wsX12_isPair := goodIn_r _ [15, 16, 17, 18, 6, 19, 20, 21, 9, 10, 11, 30, 31, 32, 33, 34, 35, 36, 37, 38, 39, 40, 41, 42, 43, 44, 45, 46, 47, 48, 49, 50, 51, 52, 53, 54, 55, 56, 57, 58, 59, 60, 61, 62, 63, 64, 65] (by decide +kernel) (by decide +kernel)
set_option maxRecDepth 20000 in
theorem gX12_saw_X12_isPair : GoodIn wsX12_saw (wsV RX12 263 RX12 yX12_isPair wsX12_isPair) := goodIn_app (goodIn_of _ (by decide +kernel)) ggX12_saw_X12_isPair
set_option maxRecDepth 20000 in
theorem ggX12_saw_X12_bitOf : GoodIn wsX12_saw wsX12_bitOf := goodIn_r _ [25, 26, 27, 28, 6, 29, 20, 30, 31, 32, 33, 34, 35, 36, 37, 38, 39, 40, 41, 42, 43, 44, 45, 46, 47, 48, 49, 50, 51, 52, 53, 54, 55, 56, 57, 58, 59, 60, 61, 62, 63, 64, 65] (by decide +kernel) (by decide +kernel)
set_option maxRecDepth 20000 in
theorem gX12_saw_X12_bitOf : GoodIn wsX12_saw (wsV RX12 266 RX12 yX12_bitOf wsX12_bitOf) := goodIn_app (goodIn_of _ (by decide +kernel)) ggX12_saw_X12_bitOf
theorem dX12_saw_0 : decode cX12_saw 0 = .ok (.aload_n 0, 1) := by decide +kernel
theorem dX12_saw_1 : decode cX12_saw 1 = .ok (.iload_n 1, 1) := by decide +kernel
theorem dX12_saw_2 : decode cX12_saw 2 = .ok (.invokevirtual 220, 3) := by decide +kernel
theorem dX12_saw_5 : decode cX12_saw 5 = .ok (.ifCond .eq 19, 3) := by decide +kernel
theorem dX12_saw_8 : decode cX12_saw 8 = .ok (.aload_n 0, 1) := by decide +kernel
theorem dX12_saw_9 : decode cX12_saw 9 = .ok (.iload_n 2, 1) := by decide +kernel
theorem dX12_saw_10 : decode cX12_saw 10 = .ok (.invokevirtual 263, 3) := by decide +kernel
theorem dX12_saw_13 : decode cX12_saw 13 = .ok (.ifCond .eq 11, 3) := by decide +kernel
theorem dX12_saw_16 : decode cX12_saw 16 = .ok (.aload_n 0, 1) := by decide +kernel
theorem dX12_saw_17 : decode cX12_saw 17 = .ok (.iload_n 3, 1) := by decide +kernel
theorem dX12_saw_18 : decode cX12_saw 18 = .ok (.invokevirtual 263, 3) := by decide +kernel
theorem dX12_saw_21 : decode cX12_saw 21 = .ok (.ifCond .ne 5, 3) := by decide +kernel
theorem dX12_saw_24 : decode cX12_saw 24 = .ok (.iconst (-1), 1) := by decide +kernel
theorem dX12_saw_25 : decode cX12_saw 25 = .ok (.ireturn, 1) := by decide +kernel
theorem dX12_saw_26 : decode cX12_saw 26 = .ok (.aload_n 0, 1) := by decide +kernel
theorem dX12_saw_27 : decode cX12_saw 27 = .ok (.getfield 157, 3) := by decide +kernel
theorem dX12_saw_30 : decode cX12_saw 30 = .ok (.bipush 6, 2) := by decide +kernel
theorem dX12_saw_32 : decode cX12_saw 32 = .ok (.if_icmp .ne 6, 3) := by decide +kernel
theorem dX12_saw_35 : decode cX12_saw 35 = .ok (.bipush (-3), 2) := by decide +kernel
theorem dX12_saw_37 : decode cX12_saw 37 = .ok (.ireturn, 1) := by decide +kernel
theorem dX12_saw_38 : decode cX12_saw 38 = .ok (.aload_n 0, 1) := by decide +kernel
theorem dX12_saw_39 : decode cX12_saw 39 = .ok (.getfield 38, 3) := by decide +kernel
theorem dX12_saw_42 : decode cX12_saw 42 = .ok (.iconst 3, 1) := by decide +kernel
theorem dX12_saw_43 : decode cX12_saw 43 = .ok (.aload_n 0, 1) := by decide +kernel
theorem dX12_saw_44 : decode cX12_saw 44 = .ok (.getfield 157, 3) := by decide +kernel
theorem dX12_saw_47 : decode cX12_saw 47 = .ok (.imul, 1) := by decide +kernel
theorem dX12_saw_48 : decode cX12_saw 48 = .ok (.iload_n 1, 1) := by decide +kernel
theorem dX12_saw_49 : decode cX12_saw 49 = .ok (.iastore, 1) := by decide +kernel
theorem dX12_saw_50 : decode cX12_saw 50 = .ok (.aload_n 0, 1) := by decide +kernel
theorem dX12_saw_51 : decode cX12_saw 51 = .ok (.getfield 38, 3) := by decide +kernel
theorem dX12_saw_54 : decode cX12_saw 54 = .ok (.iconst 3, 1) := by decide +kernel
theorem dX12_saw_55 : decode cX12_saw 55 = .ok (.aload_n 0, 1) := by decide +kernel
theorem dX12_saw_56 : decode cX12_saw 56 = .ok (.getfield 157, 3) := by decide +kernel
theorem dX12_saw_59 : decode cX12_saw 59 = .ok (.imul, 1) := by decide +kernel
theorem dX12_saw_60 : decode cX12_saw 60 = .ok (.iconst 1, 1) := by decide +kernel
theorem dX12_saw_61 : decode cX12_saw 61 = .ok (.iadd, 1) := by decide +kernel
theorem dX12_saw_62 : decode cX12_saw 62 = .ok (.aload_n 0, 1) := by decide +kernel
theorem dX12_saw_63 : decode cX12_saw 63 = .ok (.iload_n 2, 1) := by decide +kernel
theorem dX12_saw_64 : decode cX12_saw 64 = .ok (.invokevirtual 266, 3) := by decide +kernel
theorem dX12_saw_67 : decode cX12_saw 67 = .ok (.iastore, 1) := by decide +kernel
theorem dX12_saw_68 : decode cX12_saw 68 = .ok (.aload_n 0, 1) := by decide +kernel
theorem dX12_saw_69 : decode cX12_saw 69 = .ok (.getfield 38, 3) := by decide +kernel
theorem dX12_saw_72 : decode cX12_saw 72 = .ok (.iconst 3, 1) := by decide +kernel
theorem dX12_saw_73 : decode cX12_saw 73 = .ok (.aload_n 0, 1) := by decide +kernel
theorem dX12_saw_74 : decode cX12_saw 74 = .ok (.getfield 157, 3) := by decide +kernel
theorem dX12_saw_77 : decode cX12_saw 77 = .ok (.imul, 1) := by decide +kernel
theorem dX12_saw_78 : decode cX12_saw 78 = .ok (.iconst 2, 1) := by decide +kernel
theorem dX12_saw_79 : decode cX12_saw 79 = .ok (.iadd, 1) := by decide +kernel
theorem dX12_saw_80 : decode cX12_saw 80 = .ok (.aload_n 0, 1) := by decide +kernel
theorem dX12_saw_81 : decode cX12_saw 81 = .ok (.iload_n 3, 1) := by decide +kernel
theorem dX12_saw_82 : decode cX12_saw 82 = .ok (.invokevirtual 266, 3) := by decide +kernel
theorem dX12_saw_85 : decode cX12_saw 85 = .ok (.iastore, 1) := by decide +kernel
theorem dX12_saw_86 : decode cX12_saw 86 = .ok (.aload_n 0, 1) := by decide +kernel
theorem dX12_saw_87 : decode cX12_saw 87 = .ok (.dup, 1) := by decide +kernel
theorem dX12_saw_88 : decode cX12_saw 88 = .ok (.getfield 157, 3) := by decide +kernel
theorem dX12_saw_91 : decode cX12_saw 91 = .ok (.iconst 1, 1) := by decide +kernel
theorem dX12_saw_92 : decode cX12_saw 92 = .ok (.iadd, 1) := by decide +kernel
theorem dX12_saw_93 : decode cX12_saw 93 = .ok (.putfield 157, 3) := by decide +kernel
theorem dX12_saw_96 : decode cX12_saw 96 = .ok (.aload_n 0, 1) := by decide +kernel
theorem dX12_saw_97 : decode cX12_saw 97 = .ok (.getfield 157, 3) := by decide +kernel
theorem dX12_saw_100 : decode cX12_saw 100 = .ok (.ireturn, 1) := by decide +kernel
theorem dX12_forget_0 : decode cX12_forget 0 = .ok (.aload_n 0, 1) := by decide +kernel
theorem dX12_forget_1 : decode cX12_forget 1 = .ok (.getfield 157, 3) := by decide +kernel
theorem dX12_forget_4 : decode cX12_forget 4 = .ok (.istore_n 1, 1) := by decide +kernel
theorem dX12_forget_5 : decode cX12_forget 5 = .ok (.aload_n 0, 1) := by decide +kernel
theorem dX12_forget_6 : decode cX12_forget 6 = .ok (.iconst 0, 1) := by decide +kernel
theorem dX12_forget_7 : decode cX12_forget 7 = .ok (.putfield 157, 3) := by decide +kernel
theorem dX12_forget_10 : decode cX12_forget 10 = .ok (.iload_n 1, 1) := by decide +kernel
theorem dX12_forget_11 : decode cX12_forget 11 = .ok (.ireturn, 1) := by decide +kernel
set_option maxRecDepth 20000 in
theorem ggX12_moved_X12_in : GoodIn wsX12_moved wsX12_in := goodIn_r _ [6] (by decide +kernel) (by decide +kernel)
set_option maxRecDepth 20000 in
theorem gX12_moved_X12_in : GoodIn wsX12_moved (va_wsS RX12 68 yX12_in wsX12_in) := goodIn_app (goodIn_of _ (by decide +kernel)) ggX12_moved_X12_in
set_option maxRecDepth 20000 in
theorem ggX12_moved_X12_cells : GoodIn wsX12_moved wsX12_cells := goodIn_r _ [10, 11, 12, 75, 76, 77, 78, 79, 80, 81, 82, 83, 84, 85, 86, 87, 88, 89, 90, 91, 92, 93, 94, 95, 96, 97, 98, 99, 100, 101, 102, 103, 104, 105, 106, 107, 108, 109, 110] (by decide +kernel) (by decide +kernel)
set_option maxRecDepth 20000 in
theorem gX12_moved_X12_cells : GoodIn wsX12_moved (wsV RX12 223 RX12 yX12_cells wsX12_cells) := goodIn_app (goodIn_of _ (by decide +kernel)) ggX12_moved_X12_cells
set_option maxRecDepth 20000 in
theorem ggX12_moved_X12_isSo : GoodIn wsX12_moved wsX12_isSo := goodIn_r _ [16, 17, 18, 19, 20, 21, 5, 22, 23, 24, 25, 26, 27, 28, 29, 30, 31, 32, 33, 34, 35, 36, 37, 38, 39, 40, 1, 41, 42, 43, 44, 45, 46, 47, 48, 49, 50, 11, 12, 51, 52, 53, 54, 55, 56, 57, 58, 59, 60, 61, 62, 63, 64, 65, 66, 67, 68, 69, 70, 75, 76, 77, 78, 79, 80, 81, 82, 83, 84, 85, 86, 87, 88, 89, 90, 91, 92, 93, 94, 95, 96, 97, 98, 99, 100, 101, 102, 103, 104, 105, 106, 107, 108, 109, 110] (by decide +kernel) (by decide +kernel)
set_option maxRecDepth 20000 in
theorem gX12_moved_X12_isSo : GoodIn wsX12_moved (wsV RX12 252 RX12 yX12_isSo wsX12_isSo) := goodIn_app (goodIn_of _ (by decide +kernel)) ggX12_moved_X12_isSo
set_option maxRecDepth 20000 in
theorem ggX12_moved_X12_pairOf : GoodIn wsX12_moved wsX12_pairOf := goodIn_r _ [74, 11, 75, 76, 77, 78, 79, 80, 81, 82, 83, 84, 85, 86, 87, 88, 89, 90, 91, 92, 93, 94, 95, 96, 97, 98, 99, 100, 101, 102, 103, 104, 105, 106, 107, 108, 109, 110] (by decide +kernel) (by decide +kernel)
set_option maxRecDepth 20000 in
theorem gX12_moved_X12_pairOf : GoodIn wsX12_moved (wsV RX12 207 RX12 yX12_pairOf wsX12_pairOf) := goodIn_app (goodIn_of _ (by decide +kernel)) ggX12_moved_X12_pairOf
theorem dX12_moved_0 : decode cX12_moved 0 = .ok (.iload_n 1, 1) := by decide +kernel
theorem dX12_moved_1 : decode cX12_moved 1 = .ok (.i2l, 1) := by decide +kernel
theorem dX12_moved_2 : decode cX12_moved 2 = .ok (.lconst 0, 1) := by decide +kernel
theorem dX12_moved_3 : decode cX12_moved 3 = .ok (.lconst 1, 1) := by decide +kernel
theorem dX12_moved_4 : decode cX12_moved 4 = .ok (.invokestatic 68, 3) := by decide +kernel
theorem dX12_moved_7 : decode cX12_moved 7 = .ok (.ifCond .ne 5, 3) := by decide +kernel
theorem dX12_moved_10 : decode cX12_moved 10 = .ok (.iconst (-1), 1) := by decide +kernel
theorem dX12_moved_11 : decode cX12_moved 11 = .ok (.ireturn, 1) := by decide +kernel
theorem dX12_moved_12 : decode cX12_moved 12 = .ok (.iconst 0, 1) := by decide +kernel
theorem dX12_moved_13 : decode cX12_moved 13 = .ok (.istore_n 2, 1) := by decide +kernel
theorem dX12_moved_14 : decode cX12_moved 14 = .ok (.bipush (-9), 2) := by decide +kernel
theorem dX12_moved_16 : decode cX12_moved 16 = .ok (.istore_n 3, 1) := by decide +kernel
theorem dX12_moved_17 : decode cX12_moved 17 = .ok (.iconst 0, 1) := by decide +kernel
theorem dX12_moved_18 : decode cX12_moved 18 = .ok (.istore 4, 2) := by decide +kernel
theorem dX12_moved_20 : decode cX12_moved 20 = .ok (.iload 4, 2) := by decide +kernel
theorem dX12_moved_22 : decode cX12_moved 22 = .ok (.aload_n 0, 1) := by decide +kernel
theorem dX12_moved_23 : decode cX12_moved 23 = .ok (.invokevirtual 223, 3) := by decide +kernel
theorem dX12_moved_26 : decode cX12_moved 26 = .ok (.if_icmp .ge 134, 3) := by decide +kernel
theorem dX12_moved_29 : decode cX12_moved 29 = .ok (.aload_n 0, 1) := by decide +kernel
theorem dX12_moved_30 : decode cX12_moved 30 = .ok (.getfield 7, 3) := by decide +kernel
theorem dX12_moved_33 : decode cX12_moved 33 = .ok (.iconst 1, 1) := by decide +kernel
theorem dX12_moved_34 : decode cX12_moved 34 = .ok (.iload 4, 2) := by decide +kernel
theorem dX12_moved_36 : decode cX12_moved 36 = .ok (.iadd, 1) := by decide +kernel
theorem dX12_moved_37 : decode cX12_moved 37 = .ok (.iaload, 1) := by decide +kernel
theorem dX12_moved_38 : decode cX12_moved 38 = .ok (.istore 5, 2) := by decide +kernel
theorem dX12_moved_40 : decode cX12_moved 40 = .ok (.iconst 0, 1) := by decide +kernel
theorem dX12_moved_41 : decode cX12_moved 41 = .ok (.istore 6, 2) := by decide +kernel
theorem dX12_moved_43 : decode cX12_moved 43 = .ok (.iload 6, 2) := by decide +kernel
theorem dX12_moved_45 : decode cX12_moved 45 = .ok (.iconst 2, 1) := by decide +kernel
theorem dX12_moved_46 : decode cX12_moved 46 = .ok (.if_icmp .ge 108, 3) := by decide +kernel
theorem dX12_moved_49 : decode cX12_moved 49 = .ok (.iload 5, 2) := by decide +kernel
theorem dX12_moved_51 : decode cX12_moved 51 = .ok (.iconst 2, 1) := by decide +kernel
theorem dX12_moved_52 : decode cX12_moved 52 = .ok (.iload 6, 2) := by decide +kernel
theorem dX12_moved_54 : decode cX12_moved 54 = .ok (.imul, 1) := by decide +kernel
theorem dX12_moved_55 : decode cX12_moved 55 = .ok (.iadd, 1) := by decide +kernel
theorem dX12_moved_56 : decode cX12_moved 56 = .ok (.iconst 1, 1) := by decide +kernel
theorem dX12_moved_57 : decode cX12_moved 57 = .ok (.isub, 1) := by decide +kernel
theorem dX12_moved_58 : decode cX12_moved 58 = .ok (.istore 7, 2) := by decide +kernel
theorem dX12_moved_60 : decode cX12_moved 60 = .ok (.aload_n 0, 1) := by decide +kernel
theorem dX12_moved_61 : decode cX12_moved 61 = .ok (.getfield 7, 3) := by decide +kernel
theorem dX12_moved_64 : decode cX12_moved 64 = .ok (.iconst 1, 1) := by decide +kernel
theorem dX12_moved_65 : decode cX12_moved 65 = .ok (.iload 4, 2) := by decide +kernel
theorem dX12_moved_67 : decode cX12_moved 67 = .ok (.iadd, 1) := by decide +kernel
theorem dX12_moved_68 : decode cX12_moved 68 = .ok (.iload 7, 2) := by decide +kernel
theorem dX12_moved_70 : decode cX12_moved 70 = .ok (.iastore, 1) := by decide +kernel
theorem dX12_moved_71 : decode cX12_moved 71 = .ok (.iload 7, 2) := by decide +kernel
theorem dX12_moved_73 : decode cX12_moved 73 = .ok (.i2l, 1) := by decide +kernel
theorem dX12_moved_74 : decode cX12_moved 74 = .ok (.lconst 0, 1) := by decide +kernel
theorem dX12_moved_75 : decode cX12_moved 75 = .ok (.ldc2_w 247, 3) := by decide +kernel
theorem dX12_moved_78 : decode cX12_moved 78 = .ok (.invokestatic 68, 3) := by decide +kernel
theorem dX12_moved_81 : decode cX12_moved 81 = .ok (.ifCond .eq 14, 3) := by decide +kernel
theorem dX12_moved_84 : decode cX12_moved 84 = .ok (.aload_n 0, 1) := by decide +kernel
theorem dX12_moved_85 : decode cX12_moved 85 = .ok (.invokevirtual 252, 3) := by decide +kernel
theorem dX12_moved_88 : decode cX12_moved 88 = .ok (.ifCond .eq 7, 3) := by decide +kernel
theorem dX12_moved_91 : decode cX12_moved 91 = .ok (.iconst 1, 1) := by decide +kernel
theorem dX12_moved_92 : decode cX12_moved 92 = .ok (.goto 4, 3) := by decide +kernel
theorem dX12_moved_95 : decode cX12_moved 95 = .ok (.iconst 0, 1) := by decide +kernel
theorem dX12_moved_96 : decode cX12_moved 96 = .ok (.istore 8, 2) := by decide +kernel
theorem dX12_moved_98 : decode cX12_moved 98 = .ok (.aload_n 0, 1) := by decide +kernel
theorem dX12_moved_99 : decode cX12_moved 99 = .ok (.getfield 7, 3) := by decide +kernel
theorem dX12_moved_102 : decode cX12_moved 102 = .ok (.iconst 1, 1) := by decide +kernel
theorem dX12_moved_103 : decode cX12_moved 103 = .ok (.iload 4, 2) := by decide +kernel
theorem dX12_moved_105 : decode cX12_moved 105 = .ok (.iadd, 1) := by decide +kernel
theorem dX12_moved_106 : decode cX12_moved 106 = .ok (.iload 5, 2) := by decide +kernel
theorem dX12_moved_108 : decode cX12_moved 108 = .ok (.iastore, 1) := by decide +kernel
theorem dX12_moved_109 : decode cX12_moved 109 = .ok (.iload 8, 2) := by decide +kernel
theorem dX12_moved_111 : decode cX12_moved 111 = .ok (.ifCond .eq 22, 3) := by decide +kernel
theorem dX12_moved_114 : decode cX12_moved 114 = .ok (.iload_n 2, 1) := by decide +kernel
theorem dX12_moved_115 : decode cX12_moved 115 = .ok (.ifCond .ne 18, 3) := by decide +kernel
theorem dX12_moved_118 : decode cX12_moved 118 = .ok (.bipush 10, 2) := by decide +kernel
theorem dX12_moved_120 : decode cX12_moved 120 = .ok (.aload_n 0, 1) := by decide +kernel
theorem dX12_moved_121 : decode cX12_moved 121 = .ok (.iload 4, 2) := by decide +kernel
theorem dX12_moved_123 : decode cX12_moved 123 = .ok (.invokevirtual 207, 3) := by decide +kernel
theorem dX12_moved_126 : decode cX12_moved 126 = .ok (.imul, 1) := by decide +kernel
theorem dX12_moved_127 : decode cX12_moved 127 = .ok (.iload 6, 2) := by decide +kernel
theorem dX12_moved_129 : decode cX12_moved 129 = .ok (.iadd, 1) := by decide +kernel
theorem dX12_moved_130 : decode cX12_moved 130 = .ok (.goto 4, 3) := by decide +kernel
theorem dX12_moved_133 : decode cX12_moved 133 = .ok (.iload_n 3, 1) := by decide +kernel
theorem dX12_moved_134 : decode cX12_moved 134 = .ok (.istore_n 3, 1) := by decide +kernel
theorem dX12_moved_135 : decode cX12_moved 135 = .ok (.iload_n 2, 1) := by decide +kernel
theorem dX12_moved_136 : decode cX12_moved 136 = .ok (.iload 8, 2) := by decide +kernel
theorem dX12_moved_138 : decode cX12_moved 138 = .ok (.ifCond .eq 7, 3) := by decide +kernel
theorem dX12_moved_141 : decode cX12_moved 141 = .ok (.iconst 1, 1) := by decide +kernel
theorem dX12_moved_142 : decode cX12_moved 142 = .ok (.goto 4, 3) := by decide +kernel
theorem dX12_moved_145 : decode cX12_moved 145 = .ok (.iconst 0, 1) := by decide +kernel
theorem dX12_moved_146 : decode cX12_moved 146 = .ok (.iadd, 1) := by decide +kernel
theorem dX12_moved_147 : decode cX12_moved 147 = .ok (.istore_n 2, 1) := by decide +kernel
theorem dX12_moved_148 : decode cX12_moved 148 = .ok (.iinc 6 1, 3) := by decide +kernel
theorem dX12_moved_151 : decode cX12_moved 151 = .ok (.goto (-108), 3) := by decide +kernel
theorem dX12_moved_154 : decode cX12_moved 154 = .ok (.iinc 4 1, 3) := by decide +kernel
theorem dX12_moved_157 : decode cX12_moved 157 = .ok (.goto (-137), 3) := by decide +kernel
theorem dX12_moved_160 : decode cX12_moved 160 = .ok (.iload_n 1, 1) := by decide +kernel
theorem dX12_moved_161 : decode cX12_moved 161 = .ok (.ifCond .ne 7, 3) := by decide +kernel
theorem dX12_moved_164 : decode cX12_moved 164 = .ok (.iload_n 2, 1) := by decide +kernel
theorem dX12_moved_165 : decode cX12_moved 165 = .ok (.goto 4, 3) := by decide +kernel
theorem dX12_moved_168 : decode cX12_moved 168 = .ok (.iload_n 3, 1) := by decide +kernel
theorem dX12_moved_169 : decode cX12_moved 169 = .ok (.ireturn, 1) := by decide +kernel
set_option maxRecDepth 20000 in
theorem ggX12_markOf_X12_markOfCell : GoodIn wsX12_markOf wsX12_markOfCell := goodIn_r _ [13, 1, 2, 54, 55, 56, 57, 58, 59, 60, 61, 62, 63, 64, 65, 66, 67, 68, 69, 70, 71, 72, 73, 74, 75, 76, 77, 78, 79, 80, 81, 82, 83, 84, 85, 86, 87, 88, 89] (by decide +kernel) (by decide +kernel)
set_option maxRecDepth 20000 in
theorem gX12_markOf_X12_markOfCell : GoodIn wsX12_markOf (wsV RX12 297 RX12 yX12_markOfCell wsX12_markOfCell) := goodIn_app (goodIn_of _ (by decide +kernel)) ggX12_markOf_X12_markOfCell
set_option maxRecDepth 20000 in
theorem ggX12_markOf_X12_shutWays : GoodIn wsX12_markOf wsX12_shutWays := goodIn_r _ [17, 18, 19, 20, 12, 21, 22, 23, 24, 25, 26, 27, 28, 29, 30, 31, 32, 33, 34, 35, 36, 37, 38, 39, 40, 41, 42, 43, 44, 45, 2, 54, 55, 56, 57, 58, 59, 60, 61, 62, 63, 64, 65, 66, 67, 68, 69, 70, 71, 72, 73, 74, 75, 76, 77, 78, 79, 80, 81, 82, 83, 84, 85, 86, 87, 88, 89] (by decide +kernel) (by decide +kernel)
set_option maxRecDepth 20000 in
theorem gX12_markOf_X12_shutWays : GoodIn wsX12_markOf (wsV RX12 217 RX12 yX12_shutWays wsX12_shutWays) := goodIn_app (goodIn_of _ (by decide +kernel)) ggX12_markOf_X12_shutWays
set_option maxRecDepth 20000 in
theorem ggX12_markOf_X12_bits : GoodIn wsX12_markOf wsX12_bits := goodIn_r _ [48] (by decide +kernel) (by decide +kernel)
set_option maxRecDepth 20000 in
theorem gX12_markOf_X12_bits : GoodIn wsX12_markOf (va_wsS RX12 276 yX12_bits wsX12_bits) := goodIn_app (goodIn_of _ (by decide +kernel)) ggX12_markOf_X12_bits
set_option maxRecDepth 20000 in
theorem ggX12_markOf_X12_liesOn : GoodIn wsX12_markOf wsX12_liesOn := goodIn_r _ [52, 2, 53, 54, 55, 56, 57, 58, 59, 60, 61, 62, 63, 64, 65, 66, 67, 68, 69, 70, 71, 72, 73, 74, 75, 76, 77, 78, 79, 80, 81, 82, 83, 84, 85, 86, 87, 88, 89] (by decide +kernel) (by decide +kernel)
set_option maxRecDepth 20000 in
theorem gX12_markOf_X12_liesOn : GoodIn wsX12_markOf (wsV RX12 214 RX12 yX12_liesOn wsX12_liesOn) := goodIn_app (goodIn_of _ (by decide +kernel)) ggX12_markOf_X12_liesOn
theorem dX12_markOf_0 : decode cX12_markOf 0 = .ok (.iload_n 1, 1) := by decide +kernel
theorem dX12_markOf_1 : decode cX12_markOf 1 = .ok (.tableswitch 168 0 4 #[35, 54, 81, 105, 134], 35) := by decide +kernel
theorem dX12_markOf_36 : decode cX12_markOf 36 = .ok (.aload_n 0, 1) := by decide +kernel
theorem dX12_markOf_37 : decode cX12_markOf 37 = .ok (.dup, 1) := by decide +kernel
theorem dX12_markOf_38 : decode cX12_markOf 38 = .ok (.getfield 291, 3) := by decide +kernel
theorem dX12_markOf_41 : decode cX12_markOf 41 = .ok (.lconst 1, 1) := by decide +kernel
theorem dX12_markOf_42 : decode cX12_markOf 42 = .ok (.ladd, 1) := by decide +kernel
theorem dX12_markOf_43 : decode cX12_markOf 43 = .ok (.putfield 291, 3) := by decide +kernel
theorem dX12_markOf_46 : decode cX12_markOf 46 = .ok (.aload_n 0, 1) := by decide +kernel
theorem dX12_markOf_47 : decode cX12_markOf 47 = .ok (.getfield 7, 3) := by decide +kernel
theorem dX12_markOf_50 : decode cX12_markOf 50 = .ok (.iconst 1, 1) := by decide +kernel
theorem dX12_markOf_51 : decode cX12_markOf 51 = .ok (.iload_n 2, 1) := by decide +kernel
theorem dX12_markOf_52 : decode cX12_markOf 52 = .ok (.iadd, 1) := by decide +kernel
theorem dX12_markOf_53 : decode cX12_markOf 53 = .ok (.iaload, 1) := by decide +kernel
theorem dX12_markOf_54 : decode cX12_markOf 54 = .ok (.ireturn, 1) := by decide +kernel
theorem dX12_markOf_55 : decode cX12_markOf 55 = .ok (.aload_n 0, 1) := by decide +kernel
theorem dX12_markOf_56 : decode cX12_markOf 56 = .ok (.dup, 1) := by decide +kernel
theorem dX12_markOf_57 : decode cX12_markOf 57 = .ok (.getfield 291, 3) := by decide +kernel
theorem dX12_markOf_60 : decode cX12_markOf 60 = .ok (.ldc2_w 295, 3) := by decide +kernel
theorem dX12_markOf_63 : decode cX12_markOf 63 = .ok (.ladd, 1) := by decide +kernel
theorem dX12_markOf_64 : decode cX12_markOf 64 = .ok (.putfield 291, 3) := by decide +kernel
theorem dX12_markOf_67 : decode cX12_markOf 67 = .ok (.aload_n 0, 1) := by decide +kernel
theorem dX12_markOf_68 : decode cX12_markOf 68 = .ok (.iload_n 2, 1) := by decide +kernel
theorem dX12_markOf_69 : decode cX12_markOf 69 = .ok (.invokevirtual 297, 3) := by decide +kernel
theorem dX12_markOf_72 : decode cX12_markOf 72 = .ok (.aload_n 0, 1) := by decide +kernel
theorem dX12_markOf_73 : decode cX12_markOf 73 = .ok (.iload_n 2, 1) := by decide +kernel
theorem dX12_markOf_74 : decode cX12_markOf 74 = .ok (.invokevirtual 217, 3) := by decide +kernel
theorem dX12_markOf_77 : decode cX12_markOf 77 = .ok (.invokestatic 276, 3) := by decide +kernel
theorem dX12_markOf_80 : decode cX12_markOf 80 = .ok (.iadd, 1) := by decide +kernel
theorem dX12_markOf_81 : decode cX12_markOf 81 = .ok (.ireturn, 1) := by decide +kernel
theorem dX12_markOf_82 : decode cX12_markOf 82 = .ok (.aload_n 0, 1) := by decide +kernel
theorem dX12_markOf_83 : decode cX12_markOf 83 = .ok (.dup, 1) := by decide +kernel
theorem dX12_markOf_84 : decode cX12_markOf 84 = .ok (.getfield 291, 3) := by decide +kernel
theorem dX12_markOf_87 : decode cX12_markOf 87 = .ok (.ldc2_w 300, 3) := by decide +kernel
theorem dX12_markOf_90 : decode cX12_markOf 90 = .ok (.ladd, 1) := by decide +kernel
theorem dX12_markOf_91 : decode cX12_markOf 91 = .ok (.putfield 291, 3) := by decide +kernel
theorem dX12_markOf_94 : decode cX12_markOf 94 = .ok (.aload_n 0, 1) := by decide +kernel
theorem dX12_markOf_95 : decode cX12_markOf 95 = .ok (.iload_n 2, 1) := by decide +kernel
theorem dX12_markOf_96 : decode cX12_markOf 96 = .ok (.invokevirtual 297, 3) := by decide +kernel
theorem dX12_markOf_99 : decode cX12_markOf 99 = .ok (.aload_n 0, 1) := by decide +kernel
theorem dX12_markOf_100 : decode cX12_markOf 100 = .ok (.iload_n 2, 1) := by decide +kernel
theorem dX12_markOf_101 : decode cX12_markOf 101 = .ok (.invokevirtual 214, 3) := by decide +kernel
theorem dX12_markOf_104 : decode cX12_markOf 104 = .ok (.isub, 1) := by decide +kernel
theorem dX12_markOf_105 : decode cX12_markOf 105 = .ok (.ireturn, 1) := by decide +kernel
theorem dX12_markOf_106 : decode cX12_markOf 106 = .ok (.aload_n 0, 1) := by decide +kernel
theorem dX12_markOf_107 : decode cX12_markOf 107 = .ok (.dup, 1) := by decide +kernel
theorem dX12_markOf_108 : decode cX12_markOf 108 = .ok (.getfield 291, 3) := by decide +kernel
theorem dX12_markOf_111 : decode cX12_markOf 111 = .ok (.ldc2_w 302, 3) := by decide +kernel
theorem dX12_markOf_114 : decode cX12_markOf 114 = .ok (.ladd, 1) := by decide +kernel
theorem dX12_markOf_115 : decode cX12_markOf 115 = .ok (.putfield 291, 3) := by decide +kernel
theorem dX12_markOf_118 : decode cX12_markOf 118 = .ok (.iconst 2, 1) := by decide +kernel
theorem dX12_markOf_119 : decode cX12_markOf 119 = .ok (.aload_n 0, 1) := by decide +kernel
theorem dX12_markOf_120 : decode cX12_markOf 120 = .ok (.iload_n 2, 1) := by decide +kernel
theorem dX12_markOf_121 : decode cX12_markOf 121 = .ok (.invokevirtual 297, 3) := by decide +kernel
theorem dX12_markOf_124 : decode cX12_markOf 124 = .ok (.aload_n 0, 1) := by decide +kernel
theorem dX12_markOf_125 : decode cX12_markOf 125 = .ok (.iload_n 2, 1) := by decide +kernel
theorem dX12_markOf_126 : decode cX12_markOf 126 = .ok (.invokevirtual 217, 3) := by decide +kernel
theorem dX12_markOf_129 : decode cX12_markOf 129 = .ok (.invokestatic 276, 3) := by decide +kernel
theorem dX12_markOf_132 : decode cX12_markOf 132 = .ok (.iadd, 1) := by decide +kernel
theorem dX12_markOf_133 : decode cX12_markOf 133 = .ok (.imul, 1) := by decide +kernel
theorem dX12_markOf_134 : decode cX12_markOf 134 = .ok (.ireturn, 1) := by decide +kernel
theorem dX12_markOf_135 : decode cX12_markOf 135 = .ok (.aload_n 0, 1) := by decide +kernel
theorem dX12_markOf_136 : decode cX12_markOf 136 = .ok (.dup, 1) := by decide +kernel
theorem dX12_markOf_137 : decode cX12_markOf 137 = .ok (.getfield 291, 3) := by decide +kernel
theorem dX12_markOf_140 : decode cX12_markOf 140 = .ok (.ldc2_w 304, 3) := by decide +kernel
theorem dX12_markOf_143 : decode cX12_markOf 143 = .ok (.ladd, 1) := by decide +kernel
theorem dX12_markOf_144 : decode cX12_markOf 144 = .ok (.putfield 291, 3) := by decide +kernel
theorem dX12_markOf_147 : decode cX12_markOf 147 = .ok (.aload_n 0, 1) := by decide +kernel
theorem dX12_markOf_148 : decode cX12_markOf 148 = .ok (.iload_n 2, 1) := by decide +kernel
theorem dX12_markOf_149 : decode cX12_markOf 149 = .ok (.invokevirtual 297, 3) := by decide +kernel
theorem dX12_markOf_152 : decode cX12_markOf 152 = .ok (.aload_n 0, 1) := by decide +kernel
theorem dX12_markOf_153 : decode cX12_markOf 153 = .ok (.iload_n 2, 1) := by decide +kernel
theorem dX12_markOf_154 : decode cX12_markOf 154 = .ok (.invokevirtual 214, 3) := by decide +kernel
theorem dX12_markOf_157 : decode cX12_markOf 157 = .ok (.isub, 1) := by decide +kernel
theorem dX12_markOf_158 : decode cX12_markOf 158 = .ok (.aload_n 0, 1) := by decide +kernel
theorem dX12_markOf_159 : decode cX12_markOf 159 = .ok (.getfield 7, 3) := by decide +kernel
theorem dX12_markOf_162 : decode cX12_markOf 162 = .ok (.bipush 61, 2) := by decide +kernel
theorem dX12_markOf_164 : decode cX12_markOf 164 = .ok (.iload_n 2, 1) := by decide +kernel
theorem dX12_markOf_165 : decode cX12_markOf 165 = .ok (.iadd, 1) := by decide +kernel
theorem dX12_markOf_166 : decode cX12_markOf 166 = .ok (.iaload, 1) := by decide +kernel
theorem dX12_markOf_167 : decode cX12_markOf 167 = .ok (.iadd, 1) := by decide +kernel
theorem dX12_markOf_168 : decode cX12_markOf 168 = .ok (.ireturn, 1) := by decide +kernel
theorem dX12_markOf_169 : decode cX12_markOf 169 = .ok (.aload_n 0, 1) := by decide +kernel
theorem dX12_markOf_170 : decode cX12_markOf 170 = .ok (.dup, 1) := by decide +kernel
theorem dX12_markOf_171 : decode cX12_markOf 171 = .ok (.getfield 291, 3) := by decide +kernel
theorem dX12_markOf_174 : decode cX12_markOf 174 = .ok (.ldc2_w 306, 3) := by decide +kernel
theorem dX12_markOf_177 : decode cX12_markOf 177 = .ok (.ladd, 1) := by decide +kernel
theorem dX12_markOf_178 : decode cX12_markOf 178 = .ok (.putfield 291, 3) := by decide +kernel
theorem dX12_markOf_181 : decode cX12_markOf 181 = .ok (.aload_n 0, 1) := by decide +kernel
theorem dX12_markOf_182 : decode cX12_markOf 182 = .ok (.iload_n 2, 1) := by decide +kernel
theorem dX12_markOf_183 : decode cX12_markOf 183 = .ok (.invokevirtual 297, 3) := by decide +kernel
theorem dX12_markOf_186 : decode cX12_markOf 186 = .ok (.aload_n 0, 1) := by decide +kernel
theorem dX12_markOf_187 : decode cX12_markOf 187 = .ok (.getfield 23, 3) := by decide +kernel
theorem dX12_markOf_190 : decode cX12_markOf 190 = .ok (.iload_n 2, 1) := by decide +kernel
theorem dX12_markOf_191 : decode cX12_markOf 191 = .ok (.iaload, 1) := by decide +kernel
theorem dX12_markOf_192 : decode cX12_markOf 192 = .ok (.iadd, 1) := by decide +kernel
theorem dX12_markOf_193 : decode cX12_markOf 193 = .ok (.ireturn, 1) := by decide +kernel
theorem dX12_markOfCell_0 : decode cX12_markOfCell 0 = .ok (.aload_n 0, 1) := by decide +kernel
theorem dX12_markOfCell_1 : decode cX12_markOfCell 1 = .ok (.dup, 1) := by decide +kernel
theorem dX12_markOfCell_2 : decode cX12_markOfCell 2 = .ok (.getfield 291, 3) := by decide +kernel
theorem dX12_markOfCell_5 : decode cX12_markOfCell 5 = .ok (.lconst 1, 1) := by decide +kernel
theorem dX12_markOfCell_6 : decode cX12_markOfCell 6 = .ok (.ladd, 1) := by decide +kernel
theorem dX12_markOfCell_7 : decode cX12_markOfCell 7 = .ok (.putfield 291, 3) := by decide +kernel
theorem dX12_markOfCell_10 : decode cX12_markOfCell 10 = .ok (.aload_n 0, 1) := by decide +kernel
theorem dX12_markOfCell_11 : decode cX12_markOfCell 11 = .ok (.getfield 7, 3) := by decide +kernel
theorem dX12_markOfCell_14 : decode cX12_markOfCell 14 = .ok (.iconst 1, 1) := by decide +kernel
theorem dX12_markOfCell_15 : decode cX12_markOfCell 15 = .ok (.iload_n 1, 1) := by decide +kernel
theorem dX12_markOfCell_16 : decode cX12_markOfCell 16 = .ok (.iadd, 1) := by decide +kernel

set_option maxRecDepth 20000 in
theorem ggX12_readsItem_X12_readsGrating : GoodIn wsX12_readsItem wsX12_readsGrating := goodIn_r _ [52, 25, 27, 53, 5, 41, 42, 43, 11, 44, 26, 45, 46, 47, 48, 29, 30, 31, 32, 2, 7, 3, 1, 18, 19, 20, 33, 34, 35, 8, 9, 10, 12, 13, 14, 15, 16, 17, 54, 55, 56, 57, 63, 64, 65, 66, 67, 68, 69, 70, 71, 72, 73, 74, 75, 76, 77, 78, 79, 80, 81, 82, 83, 84, 85, 86, 87, 88, 89, 90, 91, 92, 93, 94, 95, 96, 97, 98] (by decide +kernel) (by decide +kernel)
set_option maxRecDepth 20000 in
theorem gX12_readsItem_X12_readsGrating : GoodIn wsX12_readsItem (wsV RX12 131 RX12 yX12_readsGrating wsX12_readsGrating) := goodIn_app (goodIn_of _ (by decide +kernel)) ggX12_readsItem_X12_readsGrating
set_option maxRecDepth 20000 in
theorem ggX12_readsItem_X12_readsKind : GoodIn wsX12_readsItem wsX12_readsKind := goodIn_r _ [61, 62, 6, 25, 45, 46, 47, 11, 48, 29, 30, 31, 32, 2, 7, 3, 1, 18, 19, 20, 33, 34, 35, 8, 9, 10, 12, 13, 14, 15, 16, 17, 63, 64, 65, 66, 67, 68, 69, 70, 71, 72, 73, 74, 75, 76, 77, 78, 79, 80, 81, 82, 83, 84, 85, 86, 87, 88, 89, 90, 91, 92, 93, 94, 95, 96, 97, 98] (by decide +kernel) (by decide +kernel)
set_option maxRecDepth 20000 in
theorem gX12_readsItem_X12_readsKind : GoodIn wsX12_readsItem (wsV RX12 134 RX12 yX12_readsKind wsX12_readsKind) := goodIn_app (goodIn_of _ (by decide +kernel)) ggX12_readsItem_X12_readsKind
theorem dX12_readsItem_0 : decode cX12_readsItem 0 = .ok (.aload_n 0, 1) := by decide +kernel
theorem dX12_readsItem_1 : decode cX12_readsItem 1 = .ok (.getfield 88, 3) := by decide +kernel
theorem dX12_readsItem_4 : decode cX12_readsItem 4 = .ok (.aload_n 0, 1) := by decide +kernel
theorem dX12_readsItem_5 : decode cX12_readsItem 5 = .ok (.getfield 81, 3) := by decide +kernel
theorem dX12_readsItem_8 : decode cX12_readsItem 8 = .ok (.isub, 1) := by decide +kernel
theorem dX12_readsItem_9 : decode cX12_readsItem 9 = .ok (.iconst 1, 1) := by decide +kernel
theorem dX12_readsItem_10 : decode cX12_readsItem 10 = .ok (.if_icmp .ne 15, 3) := by decide +kernel
theorem dX12_readsItem_13 : decode cX12_readsItem 13 = .ok (.aload_n 0, 1) := by decide +kernel
theorem dX12_readsItem_14 : decode cX12_readsItem 14 = .ok (.getfield 17, 3) := by decide +kernel
theorem dX12_readsItem_17 : decode cX12_readsItem 17 = .ok (.aload_n 0, 1) := by decide +kernel
theorem dX12_readsItem_18 : decode cX12_readsItem 18 = .ok (.getfield 81, 3) := by decide +kernel
theorem dX12_readsItem_21 : decode cX12_readsItem 21 = .ok (.iaload, 1) := by decide +kernel
theorem dX12_readsItem_22 : decode cX12_readsItem 22 = .ok (.goto 4, 3) := by decide +kernel
theorem dX12_readsItem_25 : decode cX12_readsItem 25 = .ok (.iconst 0, 1) := by decide +kernel
theorem dX12_readsItem_26 : decode cX12_readsItem 26 = .ok (.istore_n 1, 1) := by decide +kernel
theorem dX12_readsItem_27 : decode cX12_readsItem 27 = .ok (.aload_n 0, 1) := by decide +kernel
theorem dX12_readsItem_28 : decode cX12_readsItem 28 = .ok (.getfield 122, 3) := by decide +kernel
theorem dX12_readsItem_31 : decode cX12_readsItem 31 = .ok (.ifCond .ne 17, 3) := by decide +kernel
theorem dX12_readsItem_34 : decode cX12_readsItem 34 = .ok (.iload_n 1, 1) := by decide +kernel
theorem dX12_readsItem_35 : decode cX12_readsItem 35 = .ok (.bipush 103, 2) := by decide +kernel
theorem dX12_readsItem_37 : decode cX12_readsItem 37 = .ok (.if_icmp .ne 7, 3) := by decide +kernel
theorem dX12_readsItem_40 : decode cX12_readsItem 40 = .ok (.iconst 1, 1) := by decide +kernel
theorem dX12_readsItem_41 : decode cX12_readsItem 41 = .ok (.goto 46, 3) := by decide +kernel
theorem dX12_readsItem_44 : decode cX12_readsItem 44 = .ok (.iconst 0, 1) := by decide +kernel
theorem dX12_readsItem_45 : decode cX12_readsItem 45 = .ok (.goto 42, 3) := by decide +kernel
theorem dX12_readsItem_48 : decode cX12_readsItem 48 = .ok (.iload_n 1, 1) := by decide +kernel
theorem dX12_readsItem_49 : decode cX12_readsItem 49 = .ok (.bipush 107, 2) := by decide +kernel
theorem dX12_readsItem_51 : decode cX12_readsItem 51 = .ok (.if_icmp .eq 31, 3) := by decide +kernel
theorem dX12_readsItem_54 : decode cX12_readsItem 54 = .ok (.iload_n 1, 1) := by decide +kernel
theorem dX12_readsItem_55 : decode cX12_readsItem 55 = .ok (.bipush 111, 2) := by decide +kernel
theorem dX12_readsItem_57 : decode cX12_readsItem 57 = .ok (.if_icmp .ne 11, 3) := by decide +kernel
theorem dX12_readsItem_60 : decode cX12_readsItem 60 = .ok (.aload_n 0, 1) := by decide +kernel
theorem dX12_readsItem_61 : decode cX12_readsItem 61 = .ok (.getfield 116, 3) := by decide +kernel
theorem dX12_readsItem_64 : decode cX12_readsItem 64 = .ok (.iconst 4, 1) := by decide +kernel
theorem dX12_readsItem_65 : decode cX12_readsItem 65 = .ok (.if_icmp .lt 17, 3) := by decide +kernel
theorem dX12_readsItem_68 : decode cX12_readsItem 68 = .ok (.iload_n 1, 1) := by decide +kernel
theorem dX12_readsItem_69 : decode cX12_readsItem 69 = .ok (.bipush 99, 2) := by decide +kernel
theorem dX12_readsItem_71 : decode cX12_readsItem 71 = .ok (.if_icmp .ne 15, 3) := by decide +kernel
theorem dX12_readsItem_74 : decode cX12_readsItem 74 = .ok (.aload_n 0, 1) := by decide +kernel
theorem dX12_readsItem_75 : decode cX12_readsItem 75 = .ok (.getfield 119, 3) := by decide +kernel
theorem dX12_readsItem_78 : decode cX12_readsItem 78 = .ok (.iconst 5, 1) := by decide +kernel
theorem dX12_readsItem_79 : decode cX12_readsItem 79 = .ok (.if_icmp .ge 7, 3) := by decide +kernel
theorem dX12_readsItem_82 : decode cX12_readsItem 82 = .ok (.iconst 1, 1) := by decide +kernel
theorem dX12_readsItem_83 : decode cX12_readsItem 83 = .ok (.goto 4, 3) := by decide +kernel
theorem dX12_readsItem_86 : decode cX12_readsItem 86 = .ok (.iconst 0, 1) := by decide +kernel
theorem dX12_readsItem_87 : decode cX12_readsItem 87 = .ok (.istore_n 2, 1) := by decide +kernel
theorem dX12_readsItem_88 : decode cX12_readsItem 88 = .ok (.iload_n 2, 1) := by decide +kernel
theorem dX12_readsItem_89 : decode cX12_readsItem 89 = .ok (.ifCond .ne 5, 3) := by decide +kernel
theorem dX12_readsItem_92 : decode cX12_readsItem 92 = .ok (.iconst 0, 1) := by decide +kernel
theorem dX12_readsItem_93 : decode cX12_readsItem 93 = .ok (.ireturn, 1) := by decide +kernel
theorem dX12_readsItem_94 : decode cX12_readsItem 94 = .ok (.aload_n 0, 1) := by decide +kernel
theorem dX12_readsItem_95 : decode cX12_readsItem 95 = .ok (.invokevirtual 95, 3) := by decide +kernel
theorem dX12_readsItem_98 : decode cX12_readsItem 98 = .ok (.iload_n 1, 1) := by decide +kernel
theorem dX12_readsItem_99 : decode cX12_readsItem 99 = .ok (.bipush 103, 2) := by decide +kernel
theorem dX12_readsItem_101 : decode cX12_readsItem 101 = .ok (.if_icmp .ne 10, 3) := by decide +kernel
theorem dX12_readsItem_104 : decode cX12_readsItem 104 = .ok (.aload_n 0, 1) := by decide +kernel
theorem dX12_readsItem_105 : decode cX12_readsItem 105 = .ok (.invokevirtual 125, 3) := by decide +kernel
theorem dX12_readsItem_108 : decode cX12_readsItem 108 = .ok (.goto 33, 3) := by decide +kernel
theorem dX12_readsItem_111 : decode cX12_readsItem 111 = .ok (.iload_n 1, 1) := by decide +kernel
theorem dX12_readsItem_112 : decode cX12_readsItem 112 = .ok (.bipush 107, 2) := by decide +kernel
theorem dX12_readsItem_114 : decode cX12_readsItem 114 = .ok (.if_icmp .ne 10, 3) := by decide +kernel
theorem dX12_readsItem_117 : decode cX12_readsItem 117 = .ok (.aload_n 0, 1) := by decide +kernel
theorem dX12_readsItem_118 : decode cX12_readsItem 118 = .ok (.invokevirtual 128, 3) := by decide +kernel
theorem dX12_readsItem_121 : decode cX12_readsItem 121 = .ok (.goto 20, 3) := by decide +kernel
theorem dX12_readsItem_124 : decode cX12_readsItem 124 = .ok (.iload_n 1, 1) := by decide +kernel
theorem dX12_readsItem_125 : decode cX12_readsItem 125 = .ok (.bipush 111, 2) := by decide +kernel
theorem dX12_readsItem_127 : decode cX12_readsItem 127 = .ok (.if_icmp .ne 10, 3) := by decide +kernel
theorem dX12_readsItem_130 : decode cX12_readsItem 130 = .ok (.aload_n 0, 1) := by decide +kernel
theorem dX12_readsItem_131 : decode cX12_readsItem 131 = .ok (.invokevirtual 131, 3) := by decide +kernel
theorem dX12_readsItem_134 : decode cX12_readsItem 134 = .ok (.goto 7, 3) := by decide +kernel
theorem dX12_readsItem_137 : decode cX12_readsItem 137 = .ok (.aload_n 0, 1) := by decide +kernel
theorem dX12_readsItem_138 : decode cX12_readsItem 138 = .ok (.invokevirtual 134, 3) := by decide +kernel
theorem dX12_readsItem_141 : decode cX12_readsItem 141 = .ok (.istore_n 3, 1) := by decide +kernel
theorem dX12_readsItem_142 : decode cX12_readsItem 142 = .ok (.iload_n 3, 1) := by decide +kernel
theorem dX12_readsItem_143 : decode cX12_readsItem 143 = .ok (.ifCond .eq 28, 3) := by decide +kernel
theorem dX12_readsItem_146 : decode cX12_readsItem 146 = .ok (.aload_n 0, 1) := by decide +kernel
theorem dX12_readsItem_147 : decode cX12_readsItem 147 = .ok (.getfield 81, 3) := by decide +kernel
theorem dX12_readsItem_150 : decode cX12_readsItem 150 = .ok (.aload_n 0, 1) := by decide +kernel
theorem dX12_readsItem_151 : decode cX12_readsItem 151 = .ok (.getfield 72, 3) := by decide +kernel
theorem dX12_readsItem_154 : decode cX12_readsItem 154 = .ok (.if_icmp .eq 17, 3) := by decide +kernel
theorem dX12_readsItem_157 : decode cX12_readsItem 157 = .ok (.aload_n 0, 1) := by decide +kernel
theorem dX12_readsItem_158 : decode cX12_readsItem 158 = .ok (.getfield 17, 3) := by decide +kernel
theorem dX12_readsItem_161 : decode cX12_readsItem 161 = .ok (.aload_n 0, 1) := by decide +kernel
theorem dX12_readsItem_162 : decode cX12_readsItem 162 = .ok (.getfield 81, 3) := by decide +kernel
theorem dX12_readsItem_165 : decode cX12_readsItem 165 = .ok (.iaload, 1) := by decide +kernel
theorem dX12_readsItem_166 : decode cX12_readsItem 166 = .ok (.bipush 59, 2) := by decide +kernel
theorem dX12_readsItem_168 : decode cX12_readsItem 168 = .ok (.if_icmp .eq 5, 3) := by decide +kernel
theorem dX12_readsItem_171 : decode cX12_readsItem 171 = .ok (.iconst 0, 1) := by decide +kernel
theorem dX12_readsItem_172 : decode cX12_readsItem 172 = .ok (.ireturn, 1) := by decide +kernel
theorem dX12_readsItem_173 : decode cX12_readsItem 173 = .ok (.aload_n 0, 1) := by decide +kernel
theorem dX12_readsItem_174 : decode cX12_readsItem 174 = .ok (.invokevirtual 95, 3) := by decide +kernel
theorem dX12_readsItem_177 : decode cX12_readsItem 177 = .ok (.aload_n 0, 1) := by decide +kernel
theorem dX12_readsItem_178 : decode cX12_readsItem 178 = .ok (.dup, 1) := by decide +kernel
theorem dX12_readsItem_179 : decode cX12_readsItem 179 = .ok (.getfield 122, 3) := by decide +kernel
theorem dX12_readsItem_182 : decode cX12_readsItem 182 = .ok (.iconst 1, 1) := by decide +kernel
theorem dX12_readsItem_183 : decode cX12_readsItem 183 = .ok (.iadd, 1) := by decide +kernel
theorem dX12_readsItem_184 : decode cX12_readsItem 184 = .ok (.putfield 122, 3) := by decide +kernel
theorem dX12_readsItem_187 : decode cX12_readsItem 187 = .ok (.iconst 1, 1) := by decide +kernel
theorem dX12_readsItem_188 : decode cX12_readsItem 188 = .ok (.ireturn, 1) := by decide +kernel
set_option maxRecDepth 20000 in
theorem ggX12_fault_X12_token : GoodIn wsX12_fault wsX12_token := goodIn_r _ [15, 1, 9, 10, 16, 17, 18, 19, 20, 14, 21, 22, 23, 24, 67, 68, 69, 70, 71, 72, 73, 74, 75, 76, 77, 78, 79, 80, 81, 82, 83, 84, 85, 86, 87, 88, 89, 90, 91, 92, 93, 94, 95, 96, 97, 98, 99, 100, 101, 102] (by decide +kernel) (by decide +kernel)
set_option maxRecDepth 20000 in
theorem gX12_fault_X12_token : GoodIn wsX12_fault (wsV RX12 95 RX12 yX12_token wsX12_token) := goodIn_app (goodIn_of _ (by decide +kernel)) ggX12_fault_X12_token
set_option maxRecDepth 20000 in
theorem ggX12_fault_X12_readsItem : GoodIn wsX12_fault wsX12_readsItem := goodIn_r _ [28, 17, 9, 16, 2, 5, 6, 10, 11, 12, 13, 14, 15, 1, 18, 19, 20, 21, 22, 23, 24, 29, 30, 31, 32, 33, 3, 4, 34, 35, 36, 37, 38, 39, 40, 41, 42, 43, 44, 45, 7, 46, 47, 48, 49, 50, 51, 52, 53, 54, 55, 56, 57, 8, 58, 59, 60, 61, 62, 63, 64, 65, 66, 67, 68, 69, 70, 71, 72, 73, 74, 75, 76, 77, 78, 79, 80, 81, 82, 83, 84, 85, 86, 87, 88, 89, 90, 91, 92, 93, 94, 95, 96, 97, 98, 99, 100, 101, 102] (by decide +kernel) (by decide +kernel)
set_option maxRecDepth 20000 in
theorem gX12_fault_X12_readsItem : GoodIn wsX12_fault (wsV RX12 137 RX12 yX12_readsItem wsX12_readsItem) := goodIn_app (goodIn_of _ (by decide +kernel)) ggX12_fault_X12_readsItem
theorem dX12_fault_0 : decode cX12_fault 0 = .ok (.aload_n 0, 1) := by decide +kernel
theorem dX12_fault_1 : decode cX12_fault 1 = .ok (.iconst 0, 1) := by decide +kernel
theorem dX12_fault_2 : decode cX12_fault 2 = .ok (.putfield 75, 3) := by decide +kernel
theorem dX12_fault_5 : decode cX12_fault 5 = .ok (.aload_n 0, 1) := by decide +kernel
theorem dX12_fault_6 : decode cX12_fault 6 = .ok (.iconst 0, 1) := by decide +kernel
theorem dX12_fault_7 : decode cX12_fault 7 = .ok (.putfield 122, 3) := by decide +kernel
theorem dX12_fault_10 : decode cX12_fault 10 = .ok (.aload_n 0, 1) := by decide +kernel
theorem dX12_fault_11 : decode cX12_fault 11 = .ok (.iconst 0, 1) := by decide +kernel
theorem dX12_fault_12 : decode cX12_fault 12 = .ok (.putfield 98, 3) := by decide +kernel
theorem dX12_fault_15 : decode cX12_fault 15 = .ok (.aload_n 0, 1) := by decide +kernel
theorem dX12_fault_16 : decode cX12_fault 16 = .ok (.iconst 0, 1) := by decide +kernel
theorem dX12_fault_17 : decode cX12_fault 17 = .ok (.putfield 101, 3) := by decide +kernel
theorem dX12_fault_20 : decode cX12_fault 20 = .ok (.aload_n 0, 1) := by decide +kernel
theorem dX12_fault_21 : decode cX12_fault 21 = .ok (.iconst 0, 1) := by decide +kernel
theorem dX12_fault_22 : decode cX12_fault 22 = .ok (.putfield 116, 3) := by decide +kernel
theorem dX12_fault_25 : decode cX12_fault 25 = .ok (.aload_n 0, 1) := by decide +kernel
theorem dX12_fault_26 : decode cX12_fault 26 = .ok (.iconst 0, 1) := by decide +kernel
theorem dX12_fault_27 : decode cX12_fault 27 = .ok (.putfield 119, 3) := by decide +kernel
theorem dX12_fault_30 : decode cX12_fault 30 = .ok (.aload_n 0, 1) := by decide +kernel
theorem dX12_fault_31 : decode cX12_fault 31 = .ok (.getfield 44, 3) := by decide +kernel
theorem dX12_fault_34 : decode cX12_fault 34 = .ok (.iconst 0, 1) := by decide +kernel
theorem dX12_fault_35 : decode cX12_fault 35 = .ok (.iconst 0, 1) := by decide +kernel
theorem dX12_fault_36 : decode cX12_fault 36 = .ok (.iastore, 1) := by decide +kernel
theorem dX12_fault_37 : decode cX12_fault 37 = .ok (.aload_n 0, 1) := by decide +kernel
theorem dX12_fault_38 : decode cX12_fault 38 = .ok (.getfield 44, 3) := by decide +kernel
theorem dX12_fault_41 : decode cX12_fault 41 = .ok (.iconst 1, 1) := by decide +kernel
theorem dX12_fault_42 : decode cX12_fault 42 = .ok (.iconst 0, 1) := by decide +kernel
theorem dX12_fault_43 : decode cX12_fault 43 = .ok (.iastore, 1) := by decide +kernel
theorem dX12_fault_44 : decode cX12_fault 44 = .ok (.iconst 0, 1) := by decide +kernel
theorem dX12_fault_45 : decode cX12_fault 45 = .ok (.istore_n 1, 1) := by decide +kernel
theorem dX12_fault_46 : decode cX12_fault 46 = .ok (.iload_n 1, 1) := by decide +kernel
theorem dX12_fault_47 : decode cX12_fault 47 = .ok (.bipush 30, 2) := by decide +kernel
theorem dX12_fault_49 : decode cX12_fault 49 = .ok (.if_icmp .ge 16, 3) := by decide +kernel
theorem dX12_fault_52 : decode cX12_fault 52 = .ok (.aload_n 0, 1) := by decide +kernel
theorem dX12_fault_53 : decode cX12_fault 53 = .ok (.getfield 47, 3) := by decide +kernel
theorem dX12_fault_56 : decode cX12_fault 56 = .ok (.iload_n 1, 1) := by decide +kernel
theorem dX12_fault_57 : decode cX12_fault 57 = .ok (.iconst 0, 1) := by decide +kernel
theorem dX12_fault_58 : decode cX12_fault 58 = .ok (.iastore, 1) := by decide +kernel
theorem dX12_fault_59 : decode cX12_fault 59 = .ok (.iinc 1 1, 3) := by decide +kernel
theorem dX12_fault_62 : decode cX12_fault 62 = .ok (.goto (-16), 3) := by decide +kernel
theorem dX12_fault_65 : decode cX12_fault 65 = .ok (.aload_n 0, 1) := by decide +kernel
theorem dX12_fault_66 : decode cX12_fault 66 = .ok (.invokevirtual 95, 3) := by decide +kernel
theorem dX12_fault_69 : decode cX12_fault 69 = .ok (.iconst 1, 1) := by decide +kernel
theorem dX12_fault_70 : decode cX12_fault 70 = .ok (.istore_n 1, 1) := by decide +kernel
theorem dX12_fault_71 : decode cX12_fault 71 = .ok (.iload_n 1, 1) := by decide +kernel
theorem dX12_fault_72 : decode cX12_fault 72 = .ok (.ifCond .eq 22, 3) := by decide +kernel
theorem dX12_fault_75 : decode cX12_fault 75 = .ok (.aload_n 0, 1) := by decide +kernel
theorem dX12_fault_76 : decode cX12_fault 76 = .ok (.getfield 81, 3) := by decide +kernel
theorem dX12_fault_79 : decode cX12_fault 79 = .ok (.aload_n 0, 1) := by decide +kernel
theorem dX12_fault_80 : decode cX12_fault 80 = .ok (.getfield 72, 3) := by decide +kernel
theorem dX12_fault_83 : decode cX12_fault 83 = .ok (.if_icmp .ge 11, 3) := by decide +kernel
theorem dX12_fault_86 : decode cX12_fault 86 = .ok (.aload_n 0, 1) := by decide +kernel
theorem dX12_fault_87 : decode cX12_fault 87 = .ok (.invokevirtual 137, 3) := by decide +kernel
theorem dX12_fault_90 : decode cX12_fault 90 = .ok (.istore_n 1, 1) := by decide +kernel
theorem dX12_fault_91 : decode cX12_fault 91 = .ok (.goto (-20), 3) := by decide +kernel
theorem dX12_fault_94 : decode cX12_fault 94 = .ok (.iload_n 1, 1) := by decide +kernel
theorem dX12_fault_95 : decode cX12_fault 95 = .ok (.ifCond .eq 8, 3) := by decide +kernel
theorem dX12_fault_98 : decode cX12_fault 98 = .ok (.bipush (-9), 2) := by decide +kernel
theorem dX12_fault_100 : decode cX12_fault 100 = .ok (.goto 7, 3) := by decide +kernel
theorem dX12_fault_103 : decode cX12_fault 103 = .ok (.aload_n 0, 1) := by decide +kernel
theorem dX12_fault_104 : decode cX12_fault 104 = .ok (.getfield 81, 3) := by decide +kernel
theorem dX12_fault_107 : decode cX12_fault 107 = .ok (.ireturn, 1) := by decide +kernel
set_option maxRecDepth 20000 in
theorem ggX12_city_X12_fault : GoodIn wsX12_city wsX12_fault := goodIn_r _ [29, 30, 24, 1, 3, 7, 5, 10, 14, 31, 23, 32, 33, 34, 28, 35, 36, 37, 38, 39, 40, 41, 42, 43, 44, 45, 46, 47, 48, 49, 50, 51, 52, 53, 12, 54, 55, 56, 57, 58, 59, 60, 61, 62, 63, 64, 65, 66, 67, 68, 69, 70, 71, 72, 73, 74, 75, 76, 77, 78, 79, 80, 81, 82, 83, 84, 16, 85, 86, 87, 88, 89, 90, 91, 92, 93, 94, 95, 96, 97, 98, 99, 100, 101, 102, 103, 104, 105, 106, 107, 108, 109, 110, 111, 112, 113, 114, 115, 116, 117, 118, 119, 120] (by decide +kernel) (by decide +kernel)
set_option maxRecDepth 20000 in
theorem gX12_city_X12_fault : GoodIn wsX12_city (wsV RX12 140 RX12 yX12_fault wsX12_fault) := goodIn_app (goodIn_of _ (by decide +kernel)) ggX12_city_X12_fault
set_option maxRecDepth 20000 in
theorem ggX12_city_X12_in : GoodIn wsX12_city wsX12_in := goodIn_r _ [60] (by decide +kernel) (by decide +kernel)
set_option maxRecDepth 20000 in
theorem gX12_city_X12_in : GoodIn wsX12_city (va_wsS RX12 68 yX12_in wsX12_in) := goodIn_app (goodIn_of _ (by decide +kernel)) ggX12_city_X12_in
theorem dX12_city_0 : decode cX12_city 0 = .ok (.aload_n 0, 1) := by decide +kernel
theorem dX12_city_1 : decode cX12_city 1 = .ok (.invokevirtual 140, 3) := by decide +kernel
theorem dX12_city_4 : decode cX12_city 4 = .ok (.istore_n 1, 1) := by decide +kernel
theorem dX12_city_5 : decode cX12_city 5 = .ok (.iload_n 1, 1) := by decide +kernel
theorem dX12_city_6 : decode cX12_city 6 = .ok (.bipush (-9), 2) := by decide +kernel
theorem dX12_city_8 : decode cX12_city 8 = .ok (.if_icmp .eq 8, 3) := by decide +kernel
theorem dX12_city_11 : decode cX12_city 11 = .ok (.bipush (-10), 2) := by decide +kernel
theorem dX12_city_13 : decode cX12_city 13 = .ok (.iload_n 1, 1) := by decide +kernel
theorem dX12_city_14 : decode cX12_city 14 = .ok (.isub, 1) := by decide +kernel
theorem dX12_city_15 : decode cX12_city 15 = .ok (.ireturn, 1) := by decide +kernel
theorem dX12_city_16 : decode cX12_city 16 = .ok (.aload_n 0, 1) := by decide +kernel
theorem dX12_city_17 : decode cX12_city 17 = .ok (.aload_n 0, 1) := by decide +kernel
theorem dX12_city_18 : decode cX12_city 18 = .ok (.getfield 98, 3) := by decide +kernel
theorem dX12_city_21 : decode cX12_city 21 = .ok (.putfield 143, 3) := by decide +kernel
theorem dX12_city_24 : decode cX12_city 24 = .ok (.aload_n 0, 1) := by decide +kernel
theorem dX12_city_25 : decode cX12_city 25 = .ok (.aload_n 0, 1) := by decide +kernel
theorem dX12_city_26 : decode cX12_city 26 = .ok (.getfield 101, 3) := by decide +kernel
theorem dX12_city_29 : decode cX12_city 29 = .ok (.putfield 146, 3) := by decide +kernel
theorem dX12_city_32 : decode cX12_city 32 = .ok (.aload_n 0, 1) := by decide +kernel
theorem dX12_city_33 : decode cX12_city 33 = .ok (.aload_n 0, 1) := by decide +kernel
theorem dX12_city_34 : decode cX12_city 34 = .ok (.getfield 119, 3) := by decide +kernel
theorem dX12_city_37 : decode cX12_city 37 = .ok (.putfield 149, 3) := by decide +kernel
theorem dX12_city_40 : decode cX12_city 40 = .ok (.aload_n 0, 1) := by decide +kernel
theorem dX12_city_41 : decode cX12_city 41 = .ok (.aload_n 0, 1) := by decide +kernel
theorem dX12_city_42 : decode cX12_city 42 = .ok (.getfield 116, 3) := by decide +kernel
theorem dX12_city_45 : decode cX12_city 45 = .ok (.putfield 152, 3) := by decide +kernel
theorem dX12_city_48 : decode cX12_city 48 = .ok (.aload_n 0, 1) := by decide +kernel
theorem dX12_city_49 : decode cX12_city 49 = .ok (.getfield 26, 3) := by decide +kernel
theorem dX12_city_52 : decode cX12_city 52 = .ok (.iconst 0, 1) := by decide +kernel
theorem dX12_city_53 : decode cX12_city 53 = .ok (.aload_n 0, 1) := by decide +kernel
theorem dX12_city_54 : decode cX12_city 54 = .ok (.getfield 44, 3) := by decide +kernel
theorem dX12_city_57 : decode cX12_city 57 = .ok (.iconst 0, 1) := by decide +kernel
theorem dX12_city_58 : decode cX12_city 58 = .ok (.iaload, 1) := by decide +kernel
theorem dX12_city_59 : decode cX12_city 59 = .ok (.iastore, 1) := by decide +kernel
theorem dX12_city_60 : decode cX12_city 60 = .ok (.aload_n 0, 1) := by decide +kernel
theorem dX12_city_61 : decode cX12_city 61 = .ok (.getfield 26, 3) := by decide +kernel
theorem dX12_city_64 : decode cX12_city 64 = .ok (.iconst 1, 1) := by decide +kernel
theorem dX12_city_65 : decode cX12_city 65 = .ok (.aload_n 0, 1) := by decide +kernel
theorem dX12_city_66 : decode cX12_city 66 = .ok (.getfield 44, 3) := by decide +kernel
theorem dX12_city_69 : decode cX12_city 69 = .ok (.iconst 1, 1) := by decide +kernel
theorem dX12_city_70 : decode cX12_city 70 = .ok (.iaload, 1) := by decide +kernel
theorem dX12_city_71 : decode cX12_city 71 = .ok (.iastore, 1) := by decide +kernel
theorem dX12_city_72 : decode cX12_city 72 = .ok (.iconst 0, 1) := by decide +kernel
theorem dX12_city_73 : decode cX12_city 73 = .ok (.istore_n 2, 1) := by decide +kernel
theorem dX12_city_74 : decode cX12_city 74 = .ok (.iload_n 2, 1) := by decide +kernel
theorem dX12_city_75 : decode cX12_city 75 = .ok (.bipush 30, 2) := by decide +kernel
theorem dX12_city_77 : decode cX12_city 77 = .ok (.if_icmp .ge 50, 3) := by decide +kernel
theorem dX12_city_80 : decode cX12_city 80 = .ok (.aload_n 0, 1) := by decide +kernel
theorem dX12_city_81 : decode cX12_city 81 = .ok (.getfield 20, 3) := by decide +kernel
theorem dX12_city_84 : decode cX12_city 84 = .ok (.iload_n 2, 1) := by decide +kernel
theorem dX12_city_85 : decode cX12_city 85 = .ok (.iload_n 2, 1) := by decide +kernel
theorem dX12_city_86 : decode cX12_city 86 = .ok (.aload_n 0, 1) := by decide +kernel
theorem dX12_city_87 : decode cX12_city 87 = .ok (.getfield 143, 3) := by decide +kernel
theorem dX12_city_90 : decode cX12_city 90 = .ok (.aload_n 0, 1) := by decide +kernel
theorem dX12_city_91 : decode cX12_city 91 = .ok (.getfield 146, 3) := by decide +kernel
theorem dX12_city_94 : decode cX12_city 94 = .ok (.imul, 1) := by decide +kernel
theorem dX12_city_95 : decode cX12_city 95 = .ok (.if_icmp .ge 12, 3) := by decide +kernel
theorem dX12_city_98 : decode cX12_city 98 = .ok (.aload_n 0, 1) := by decide +kernel
theorem dX12_city_99 : decode cX12_city 99 = .ok (.getfield 41, 3) := by decide +kernel
theorem dX12_city_102 : decode cX12_city 102 = .ok (.iload_n 2, 1) := by decide +kernel
theorem dX12_city_103 : decode cX12_city 103 = .ok (.iaload, 1) := by decide +kernel
theorem dX12_city_104 : decode cX12_city 104 = .ok (.goto 4, 3) := by decide +kernel
theorem dX12_city_107 : decode cX12_city 107 = .ok (.iconst 0, 1) := by decide +kernel
theorem dX12_city_108 : decode cX12_city 108 = .ok (.iastore, 1) := by decide +kernel
theorem dX12_city_109 : decode cX12_city 109 = .ok (.aload_n 0, 1) := by decide +kernel
theorem dX12_city_110 : decode cX12_city 110 = .ok (.getfield 23, 3) := by decide +kernel
theorem dX12_city_113 : decode cX12_city 113 = .ok (.iload_n 2, 1) := by decide +kernel
theorem dX12_city_114 : decode cX12_city 114 = .ok (.aload_n 0, 1) := by decide +kernel
theorem dX12_city_115 : decode cX12_city 115 = .ok (.getfield 47, 3) := by decide +kernel
theorem dX12_city_118 : decode cX12_city 118 = .ok (.iload_n 2, 1) := by decide +kernel
theorem dX12_city_119 : decode cX12_city 119 = .ok (.iaload, 1) := by decide +kernel
theorem dX12_city_120 : decode cX12_city 120 = .ok (.iastore, 1) := by decide +kernel
theorem dX12_city_121 : decode cX12_city 121 = .ok (.iinc 2 1, 3) := by decide +kernel
theorem dX12_city_124 : decode cX12_city 124 = .ok (.goto (-50), 3) := by decide +kernel
theorem dX12_city_127 : decode cX12_city 127 = .ok (.iconst 0, 1) := by decide +kernel
theorem dX12_city_128 : decode cX12_city 128 = .ok (.istore_n 2, 1) := by decide +kernel
theorem dX12_city_129 : decode cX12_city 129 = .ok (.iload_n 2, 1) := by decide +kernel
theorem dX12_city_130 : decode cX12_city 130 = .ok (.aload_n 0, 1) := by decide +kernel
theorem dX12_city_131 : decode cX12_city 131 = .ok (.getfield 149, 3) := by decide +kernel
theorem dX12_city_134 : decode cX12_city 134 = .ok (.if_icmp .ge 55, 3) := by decide +kernel
theorem dX12_city_137 : decode cX12_city 137 = .ok (.aload_n 0, 1) := by decide +kernel
theorem dX12_city_138 : decode cX12_city 138 = .ok (.getfield 29, 3) := by decide +kernel
theorem dX12_city_141 : decode cX12_city 141 = .ok (.iload_n 2, 1) := by decide +kernel
theorem dX12_city_142 : decode cX12_city 142 = .ok (.aload_n 0, 1) := by decide +kernel
theorem dX12_city_143 : decode cX12_city 143 = .ok (.getfield 50, 3) := by decide +kernel
theorem dX12_city_146 : decode cX12_city 146 = .ok (.iconst 3, 1) := by decide +kernel
theorem dX12_city_147 : decode cX12_city 147 = .ok (.iload_n 2, 1) := by decide +kernel
theorem dX12_city_148 : decode cX12_city 148 = .ok (.imul, 1) := by decide +kernel
theorem dX12_city_149 : decode cX12_city 149 = .ok (.iaload, 1) := by decide +kernel
theorem dX12_city_150 : decode cX12_city 150 = .ok (.iastore, 1) := by decide +kernel
theorem dX12_city_151 : decode cX12_city 151 = .ok (.aload_n 0, 1) := by decide +kernel
theorem dX12_city_152 : decode cX12_city 152 = .ok (.getfield 32, 3) := by decide +kernel
theorem dX12_city_155 : decode cX12_city 155 = .ok (.iload_n 2, 1) := by decide +kernel
theorem dX12_city_156 : decode cX12_city 156 = .ok (.aload_n 0, 1) := by decide +kernel
theorem dX12_city_157 : decode cX12_city 157 = .ok (.getfield 50, 3) := by decide +kernel
theorem dX12_city_160 : decode cX12_city 160 = .ok (.iconst 3, 1) := by decide +kernel
theorem dX12_city_161 : decode cX12_city 161 = .ok (.iload_n 2, 1) := by decide +kernel
theorem dX12_city_162 : decode cX12_city 162 = .ok (.imul, 1) := by decide +kernel
theorem dX12_city_163 : decode cX12_city 163 = .ok (.iconst 1, 1) := by decide +kernel
theorem dX12_city_164 : decode cX12_city 164 = .ok (.iadd, 1) := by decide +kernel
theorem dX12_city_165 : decode cX12_city 165 = .ok (.iaload, 1) := by decide +kernel
theorem dX12_city_166 : decode cX12_city 166 = .ok (.iastore, 1) := by decide +kernel
theorem dX12_city_167 : decode cX12_city 167 = .ok (.aload_n 0, 1) := by decide +kernel
theorem dX12_city_168 : decode cX12_city 168 = .ok (.getfield 35, 3) := by decide +kernel
theorem dX12_city_171 : decode cX12_city 171 = .ok (.iload_n 2, 1) := by decide +kernel
theorem dX12_city_172 : decode cX12_city 172 = .ok (.aload_n 0, 1) := by decide +kernel
theorem dX12_city_173 : decode cX12_city 173 = .ok (.getfield 50, 3) := by decide +kernel
theorem dX12_city_176 : decode cX12_city 176 = .ok (.iconst 3, 1) := by decide +kernel
theorem dX12_city_177 : decode cX12_city 177 = .ok (.iload_n 2, 1) := by decide +kernel
theorem dX12_city_178 : decode cX12_city 178 = .ok (.imul, 1) := by decide +kernel
theorem dX12_city_179 : decode cX12_city 179 = .ok (.iconst 2, 1) := by decide +kernel
theorem dX12_city_180 : decode cX12_city 180 = .ok (.iadd, 1) := by decide +kernel
theorem dX12_city_181 : decode cX12_city 181 = .ok (.iaload, 1) := by decide +kernel
theorem dX12_city_182 : decode cX12_city 182 = .ok (.iastore, 1) := by decide +kernel
theorem dX12_city_183 : decode cX12_city 183 = .ok (.iinc 2 1, 3) := by decide +kernel
theorem dX12_city_186 : decode cX12_city 186 = .ok (.goto (-57), 3) := by decide +kernel
theorem dX12_city_189 : decode cX12_city 189 = .ok (.iconst 0, 1) := by decide +kernel
theorem dX12_city_190 : decode cX12_city 190 = .ok (.istore_n 2, 1) := by decide +kernel
theorem dX12_city_191 : decode cX12_city 191 = .ok (.iload_n 2, 1) := by decide +kernel
theorem dX12_city_192 : decode cX12_city 192 = .ok (.sipush 1673, 3) := by decide +kernel
theorem dX12_city_195 : decode cX12_city 195 = .ok (.if_icmp .ge 39, 3) := by decide +kernel
theorem dX12_city_198 : decode cX12_city 198 = .ok (.aload_n 0, 1) := by decide +kernel
theorem dX12_city_199 : decode cX12_city 199 = .ok (.getfield 7, 3) := by decide +kernel
theorem dX12_city_202 : decode cX12_city 202 = .ok (.iload_n 2, 1) := by decide +kernel
theorem dX12_city_203 : decode cX12_city 203 = .ok (.iload_n 2, 1) := by decide +kernel
theorem dX12_city_204 : decode cX12_city 204 = .ok (.i2l, 1) := by decide +kernel
theorem dX12_city_205 : decode cX12_city 205 = .ok (.lconst 1, 1) := by decide +kernel
theorem dX12_city_206 : decode cX12_city 206 = .ok (.ldc2_w 155, 3) := by decide +kernel
theorem dX12_city_209 : decode cX12_city 209 = .ok (.invokestatic 68, 3) := by decide +kernel
theorem dX12_city_212 : decode cX12_city 212 = .ok (.ifCond .eq 14, 3) := by decide +kernel
theorem dX12_city_215 : decode cX12_city 215 = .ok (.aload_n 0, 1) := by decide +kernel
theorem dX12_city_216 : decode cX12_city 216 = .ok (.getfield 20, 3) := by decide +kernel
theorem dX12_city_219 : decode cX12_city 219 = .ok (.iload_n 2, 1) := by decide +kernel
theorem dX12_city_220 : decode cX12_city 220 = .ok (.iconst 1, 1) := by decide +kernel
theorem dX12_city_221 : decode cX12_city 221 = .ok (.isub, 1) := by decide +kernel
theorem dX12_city_222 : decode cX12_city 222 = .ok (.iaload, 1) := by decide +kernel
theorem dX12_city_223 : decode cX12_city 223 = .ok (.goto 4, 3) := by decide +kernel
theorem dX12_city_226 : decode cX12_city 226 = .ok (.iconst 0, 1) := by decide +kernel
theorem dX12_city_227 : decode cX12_city 227 = .ok (.iastore, 1) := by decide +kernel
theorem dX12_city_228 : decode cX12_city 228 = .ok (.iinc 2 1, 3) := by decide +kernel
theorem dX12_city_231 : decode cX12_city 231 = .ok (.goto (-40), 3) := by decide +kernel
theorem dX12_city_234 : decode cX12_city 234 = .ok (.aload_n 0, 1) := by decide +kernel
theorem dX12_city_235 : decode cX12_city 235 = .ok (.getfield 13, 3) := by decide +kernel
theorem dX12_city_238 : decode cX12_city 238 = .ok (.iconst 0, 1) := by decide +kernel
theorem dX12_city_239 : decode cX12_city 239 = .ok (.iconst 0, 1) := by decide +kernel
theorem dX12_city_240 : decode cX12_city 240 = .ok (.bastore, 1) := by decide +kernel
theorem dX12_city_241 : decode cX12_city 241 = .ok (.aload_n 0, 1) := by decide +kernel
theorem dX12_city_242 : decode cX12_city 242 = .ok (.getfield 13, 3) := by decide +kernel
theorem dX12_city_245 : decode cX12_city 245 = .ok (.iconst 1, 1) := by decide +kernel
theorem dX12_city_246 : decode cX12_city 246 = .ok (.iconst 0, 1) := by decide +kernel
theorem dX12_city_247 : decode cX12_city 247 = .ok (.bastore, 1) := by decide +kernel
theorem dX12_city_248 : decode cX12_city 248 = .ok (.aload_n 0, 1) := by decide +kernel
theorem dX12_city_249 : decode cX12_city 249 = .ok (.iconst 0, 1) := by decide +kernel
theorem dX12_city_250 : decode cX12_city 250 = .ok (.putfield 157, 3) := by decide +kernel
theorem dX12_city_253 : decode cX12_city 253 = .ok (.aload_n 0, 1) := by decide +kernel
theorem dX12_city_254 : decode cX12_city 254 = .ok (.iconst 0, 1) := by decide +kernel
theorem dX12_city_255 : decode cX12_city 255 = .ok (.putfield 72, 3) := by decide +kernel
theorem dX12_city_258 : decode cX12_city 258 = .ok (.aload_n 0, 1) := by decide +kernel
theorem dX12_city_259 : decode cX12_city 259 = .ok (.getfield 122, 3) := by decide +kernel
theorem dX12_city_262 : decode cX12_city 262 = .ok (.ireturn, 1) := by decide +kernel
set_option maxRecDepth 20000 in
theorem ggX12_isCell_X12_in : GoodIn wsX12_isCell wsX12_in := goodIn_r _ [6] (by decide +kernel) (by decide +kernel)
set_option maxRecDepth 20000 in
theorem gX12_isCell_X12_in : GoodIn wsX12_isCell (va_wsS RX12 68 yX12_in wsX12_in) := goodIn_app (goodIn_of _ (by decide +kernel)) ggX12_isCell_X12_in
theorem dX12_isCell_0 : decode cX12_isCell 0 = .ok (.iload_n 1, 1) := by decide +kernel
theorem dX12_isCell_1 : decode cX12_isCell 1 = .ok (.i2l, 1) := by decide +kernel
theorem dX12_isCell_2 : decode cX12_isCell 2 = .ok (.lconst 0, 1) := by decide +kernel
theorem dX12_isCell_3 : decode cX12_isCell 3 = .ok (.aload_n 0, 1) := by decide +kernel
theorem dX12_isCell_4 : decode cX12_isCell 4 = .ok (.getfield 143, 3) := by decide +kernel
theorem dX12_isCell_7 : decode cX12_isCell 7 = .ok (.iconst 1, 1) := by decide +kernel
theorem dX12_isCell_8 : decode cX12_isCell 8 = .ok (.isub, 1) := by decide +kernel
theorem dX12_isCell_9 : decode cX12_isCell 9 = .ok (.i2l, 1) := by decide +kernel
theorem dX12_isCell_10 : decode cX12_isCell 10 = .ok (.invokestatic 68, 3) := by decide +kernel
theorem dX12_isCell_13 : decode cX12_isCell 13 = .ok (.ifCond .eq 23, 3) := by decide +kernel
theorem dX12_isCell_16 : decode cX12_isCell 16 = .ok (.iload_n 2, 1) := by decide +kernel
theorem dX12_isCell_17 : decode cX12_isCell 17 = .ok (.i2l, 1) := by decide +kernel
theorem dX12_isCell_18 : decode cX12_isCell 18 = .ok (.lconst 0, 1) := by decide +kernel
theorem dX12_isCell_19 : decode cX12_isCell 19 = .ok (.aload_n 0, 1) := by decide +kernel
theorem dX12_isCell_20 : decode cX12_isCell 20 = .ok (.getfield 146, 3) := by decide +kernel
theorem dX12_isCell_23 : decode cX12_isCell 23 = .ok (.iconst 1, 1) := by decide +kernel
theorem dX12_isCell_24 : decode cX12_isCell 24 = .ok (.isub, 1) := by decide +kernel
theorem dX12_isCell_25 : decode cX12_isCell 25 = .ok (.i2l, 1) := by decide +kernel
theorem dX12_isCell_26 : decode cX12_isCell 26 = .ok (.invokestatic 68, 3) := by decide +kernel
theorem dX12_isCell_29 : decode cX12_isCell 29 = .ok (.ifCond .eq 7, 3) := by decide +kernel
theorem dX12_isCell_32 : decode cX12_isCell 32 = .ok (.iconst 1, 1) := by decide +kernel
theorem dX12_isCell_33 : decode cX12_isCell 33 = .ok (.goto 4, 3) := by decide +kernel
theorem dX12_isCell_36 : decode cX12_isCell 36 = .ok (.iconst 0, 1) := by decide +kernel
theorem dX12_isCell_37 : decode cX12_isCell 37 = .ok (.ireturn, 1) := by decide +kernel
theorem dX12_bit_0 : decode cX12_bit 0 = .ok (.aload_n 0, 1) := by decide +kernel
theorem dX12_bit_1 : decode cX12_bit 1 = .ok (.getfield 143, 3) := by decide +kernel
theorem dX12_bit_4 : decode cX12_bit 4 = .ok (.iload_n 2, 1) := by decide +kernel
theorem dX12_bit_5 : decode cX12_bit 5 = .ok (.imul, 1) := by decide +kernel
theorem dX12_bit_6 : decode cX12_bit 6 = .ok (.iload_n 1, 1) := by decide +kernel
theorem dX12_bit_7 : decode cX12_bit 7 = .ok (.iadd, 1) := by decide +kernel
theorem dX12_bit_8 : decode cX12_bit 8 = .ok (.ireturn, 1) := by decide +kernel
theorem dX12_cells_0 : decode cX12_cells 0 = .ok (.aload_n 0, 1) := by decide +kernel
theorem dX12_cells_1 : decode cX12_cells 1 = .ok (.getfield 143, 3) := by decide +kernel
theorem dX12_cells_4 : decode cX12_cells 4 = .ok (.aload_n 0, 1) := by decide +kernel
theorem dX12_cells_5 : decode cX12_cells 5 = .ok (.getfield 146, 3) := by decide +kernel
theorem dX12_cells_8 : decode cX12_cells 8 = .ok (.imul, 1) := by decide +kernel
theorem dX12_cells_9 : decode cX12_cells 9 = .ok (.ireturn, 1) := by decide +kernel
theorem dX12_pairOf_0 : decode cX12_pairOf 0 = .ok (.bipush 10, 2) := by decide +kernel
theorem dX12_pairOf_2 : decode cX12_pairOf 2 = .ok (.iload_n 1, 1) := by decide +kernel
theorem dX12_pairOf_3 : decode cX12_pairOf 3 = .ok (.aload_n 0, 1) := by decide +kernel
theorem dX12_pairOf_4 : decode cX12_pairOf 4 = .ok (.getfield 143, 3) := by decide +kernel
theorem dX12_pairOf_7 : decode cX12_pairOf 7 = .ok (.irem, 1) := by decide +kernel
theorem dX12_pairOf_8 : decode cX12_pairOf 8 = .ok (.imul, 1) := by decide +kernel
theorem dX12_pairOf_9 : decode cX12_pairOf 9 = .ok (.iload_n 1, 1) := by decide +kernel
theorem dX12_pairOf_10 : decode cX12_pairOf 10 = .ok (.aload_n 0, 1) := by decide +kernel
theorem dX12_pairOf_11 : decode cX12_pairOf 11 = .ok (.getfield 143, 3) := by decide +kernel
theorem dX12_pairOf_14 : decode cX12_pairOf 14 = .ok (.idiv, 1) := by decide +kernel
theorem dX12_pairOf_15 : decode cX12_pairOf 15 = .ok (.iadd, 1) := by decide +kernel
theorem dX12_pairOf_16 : decode cX12_pairOf 16 = .ok (.ireturn, 1) := by decide +kernel
set_option maxRecDepth 20000 in
theorem ggX12_isPair_X12_isCell : GoodIn wsX12_isPair wsX12_isCell := goodIn_r _ [5, 6, 7, 8, 9, 4, 10, 11, 12, 13, 14, 15, 16, 17, 18, 19, 20, 21, 22, 23, 24, 25, 26, 27, 28, 29, 30, 31, 32, 33, 34, 35, 36, 37, 38, 39, 40, 41, 42, 43, 44, 45, 46] (by decide +kernel) (by decide +kernel)
set_option maxRecDepth 20000 in
theorem gX12_isPair_X12_isCell : GoodIn wsX12_isPair (wsV RX12 160 RX12 yX12_isCell wsX12_isCell) := goodIn_app (goodIn_of _ (by decide +kernel)) ggX12_isPair_X12_isCell
theorem dX12_isPair_0 : decode cX12_isPair 0 = .ok (.iload_n 1, 1) := by decide +kernel
theorem dX12_isPair_1 : decode cX12_isPair 1 = .ok (.ifCond .lt 22, 3) := by decide +kernel
theorem dX12_isPair_4 : decode cX12_isPair 4 = .ok (.aload_n 0, 1) := by decide +kernel
theorem dX12_isPair_5 : decode cX12_isPair 5 = .ok (.iload_n 1, 1) := by decide +kernel
theorem dX12_isPair_6 : decode cX12_isPair 6 = .ok (.bipush 10, 2) := by decide +kernel
theorem dX12_isPair_8 : decode cX12_isPair 8 = .ok (.idiv, 1) := by decide +kernel
theorem dX12_isPair_9 : decode cX12_isPair 9 = .ok (.iload_n 1, 1) := by decide +kernel
theorem dX12_isPair_10 : decode cX12_isPair 10 = .ok (.bipush 10, 2) := by decide +kernel
theorem dX12_isPair_12 : decode cX12_isPair 12 = .ok (.irem, 1) := by decide +kernel
theorem dX12_isPair_13 : decode cX12_isPair 13 = .ok (.invokevirtual 160, 3) := by decide +kernel
theorem dX12_isPair_16 : decode cX12_isPair 16 = .ok (.ifCond .eq 7, 3) := by decide +kernel
theorem dX12_isPair_19 : decode cX12_isPair 19 = .ok (.iconst 1, 1) := by decide +kernel
theorem dX12_isPair_20 : decode cX12_isPair 20 = .ok (.goto 4, 3) := by decide +kernel
theorem dX12_isPair_23 : decode cX12_isPair 23 = .ok (.iconst 0, 1) := by decide +kernel
theorem dX12_isPair_24 : decode cX12_isPair 24 = .ok (.ireturn, 1) := by decide +kernel
set_option maxRecDepth 20000 in
theorem ggX12_bitOf_X12_bit : GoodIn wsX12_bitOf wsX12_bit := goodIn_r _ [5, 6, 7, 8, 9, 10, 11, 12, 13, 14, 15, 16, 17, 18, 19, 20, 21, 22, 23, 24, 25, 26, 27, 28, 29, 30, 31, 32, 33, 34, 35, 36, 37, 38, 39, 40, 41, 42] (by decide +kernel) (by decide +kernel)
set_option maxRecDepth 20000 in
theorem gX12_bitOf_X12_bit : GoodIn wsX12_bitOf (wsV RX12 164 RX12 yX12_bit wsX12_bit) := goodIn_app (goodIn_of _ (by decide +kernel)) ggX12_bitOf_X12_bit
theorem dX12_bitOf_0 : decode cX12_bitOf 0 = .ok (.aload_n 0, 1) := by decide +kernel
theorem dX12_bitOf_1 : decode cX12_bitOf 1 = .ok (.iload_n 1, 1) := by decide +kernel
theorem dX12_bitOf_2 : decode cX12_bitOf 2 = .ok (.bipush 10, 2) := by decide +kernel
theorem dX12_bitOf_4 : decode cX12_bitOf 4 = .ok (.idiv, 1) := by decide +kernel
theorem dX12_bitOf_5 : decode cX12_bitOf 5 = .ok (.iload_n 1, 1) := by decide +kernel
theorem dX12_bitOf_6 : decode cX12_bitOf 6 = .ok (.bipush 10, 2) := by decide +kernel
theorem dX12_bitOf_8 : decode cX12_bitOf 8 = .ok (.irem, 1) := by decide +kernel
theorem dX12_bitOf_9 : decode cX12_bitOf 9 = .ok (.invokevirtual 164, 3) := by decide +kernel
theorem dX12_bitOf_12 : decode cX12_bitOf 12 = .ok (.ireturn, 1) := by decide +kernel
set_option maxRecDepth 20000 in
theorem ggX12_isKind_X12_in : GoodIn wsX12_isKind wsX12_in := goodIn_r _ [5] (by decide +kernel) (by decide +kernel)
set_option maxRecDepth 20000 in
theorem gX12_isKind_X12_in : GoodIn wsX12_isKind (va_wsS RX12 68 yX12_in wsX12_in) := goodIn_app (goodIn_of _ (by decide +kernel)) ggX12_isKind_X12_in
theorem dX12_isKind_0 : decode cX12_isKind 0 = .ok (.iload_n 1, 1) := by decide +kernel
theorem dX12_isKind_1 : decode cX12_isKind 1 = .ok (.i2l, 1) := by decide +kernel
theorem dX12_isKind_2 : decode cX12_isKind 2 = .ok (.lconst 0, 1) := by decide +kernel
theorem dX12_isKind_3 : decode cX12_isKind 3 = .ok (.aload_n 0, 1) := by decide +kernel
theorem dX12_isKind_4 : decode cX12_isKind 4 = .ok (.getfield 149, 3) := by decide +kernel
theorem dX12_isKind_7 : decode cX12_isKind 7 = .ok (.iconst 1, 1) := by decide +kernel
theorem dX12_isKind_8 : decode cX12_isKind 8 = .ok (.isub, 1) := by decide +kernel
theorem dX12_isKind_9 : decode cX12_isKind 9 = .ok (.i2l, 1) := by decide +kernel
theorem dX12_isKind_10 : decode cX12_isKind 10 = .ok (.invokestatic 68, 3) := by decide +kernel
theorem dX12_isKind_13 : decode cX12_isKind 13 = .ok (.ireturn, 1) := by decide +kernel
theorem dX12_isPlank_0 : decode cX12_isPlank 0 = .ok (.aload_n 0, 1) := by decide +kernel
theorem dX12_isPlank_1 : decode cX12_isPlank 1 = .ok (.getfield 7, 3) := by decide +kernel
theorem dX12_isPlank_4 : decode cX12_isPlank 4 = .ok (.bipush 31, 2) := by decide +kernel
theorem dX12_isPlank_6 : decode cX12_isPlank 6 = .ok (.iload_n 1, 1) := by decide +kernel
theorem dX12_isPlank_7 : decode cX12_isPlank 7 = .ok (.iconst 2, 1) := by decide +kernel
theorem dX12_isPlank_8 : decode cX12_isPlank 8 = .ok (.idiv, 1) := by decide +kernel
theorem dX12_isPlank_9 : decode cX12_isPlank 9 = .ok (.iadd, 1) := by decide +kernel
theorem dX12_isPlank_10 : decode cX12_isPlank 10 = .ok (.iaload, 1) := by decide +kernel
theorem dX12_isPlank_11 : decode cX12_isPlank 11 = .ok (.bipush 20, 2) := by decide +kernel
theorem dX12_isPlank_13 : decode cX12_isPlank 13 = .ok (.iload_n 1, 1) := by decide +kernel
theorem dX12_isPlank_14 : decode cX12_isPlank 14 = .ok (.iconst 2, 1) := by decide +kernel
theorem dX12_isPlank_15 : decode cX12_isPlank 15 = .ok (.irem, 1) := by decide +kernel
theorem dX12_isPlank_16 : decode cX12_isPlank 16 = .ok (.iadd, 1) := by decide +kernel
theorem dX12_isPlank_17 : decode cX12_isPlank 17 = .ok (.ishr, 1) := by decide +kernel
theorem dX12_isPlank_18 : decode cX12_isPlank 18 = .ok (.iconst 1, 1) := by decide +kernel
theorem dX12_isPlank_19 : decode cX12_isPlank 19 = .ok (.iand, 1) := by decide +kernel
theorem dX12_isPlank_20 : decode cX12_isPlank 20 = .ok (.iconst 1, 1) := by decide +kernel
theorem dX12_isPlank_21 : decode cX12_isPlank 21 = .ok (.if_icmp .ne 7, 3) := by decide +kernel
theorem dX12_isPlank_24 : decode cX12_isPlank 24 = .ok (.iconst 1, 1) := by decide +kernel
theorem dX12_isPlank_25 : decode cX12_isPlank 25 = .ok (.goto 4, 3) := by decide +kernel
theorem dX12_isPlank_28 : decode cX12_isPlank 28 = .ok (.iconst 0, 1) := by decide +kernel
theorem dX12_isPlank_29 : decode cX12_isPlank 29 = .ok (.ireturn, 1) := by decide +kernel
theorem dX12_setPlank_0 : decode cX12_setPlank 0 = .ok (.aload_n 0, 1) := by decide +kernel
theorem dX12_setPlank_1 : decode cX12_setPlank 1 = .ok (.getfield 7, 3) := by decide +kernel
theorem dX12_setPlank_4 : decode cX12_setPlank 4 = .ok (.bipush 31, 2) := by decide +kernel
theorem dX12_setPlank_6 : decode cX12_setPlank 6 = .ok (.iload_n 1, 1) := by decide +kernel
theorem dX12_setPlank_7 : decode cX12_setPlank 7 = .ok (.iconst 2, 1) := by decide +kernel
theorem dX12_setPlank_8 : decode cX12_setPlank 8 = .ok (.idiv, 1) := by decide +kernel
theorem dX12_setPlank_9 : decode cX12_setPlank 9 = .ok (.iadd, 1) := by decide +kernel
theorem dX12_setPlank_10 : decode cX12_setPlank 10 = .ok (.dup2, 1) := by decide +kernel
theorem dX12_setPlank_11 : decode cX12_setPlank 11 = .ok (.iaload, 1) := by decide +kernel
theorem dX12_setPlank_12 : decode cX12_setPlank 12 = .ok (.iconst 1, 1) := by decide +kernel
theorem dX12_setPlank_13 : decode cX12_setPlank 13 = .ok (.bipush 20, 2) := by decide +kernel
theorem dX12_setPlank_15 : decode cX12_setPlank 15 = .ok (.iload_n 1, 1) := by decide +kernel
theorem dX12_setPlank_16 : decode cX12_setPlank 16 = .ok (.iconst 2, 1) := by decide +kernel
theorem dX12_setPlank_17 : decode cX12_setPlank 17 = .ok (.irem, 1) := by decide +kernel
theorem dX12_setPlank_18 : decode cX12_setPlank 18 = .ok (.iadd, 1) := by decide +kernel
theorem dX12_setPlank_19 : decode cX12_setPlank 19 = .ok (.ishl, 1) := by decide +kernel
theorem dX12_setPlank_20 : decode cX12_setPlank 20 = .ok (.ixor, 1) := by decide +kernel
theorem dX12_setPlank_21 : decode cX12_setPlank 21 = .ok (.iastore, 1) := by decide +kernel
theorem dX12_setPlank_22 : decode cX12_setPlank 22 = .ok (.return_, 1) := by decide +kernel
theorem dX12_liesOn_0 : decode cX12_liesOn 0 = .ok (.aload_n 0, 1) := by decide +kernel
theorem dX12_liesOn_1 : decode cX12_liesOn 1 = .ok (.getfield 7, 3) := by decide +kernel
theorem dX12_liesOn_4 : decode cX12_liesOn 4 = .ok (.bipush 31, 2) := by decide +kernel
theorem dX12_liesOn_6 : decode cX12_liesOn 6 = .ok (.iload_n 1, 1) := by decide +kernel
theorem dX12_liesOn_7 : decode cX12_liesOn 7 = .ok (.iadd, 1) := by decide +kernel
theorem dX12_liesOn_8 : decode cX12_liesOn 8 = .ok (.iaload, 1) := by decide +kernel
theorem dX12_liesOn_9 : decode cX12_liesOn 9 = .ok (.ldc 167, 2) := by decide +kernel
theorem dX12_liesOn_11 : decode cX12_liesOn 11 = .ok (.iand, 1) := by decide +kernel
theorem dX12_liesOn_12 : decode cX12_liesOn 12 = .ok (.ireturn, 1) := by decide +kernel
theorem dX12_isEdge_0 : decode cX12_isEdge 0 = .ok (.iload_n 1, 1) := by decide +kernel
theorem dX12_isEdge_1 : decode cX12_isEdge 1 = .ok (.aload_n 0, 1) := by decide +kernel
theorem dX12_isEdge_2 : decode cX12_isEdge 2 = .ok (.getfield 143, 3) := by decide +kernel
theorem dX12_isEdge_5 : decode cX12_isEdge 5 = .ok (.irem, 1) := by decide +kernel
theorem dX12_isEdge_6 : decode cX12_isEdge 6 = .ok (.istore_n 3, 1) := by decide +kernel
theorem dX12_isEdge_7 : decode cX12_isEdge 7 = .ok (.iload_n 1, 1) := by decide +kernel
theorem dX12_isEdge_8 : decode cX12_isEdge 8 = .ok (.aload_n 0, 1) := by decide +kernel
theorem dX12_isEdge_9 : decode cX12_isEdge 9 = .ok (.getfield 143, 3) := by decide +kernel
theorem dX12_isEdge_12 : decode cX12_isEdge 12 = .ok (.idiv, 1) := by decide +kernel
theorem dX12_isEdge_13 : decode cX12_isEdge 13 = .ok (.istore 4, 2) := by decide +kernel
theorem dX12_isEdge_15 : decode cX12_isEdge 15 = .ok (.iload_n 2, 1) := by decide +kernel
theorem dX12_isEdge_16 : decode cX12_isEdge 16 = .ok (.ifCond .ne 16, 3) := by decide +kernel
theorem dX12_isEdge_19 : decode cX12_isEdge 19 = .ok (.iload 4, 2) := by decide +kernel
theorem dX12_isEdge_21 : decode cX12_isEdge 21 = .ok (.ifCond .ne 7, 3) := by decide +kernel
theorem dX12_isEdge_24 : decode cX12_isEdge 24 = .ok (.iconst 1, 1) := by decide +kernel
theorem dX12_isEdge_25 : decode cX12_isEdge 25 = .ok (.goto 63, 3) := by decide +kernel
theorem dX12_isEdge_28 : decode cX12_isEdge 28 = .ok (.iconst 0, 1) := by decide +kernel
theorem dX12_isEdge_29 : decode cX12_isEdge 29 = .ok (.goto 59, 3) := by decide +kernel
theorem dX12_isEdge_32 : decode cX12_isEdge 32 = .ok (.iload_n 2, 1) := by decide +kernel
theorem dX12_isEdge_33 : decode cX12_isEdge 33 = .ok (.iconst 1, 1) := by decide +kernel
theorem dX12_isEdge_34 : decode cX12_isEdge 34 = .ok (.if_icmp .ne 21, 3) := by decide +kernel
theorem dX12_isEdge_37 : decode cX12_isEdge 37 = .ok (.iload_n 3, 1) := by decide +kernel
theorem dX12_isEdge_38 : decode cX12_isEdge 38 = .ok (.aload_n 0, 1) := by decide +kernel
theorem dX12_isEdge_39 : decode cX12_isEdge 39 = .ok (.getfield 143, 3) := by decide +kernel
theorem dX12_isEdge_42 : decode cX12_isEdge 42 = .ok (.iconst 1, 1) := by decide +kernel
theorem dX12_isEdge_43 : decode cX12_isEdge 43 = .ok (.isub, 1) := by decide +kernel
theorem dX12_isEdge_44 : decode cX12_isEdge 44 = .ok (.if_icmp .ne 7, 3) := by decide +kernel
theorem dX12_isEdge_47 : decode cX12_isEdge 47 = .ok (.iconst 1, 1) := by decide +kernel
theorem dX12_isEdge_48 : decode cX12_isEdge 48 = .ok (.goto 40, 3) := by decide +kernel
theorem dX12_isEdge_51 : decode cX12_isEdge 51 = .ok (.iconst 0, 1) := by decide +kernel
theorem dX12_isEdge_52 : decode cX12_isEdge 52 = .ok (.goto 36, 3) := by decide +kernel
theorem dX12_isEdge_55 : decode cX12_isEdge 55 = .ok (.iload_n 2, 1) := by decide +kernel
theorem dX12_isEdge_56 : decode cX12_isEdge 56 = .ok (.iconst 2, 1) := by decide +kernel
theorem dX12_isEdge_57 : decode cX12_isEdge 57 = .ok (.if_icmp .ne 22, 3) := by decide +kernel
theorem dX12_isEdge_60 : decode cX12_isEdge 60 = .ok (.iload 4, 2) := by decide +kernel
theorem dX12_isEdge_62 : decode cX12_isEdge 62 = .ok (.aload_n 0, 1) := by decide +kernel
theorem dX12_isEdge_63 : decode cX12_isEdge 63 = .ok (.getfield 146, 3) := by decide +kernel
theorem dX12_isEdge_66 : decode cX12_isEdge 66 = .ok (.iconst 1, 1) := by decide +kernel
theorem dX12_isEdge_67 : decode cX12_isEdge 67 = .ok (.isub, 1) := by decide +kernel
theorem dX12_isEdge_68 : decode cX12_isEdge 68 = .ok (.if_icmp .ne 7, 3) := by decide +kernel
theorem dX12_isEdge_71 : decode cX12_isEdge 71 = .ok (.iconst 1, 1) := by decide +kernel
theorem dX12_isEdge_72 : decode cX12_isEdge 72 = .ok (.goto 16, 3) := by decide +kernel
theorem dX12_isEdge_75 : decode cX12_isEdge 75 = .ok (.iconst 0, 1) := by decide +kernel
theorem dX12_isEdge_76 : decode cX12_isEdge 76 = .ok (.goto 12, 3) := by decide +kernel
theorem dX12_isEdge_79 : decode cX12_isEdge 79 = .ok (.iload_n 3, 1) := by decide +kernel
theorem dX12_isEdge_80 : decode cX12_isEdge 80 = .ok (.ifCond .ne 7, 3) := by decide +kernel
theorem dX12_isEdge_83 : decode cX12_isEdge 83 = .ok (.iconst 1, 1) := by decide +kernel
theorem dX12_isEdge_84 : decode cX12_isEdge 84 = .ok (.goto 4, 3) := by decide +kernel
theorem dX12_isEdge_87 : decode cX12_isEdge 87 = .ok (.iconst 0, 1) := by decide +kernel
theorem dX12_isEdge_88 : decode cX12_isEdge 88 = .ok (.ireturn, 1) := by decide +kernel
theorem dX12_beside_0 : decode cX12_beside 0 = .ok (.iload_n 2, 1) := by decide +kernel
theorem dX12_beside_1 : decode cX12_beside 1 = .ok (.ifCond .ne 12, 3) := by decide +kernel
theorem dX12_beside_4 : decode cX12_beside 4 = .ok (.iload_n 1, 1) := by decide +kernel
theorem dX12_beside_5 : decode cX12_beside 5 = .ok (.aload_n 0, 1) := by decide +kernel
theorem dX12_beside_6 : decode cX12_beside 6 = .ok (.getfield 143, 3) := by decide +kernel
theorem dX12_beside_9 : decode cX12_beside 9 = .ok (.isub, 1) := by decide +kernel
theorem dX12_beside_10 : decode cX12_beside 10 = .ok (.goto 31, 3) := by decide +kernel
theorem dX12_beside_13 : decode cX12_beside 13 = .ok (.iload_n 2, 1) := by decide +kernel
theorem dX12_beside_14 : decode cX12_beside 14 = .ok (.iconst 1, 1) := by decide +kernel
theorem dX12_beside_15 : decode cX12_beside 15 = .ok (.if_icmp .ne 9, 3) := by decide +kernel
theorem dX12_beside_18 : decode cX12_beside 18 = .ok (.iload_n 1, 1) := by decide +kernel
theorem dX12_beside_19 : decode cX12_beside 19 = .ok (.iconst 1, 1) := by decide +kernel
theorem dX12_beside_20 : decode cX12_beside 20 = .ok (.iadd, 1) := by decide +kernel
theorem dX12_beside_21 : decode cX12_beside 21 = .ok (.goto 20, 3) := by decide +kernel
theorem dX12_beside_24 : decode cX12_beside 24 = .ok (.iload_n 2, 1) := by decide +kernel
theorem dX12_beside_25 : decode cX12_beside 25 = .ok (.iconst 2, 1) := by decide +kernel
theorem dX12_beside_26 : decode cX12_beside 26 = .ok (.if_icmp .ne 12, 3) := by decide +kernel
theorem dX12_beside_29 : decode cX12_beside 29 = .ok (.iload_n 1, 1) := by decide +kernel
theorem dX12_beside_30 : decode cX12_beside 30 = .ok (.aload_n 0, 1) := by decide +kernel
theorem dX12_beside_31 : decode cX12_beside 31 = .ok (.getfield 143, 3) := by decide +kernel
theorem dX12_beside_34 : decode cX12_beside 34 = .ok (.iadd, 1) := by decide +kernel
theorem dX12_beside_35 : decode cX12_beside 35 = .ok (.goto 6, 3) := by decide +kernel
theorem dX12_beside_38 : decode cX12_beside 38 = .ok (.iload_n 1, 1) := by decide +kernel
theorem dX12_beside_39 : decode cX12_beside 39 = .ok (.iconst 1, 1) := by decide +kernel
theorem dX12_beside_40 : decode cX12_beside 40 = .ok (.isub, 1) := by decide +kernel
theorem dX12_beside_41 : decode cX12_beside 41 = .ok (.ireturn, 1) := by decide +kernel
theorem dX12_sideOf_0 : decode cX12_sideOf 0 = .ok (.iload_n 2, 1) := by decide +kernel
theorem dX12_sideOf_1 : decode cX12_sideOf 1 = .ok (.iconst 1, 1) := by decide +kernel
theorem dX12_sideOf_2 : decode cX12_sideOf 2 = .ok (.if_icmp .ne 9, 3) := by decide +kernel
theorem dX12_sideOf_5 : decode cX12_sideOf 5 = .ok (.iconst 2, 1) := by decide +kernel
theorem dX12_sideOf_6 : decode cX12_sideOf 6 = .ok (.iload_n 1, 1) := by decide +kernel
theorem dX12_sideOf_7 : decode cX12_sideOf 7 = .ok (.imul, 1) := by decide +kernel
theorem dX12_sideOf_8 : decode cX12_sideOf 8 = .ok (.goto 39, 3) := by decide +kernel
theorem dX12_sideOf_11 : decode cX12_sideOf 11 = .ok (.iload_n 2, 1) := by decide +kernel
theorem dX12_sideOf_12 : decode cX12_sideOf 12 = .ok (.iconst 2, 1) := by decide +kernel
theorem dX12_sideOf_13 : decode cX12_sideOf 13 = .ok (.if_icmp .ne 11, 3) := by decide +kernel
theorem dX12_sideOf_16 : decode cX12_sideOf 16 = .ok (.iconst 2, 1) := by decide +kernel
theorem dX12_sideOf_17 : decode cX12_sideOf 17 = .ok (.iload_n 1, 1) := by decide +kernel
theorem dX12_sideOf_18 : decode cX12_sideOf 18 = .ok (.imul, 1) := by decide +kernel
theorem dX12_sideOf_19 : decode cX12_sideOf 19 = .ok (.iconst 1, 1) := by decide +kernel
theorem dX12_sideOf_20 : decode cX12_sideOf 20 = .ok (.iadd, 1) := by decide +kernel
theorem dX12_sideOf_21 : decode cX12_sideOf 21 = .ok (.goto 26, 3) := by decide +kernel
theorem dX12_sideOf_24 : decode cX12_sideOf 24 = .ok (.iload_n 2, 1) := by decide +kernel
theorem dX12_sideOf_25 : decode cX12_sideOf 25 = .ok (.iconst 3, 1) := by decide +kernel
theorem dX12_sideOf_26 : decode cX12_sideOf 26 = .ok (.if_icmp .ne 11, 3) := by decide +kernel
theorem dX12_sideOf_29 : decode cX12_sideOf 29 = .ok (.iconst 2, 1) := by decide +kernel
theorem dX12_sideOf_30 : decode cX12_sideOf 30 = .ok (.iload_n 1, 1) := by decide +kernel
theorem dX12_sideOf_31 : decode cX12_sideOf 31 = .ok (.iconst 1, 1) := by decide +kernel
theorem dX12_sideOf_32 : decode cX12_sideOf 32 = .ok (.isub, 1) := by decide +kernel
theorem dX12_sideOf_33 : decode cX12_sideOf 33 = .ok (.imul, 1) := by decide +kernel
theorem dX12_sideOf_34 : decode cX12_sideOf 34 = .ok (.goto 13, 3) := by decide +kernel
theorem dX12_sideOf_37 : decode cX12_sideOf 37 = .ok (.iconst 2, 1) := by decide +kernel
theorem dX12_sideOf_38 : decode cX12_sideOf 38 = .ok (.iload_n 1, 1) := by decide +kernel
theorem dX12_sideOf_39 : decode cX12_sideOf 39 = .ok (.aload_n 0, 1) := by decide +kernel
theorem dX12_sideOf_40 : decode cX12_sideOf 40 = .ok (.getfield 143, 3) := by decide +kernel
theorem dX12_sideOf_43 : decode cX12_sideOf 43 = .ok (.isub, 1) := by decide +kernel
theorem dX12_sideOf_44 : decode cX12_sideOf 44 = .ok (.imul, 1) := by decide +kernel
theorem dX12_sideOf_45 : decode cX12_sideOf 45 = .ok (.iconst 1, 1) := by decide +kernel
theorem dX12_sideOf_46 : decode cX12_sideOf 46 = .ok (.iadd, 1) := by decide +kernel
theorem dX12_sideOf_47 : decode cX12_sideOf 47 = .ok (.ireturn, 1) := by decide +kernel
set_option maxRecDepth 20000 in
theorem ggX12_isKerb_X12_has : GoodIn wsX12_isKerb wsX12_has := goodIn_r _ [5] (by decide +kernel) (by decide +kernel)
set_option maxRecDepth 20000 in
theorem gX12_isKerb_X12_has : GoodIn wsX12_isKerb (va_wsS RX12 168 yX12_has wsX12_has) := goodIn_app (goodIn_of _ (by decide +kernel)) ggX12_isKerb_X12_has
theorem dX12_isKerb_0 : decode cX12_isKerb 0 = .ok (.aload_n 0, 1) := by decide +kernel
theorem dX12_isKerb_1 : decode cX12_isKerb 1 = .ok (.getfield 26, 3) := by decide +kernel
theorem dX12_isKerb_4 : decode cX12_isKerb 4 = .ok (.iload_n 1, 1) := by decide +kernel
theorem dX12_isKerb_5 : decode cX12_isKerb 5 = .ok (.iconst 2, 1) := by decide +kernel
theorem dX12_isKerb_6 : decode cX12_isKerb 6 = .ok (.irem, 1) := by decide +kernel
theorem dX12_isKerb_7 : decode cX12_isKerb 7 = .ok (.iaload, 1) := by decide +kernel
theorem dX12_isKerb_8 : decode cX12_isKerb 8 = .ok (.iload_n 1, 1) := by decide +kernel
theorem dX12_isKerb_9 : decode cX12_isKerb 9 = .ok (.iconst 2, 1) := by decide +kernel
theorem dX12_isKerb_10 : decode cX12_isKerb 10 = .ok (.idiv, 1) := by decide +kernel
theorem dX12_isKerb_11 : decode cX12_isKerb 11 = .ok (.invokestatic 168, 3) := by decide +kernel
theorem dX12_isKerb_14 : decode cX12_isKerb 14 = .ok (.ireturn, 1) := by decide +kernel
set_option maxRecDepth 20000 in
theorem ggX12_isShut_X12_isEdge : GoodIn wsX12_isShut wsX12_isEdge := goodIn_r _ [7, 8, 9, 27, 28, 29, 30, 31, 32, 33, 34, 35, 36, 37, 38, 39, 40, 41, 42, 43, 44, 45, 46, 47, 48, 49, 50, 51, 52, 53, 54, 55, 56, 57, 58, 59, 60, 61, 62] (by decide +kernel) (by decide +kernel)
set_option maxRecDepth 20000 in
theorem gX12_isShut_X12_isEdge : GoodIn wsX12_isShut (wsV RX12 171 RX12 yX12_isEdge wsX12_isEdge) := goodIn_app (goodIn_of _ (by decide +kernel)) ggX12_isShut_X12_isEdge
set_option maxRecDepth 20000 in
theorem ggX12_isShut_X12_sideOf : GoodIn wsX12_isShut wsX12_sideOf := goodIn_r _ [13, 8, 27, 28, 29, 30, 31, 32, 33, 34, 35, 36, 37, 38, 39, 40, 41, 42, 43, 44, 45, 46, 47, 48, 49, 50, 51, 52, 53, 54, 55, 56, 57, 58, 59, 60, 61, 62] (by decide +kernel) (by decide +kernel)
set_option maxRecDepth 20000 in
theorem gX12_isShut_X12_sideOf : GoodIn wsX12_isShut (wsV RX12 174 RX12 yX12_sideOf wsX12_sideOf) := goodIn_app (goodIn_of _ (by decide +kernel)) ggX12_isShut_X12_sideOf
set_option maxRecDepth 20000 in
theorem ggX12_isShut_X12_isKerb : GoodIn wsX12_isShut wsX12_isKerb := goodIn_r _ [17, 18, 19, 20, 6, 21, 27, 28, 29, 30, 31, 32, 33, 34, 35, 36, 37, 38, 39, 40, 41, 42, 43, 44, 45, 46, 47, 48, 49, 50, 51, 52, 53, 54, 55, 56, 57, 58, 59, 60, 61, 62] (by decide +kernel) (by decide +kernel)
set_option maxRecDepth 20000 in
theorem gX12_isShut_X12_isKerb : GoodIn wsX12_isShut (wsV RX12 177 RX12 yX12_isKerb wsX12_isKerb) := goodIn_app (goodIn_of _ (by decide +kernel)) ggX12_isShut_X12_isKerb
set_option maxRecDepth 20000 in
theorem ggX12_isShut_X12_isPlank : GoodIn wsX12_isShut wsX12_isPlank := goodIn_r _ [25, 26, 27, 28, 29, 30, 31, 32, 33, 34, 35, 36, 37, 38, 39, 40, 41, 42, 43, 44, 45, 46, 47, 48, 49, 50, 51, 52, 53, 54, 55, 56, 57, 58, 59, 60, 61, 62] (by decide +kernel) (by decide +kernel)
set_option maxRecDepth 20000 in
theorem gX12_isShut_X12_isPlank : GoodIn wsX12_isShut (wsV RX12 181 RX12 yX12_isPlank wsX12_isPlank) := goodIn_app (goodIn_of _ (by decide +kernel)) ggX12_isShut_X12_isPlank
theorem dX12_isShut_0 : decode cX12_isShut 0 = .ok (.aload_n 0, 1) := by decide +kernel
theorem dX12_isShut_1 : decode cX12_isShut 1 = .ok (.iload_n 1, 1) := by decide +kernel
theorem dX12_isShut_2 : decode cX12_isShut 2 = .ok (.iload_n 2, 1) := by decide +kernel
theorem dX12_isShut_3 : decode cX12_isShut 3 = .ok (.invokevirtual 171, 3) := by decide +kernel
theorem dX12_isShut_6 : decode cX12_isShut 6 = .ok (.ifCond .eq 5, 3) := by decide +kernel
theorem dX12_isShut_9 : decode cX12_isShut 9 = .ok (.iconst 1, 1) := by decide +kernel
theorem dX12_isShut_10 : decode cX12_isShut 10 = .ok (.ireturn, 1) := by decide +kernel
theorem dX12_isShut_11 : decode cX12_isShut 11 = .ok (.aload_n 0, 1) := by decide +kernel
theorem dX12_isShut_12 : decode cX12_isShut 12 = .ok (.iload_n 1, 1) := by decide +kernel
theorem dX12_isShut_13 : decode cX12_isShut 13 = .ok (.iload_n 2, 1) := by decide +kernel
theorem dX12_isShut_14 : decode cX12_isShut 14 = .ok (.invokevirtual 174, 3) := by decide +kernel
theorem dX12_isShut_17 : decode cX12_isShut 17 = .ok (.istore_n 3, 1) := by decide +kernel
theorem dX12_isShut_18 : decode cX12_isShut 18 = .ok (.aload_n 0, 1) := by decide +kernel
theorem dX12_isShut_19 : decode cX12_isShut 19 = .ok (.iload_n 3, 1) := by decide +kernel
theorem dX12_isShut_20 : decode cX12_isShut 20 = .ok (.invokevirtual 177, 3) := by decide +kernel
theorem dX12_isShut_23 : decode cX12_isShut 23 = .ok (.ifCond .ne 27, 3) := by decide +kernel
theorem dX12_isShut_26 : decode cX12_isShut 26 = .ok (.aload_n 0, 1) := by decide +kernel
theorem dX12_isShut_27 : decode cX12_isShut 27 = .ok (.iload_n 3, 1) := by decide +kernel
theorem dX12_isShut_28 : decode cX12_isShut 28 = .ok (.invokevirtual 181, 3) := by decide +kernel
theorem dX12_isShut_31 : decode cX12_isShut 31 = .ok (.ifCond .ne 19, 3) := by decide +kernel
theorem dX12_isShut_34 : decode cX12_isShut 34 = .ok (.iload_n 3, 1) := by decide +kernel
theorem dX12_isShut_35 : decode cX12_isShut 35 = .ok (.aload_n 0, 1) := by decide +kernel
theorem dX12_isShut_36 : decode cX12_isShut 36 = .ok (.getfield 56, 3) := by decide +kernel
theorem dX12_isShut_39 : decode cX12_isShut 39 = .ok (.if_icmp .eq 11, 3) := by decide +kernel
theorem dX12_isShut_42 : decode cX12_isShut 42 = .ok (.iload_n 3, 1) := by decide +kernel
theorem dX12_isShut_43 : decode cX12_isShut 43 = .ok (.aload_n 0, 1) := by decide +kernel
theorem dX12_isShut_44 : decode cX12_isShut 44 = .ok (.getfield 60, 3) := by decide +kernel
theorem dX12_isShut_47 : decode cX12_isShut 47 = .ok (.if_icmp .ne 7, 3) := by decide +kernel
theorem dX12_isShut_50 : decode cX12_isShut 50 = .ok (.iconst 1, 1) := by decide +kernel
theorem dX12_isShut_51 : decode cX12_isShut 51 = .ok (.goto 4, 3) := by decide +kernel
theorem dX12_isShut_54 : decode cX12_isShut 54 = .ok (.iconst 0, 1) := by decide +kernel
theorem dX12_isShut_55 : decode cX12_isShut 55 = .ok (.ireturn, 1) := by decide +kernel
set_option maxRecDepth 20000 in
theorem ggX12_shutWays_X12_isShut : GoodIn wsX12_shutWays wsX12_isShut := goodIn_r _ [5, 6, 7, 8, 9, 10, 4, 11, 12, 13, 14, 15, 16, 17, 18, 19, 20, 21, 22, 23, 24, 25, 26, 27, 28, 29, 30, 31, 32, 33, 34, 35, 36, 37, 38, 39, 40, 41, 42, 43, 44, 45, 46, 47, 48, 49, 50, 51, 52, 53, 54, 55, 56, 57, 58, 59, 60, 61, 62, 63, 64, 65, 66] (by decide +kernel) (by decide +kernel)
set_option maxRecDepth 20000 in
theorem gX12_shutWays_X12_isShut : GoodIn wsX12_shutWays (wsV RX12 184 RX12 yX12_isShut wsX12_isShut) := goodIn_app (goodIn_of _ (by decide +kernel)) ggX12_shutWays_X12_isShut
theorem dX12_shutWays_0 : decode cX12_shutWays 0 = .ok (.iconst 0, 1) := by decide +kernel
theorem dX12_shutWays_1 : decode cX12_shutWays 1 = .ok (.istore_n 2, 1) := by decide +kernel
theorem dX12_shutWays_2 : decode cX12_shutWays 2 = .ok (.iconst 0, 1) := by decide +kernel
theorem dX12_shutWays_3 : decode cX12_shutWays 3 = .ok (.istore_n 3, 1) := by decide +kernel
theorem dX12_shutWays_4 : decode cX12_shutWays 4 = .ok (.iload_n 3, 1) := by decide +kernel
theorem dX12_shutWays_5 : decode cX12_shutWays 5 = .ok (.iconst 4, 1) := by decide +kernel
theorem dX12_shutWays_6 : decode cX12_shutWays 6 = .ok (.if_icmp .ge 28, 3) := by decide +kernel
theorem dX12_shutWays_9 : decode cX12_shutWays 9 = .ok (.iload_n 2, 1) := by decide +kernel
theorem dX12_shutWays_10 : decode cX12_shutWays 10 = .ok (.aload_n 0, 1) := by decide +kernel
theorem dX12_shutWays_11 : decode cX12_shutWays 11 = .ok (.iload_n 1, 1) := by decide +kernel
theorem dX12_shutWays_12 : decode cX12_shutWays 12 = .ok (.iload_n 3, 1) := by decide +kernel
theorem dX12_shutWays_13 : decode cX12_shutWays 13 = .ok (.invokevirtual 184, 3) := by decide +kernel
theorem dX12_shutWays_16 : decode cX12_shutWays 16 = .ok (.ifCond .eq 9, 3) := by decide +kernel
theorem dX12_shutWays_19 : decode cX12_shutWays 19 = .ok (.iconst 1, 1) := by decide +kernel
theorem dX12_shutWays_20 : decode cX12_shutWays 20 = .ok (.iload_n 3, 1) := by decide +kernel
theorem dX12_shutWays_21 : decode cX12_shutWays 21 = .ok (.ishl, 1) := by decide +kernel
theorem dX12_shutWays_22 : decode cX12_shutWays 22 = .ok (.goto 4, 3) := by decide +kernel
theorem dX12_shutWays_25 : decode cX12_shutWays 25 = .ok (.iconst 0, 1) := by decide +kernel
theorem dX12_shutWays_26 : decode cX12_shutWays 26 = .ok (.ior, 1) := by decide +kernel
theorem dX12_shutWays_27 : decode cX12_shutWays 27 = .ok (.istore_n 2, 1) := by decide +kernel
theorem dX12_shutWays_28 : decode cX12_shutWays 28 = .ok (.iinc 3 1, 3) := by decide +kernel
theorem dX12_shutWays_31 : decode cX12_shutWays 31 = .ok (.goto (-27), 3) := by decide +kernel
theorem dX12_shutWays_34 : decode cX12_shutWays 34 = .ok (.iload_n 2, 1) := by decide +kernel
theorem dX12_shutWays_35 : decode cX12_shutWays 35 = .ok (.ireturn, 1) := by decide +kernel
set_option maxRecDepth 20000 in
theorem ggX12_wayFrom_X12_isShut : GoodIn wsX12_wayFrom wsX12_isShut := goodIn_r _ [6, 7, 8, 9, 10, 11, 5, 12, 13, 14, 15, 16, 17, 18, 19, 20, 21, 22, 23, 24, 25, 26, 27, 28, 29, 30, 1, 35, 36, 37, 38, 39, 40, 41, 42, 43, 44, 45, 46, 47, 48, 49, 50, 51, 52, 53, 54, 55, 56, 57, 58, 59, 60, 61, 62, 63, 64, 65, 66, 67, 68, 69, 70] (by decide +kernel) (by decide +kernel)
set_option maxRecDepth 20000 in
theorem gX12_wayFrom_X12_isShut : GoodIn wsX12_wayFrom (wsV RX12 184 RX12 yX12_isShut wsX12_isShut) := goodIn_app (goodIn_of _ (by decide +kernel)) ggX12_wayFrom_X12_isShut
set_option maxRecDepth 20000 in
theorem ggX12_wayFrom_X12_beside : GoodIn wsX12_wayFrom wsX12_beside := goodIn_r _ [34, 13, 35, 36, 37, 38, 39, 40, 41, 42, 43, 44, 45, 46, 47, 48, 49, 50, 51, 52, 53, 54, 55, 56, 57, 58, 59, 60, 61, 62, 63, 64, 65, 66, 67, 68, 69, 70] (by decide +kernel) (by decide +kernel)
set_option maxRecDepth 20000 in
theorem gX12_wayFrom_X12_beside : GoodIn wsX12_wayFrom (wsV RX12 187 RX12 yX12_beside wsX12_beside) := goodIn_app (goodIn_of _ (by decide +kernel)) ggX12_wayFrom_X12_beside
theorem dX12_wayFrom_0 : decode cX12_wayFrom 0 = .ok (.bipush (-9), 2) := by decide +kernel
theorem dX12_wayFrom_2 : decode cX12_wayFrom 2 = .ok (.istore 4, 2) := by decide +kernel
theorem dX12_wayFrom_4 : decode cX12_wayFrom 4 = .ok (.aload_n 0, 1) := by decide +kernel
theorem dX12_wayFrom_5 : decode cX12_wayFrom 5 = .ok (.getfield 7, 3) := by decide +kernel
theorem dX12_wayFrom_8 : decode cX12_wayFrom 8 = .ok (.iconst 1, 1) := by decide +kernel
theorem dX12_wayFrom_9 : decode cX12_wayFrom 9 = .ok (.iload_n 1, 1) := by decide +kernel
theorem dX12_wayFrom_10 : decode cX12_wayFrom 10 = .ok (.iadd, 1) := by decide +kernel
theorem dX12_wayFrom_11 : decode cX12_wayFrom 11 = .ok (.iaload, 1) := by decide +kernel
theorem dX12_wayFrom_12 : decode cX12_wayFrom 12 = .ok (.istore 5, 2) := by decide +kernel
theorem dX12_wayFrom_14 : decode cX12_wayFrom 14 = .ok (.iconst 0, 1) := by decide +kernel
theorem dX12_wayFrom_15 : decode cX12_wayFrom 15 = .ok (.istore 6, 2) := by decide +kernel
theorem dX12_wayFrom_17 : decode cX12_wayFrom 17 = .ok (.iload 6, 2) := by decide +kernel
theorem dX12_wayFrom_19 : decode cX12_wayFrom 19 = .ok (.iconst 4, 1) := by decide +kernel
theorem dX12_wayFrom_20 : decode cX12_wayFrom 20 = .ok (.if_icmp .ge 118, 3) := by decide +kernel
theorem dX12_wayFrom_23 : decode cX12_wayFrom 23 = .ok (.iload_n 3, 1) := by decide +kernel
theorem dX12_wayFrom_24 : decode cX12_wayFrom 24 = .ok (.iconst 1, 1) := by decide +kernel
theorem dX12_wayFrom_25 : decode cX12_wayFrom 25 = .ok (.if_icmp .ne 10, 3) := by decide +kernel
theorem dX12_wayFrom_28 : decode cX12_wayFrom 28 = .ok (.iconst 3, 1) := by decide +kernel
theorem dX12_wayFrom_29 : decode cX12_wayFrom 29 = .ok (.iload 6, 2) := by decide +kernel
theorem dX12_wayFrom_31 : decode cX12_wayFrom 31 = .ok (.isub, 1) := by decide +kernel
theorem dX12_wayFrom_32 : decode cX12_wayFrom 32 = .ok (.goto 5, 3) := by decide +kernel
theorem dX12_wayFrom_35 : decode cX12_wayFrom 35 = .ok (.iload 6, 2) := by decide +kernel
theorem dX12_wayFrom_37 : decode cX12_wayFrom 37 = .ok (.istore 7, 2) := by decide +kernel
theorem dX12_wayFrom_39 : decode cX12_wayFrom 39 = .ok (.aload_n 0, 1) := by decide +kernel
theorem dX12_wayFrom_40 : decode cX12_wayFrom 40 = .ok (.iload_n 1, 1) := by decide +kernel
theorem dX12_wayFrom_41 : decode cX12_wayFrom 41 = .ok (.iload 7, 2) := by decide +kernel
theorem dX12_wayFrom_43 : decode cX12_wayFrom 43 = .ok (.invokevirtual 184, 3) := by decide +kernel
theorem dX12_wayFrom_46 : decode cX12_wayFrom 46 = .ok (.ifCond .eq 8, 3) := by decide +kernel
theorem dX12_wayFrom_49 : decode cX12_wayFrom 49 = .ok (.bipush 99, 2) := by decide +kernel
theorem dX12_wayFrom_51 : decode cX12_wayFrom 51 = .ok (.goto 17, 3) := by decide +kernel
theorem dX12_wayFrom_54 : decode cX12_wayFrom 54 = .ok (.aload_n 0, 1) := by decide +kernel
theorem dX12_wayFrom_55 : decode cX12_wayFrom 55 = .ok (.getfield 7, 3) := by decide +kernel
theorem dX12_wayFrom_58 : decode cX12_wayFrom 58 = .ok (.iconst 1, 1) := by decide +kernel
theorem dX12_wayFrom_59 : decode cX12_wayFrom 59 = .ok (.aload_n 0, 1) := by decide +kernel
theorem dX12_wayFrom_60 : decode cX12_wayFrom 60 = .ok (.iload_n 1, 1) := by decide +kernel
theorem dX12_wayFrom_61 : decode cX12_wayFrom 61 = .ok (.iload 7, 2) := by decide +kernel
theorem dX12_wayFrom_63 : decode cX12_wayFrom 63 = .ok (.invokevirtual 187, 3) := by decide +kernel
theorem dX12_wayFrom_66 : decode cX12_wayFrom 66 = .ok (.iadd, 1) := by decide +kernel
theorem dX12_wayFrom_67 : decode cX12_wayFrom 67 = .ok (.iaload, 1) := by decide +kernel
theorem dX12_wayFrom_68 : decode cX12_wayFrom 68 = .ok (.istore 8, 2) := by decide +kernel
theorem dX12_wayFrom_70 : decode cX12_wayFrom 70 = .ok (.iload 8, 2) := by decide +kernel
theorem dX12_wayFrom_72 : decode cX12_wayFrom 72 = .ok (.iload 5, 2) := by decide +kernel
theorem dX12_wayFrom_74 : decode cX12_wayFrom 74 = .ok (.if_icmp .lt 23, 3) := by decide +kernel
theorem dX12_wayFrom_77 : decode cX12_wayFrom 77 = .ok (.iload 8, 2) := by decide +kernel
theorem dX12_wayFrom_79 : decode cX12_wayFrom 79 = .ok (.iload 5, 2) := by decide +kernel
theorem dX12_wayFrom_81 : decode cX12_wayFrom 81 = .ok (.if_icmp .ne 20, 3) := by decide +kernel
theorem dX12_wayFrom_84 : decode cX12_wayFrom 84 = .ok (.iload 4, 2) := by decide +kernel
theorem dX12_wayFrom_86 : decode cX12_wayFrom 86 = .ok (.bipush (-9), 2) := by decide +kernel
theorem dX12_wayFrom_88 : decode cX12_wayFrom 88 = .ok (.if_icmp .eq 13, 3) := by decide +kernel
theorem dX12_wayFrom_91 : decode cX12_wayFrom 91 = .ok (.iload 7, 2) := by decide +kernel
theorem dX12_wayFrom_93 : decode cX12_wayFrom 93 = .ok (.iload_n 2, 1) := by decide +kernel
theorem dX12_wayFrom_94 : decode cX12_wayFrom 94 = .ok (.if_icmp .ne 7, 3) := by decide +kernel
theorem dX12_wayFrom_97 : decode cX12_wayFrom 97 = .ok (.iconst 1, 1) := by decide +kernel
theorem dX12_wayFrom_98 : decode cX12_wayFrom 98 = .ok (.goto 4, 3) := by decide +kernel
theorem dX12_wayFrom_101 : decode cX12_wayFrom 101 = .ok (.iconst 0, 1) := by decide +kernel
theorem dX12_wayFrom_102 : decode cX12_wayFrom 102 = .ok (.istore 9, 2) := by decide +kernel
theorem dX12_wayFrom_104 : decode cX12_wayFrom 104 = .ok (.iload 9, 2) := by decide +kernel
theorem dX12_wayFrom_106 : decode cX12_wayFrom 106 = .ok (.ifCond .eq 8, 3) := by decide +kernel
theorem dX12_wayFrom_109 : decode cX12_wayFrom 109 = .ok (.iload 7, 2) := by decide +kernel
theorem dX12_wayFrom_111 : decode cX12_wayFrom 111 = .ok (.goto 5, 3) := by decide +kernel
theorem dX12_wayFrom_114 : decode cX12_wayFrom 114 = .ok (.iload 4, 2) := by decide +kernel
theorem dX12_wayFrom_116 : decode cX12_wayFrom 116 = .ok (.istore 4, 2) := by decide +kernel
theorem dX12_wayFrom_118 : decode cX12_wayFrom 118 = .ok (.iload 9, 2) := by decide +kernel
theorem dX12_wayFrom_120 : decode cX12_wayFrom 120 = .ok (.ifCond .eq 8, 3) := by decide +kernel
theorem dX12_wayFrom_123 : decode cX12_wayFrom 123 = .ok (.iload 8, 2) := by decide +kernel
theorem dX12_wayFrom_125 : decode cX12_wayFrom 125 = .ok (.goto 5, 3) := by decide +kernel
theorem dX12_wayFrom_128 : decode cX12_wayFrom 128 = .ok (.iload 5, 2) := by decide +kernel
theorem dX12_wayFrom_130 : decode cX12_wayFrom 130 = .ok (.istore 5, 2) := by decide +kernel
theorem dX12_wayFrom_132 : decode cX12_wayFrom 132 = .ok (.iinc 6 1, 3) := by decide +kernel
theorem dX12_wayFrom_135 : decode cX12_wayFrom 135 = .ok (.goto (-118), 3) := by decide +kernel
theorem dX12_wayFrom_138 : decode cX12_wayFrom 138 = .ok (.iload 4, 2) := by decide +kernel
theorem dX12_wayFrom_140 : decode cX12_wayFrom 140 = .ok (.ireturn, 1) := by decide +kernel
set_option maxRecDepth 20000 in
theorem ggX12_roll_X12_wayFrom : GoodIn wsX12_roll wsX12_wayFrom := goodIn_r _ [9, 10, 11, 12, 13, 8, 14, 15, 16, 17, 18, 19, 20, 21, 22, 23, 24, 25, 26, 27, 28, 29, 30, 31, 32, 33, 34, 35, 36, 37, 38, 39, 40, 41, 42, 43, 44, 45, 46, 47, 48, 49, 50, 51, 52, 53, 54, 55, 56, 57, 58, 59, 60, 61, 62, 63, 64, 65, 66, 67, 68, 69, 70, 71, 72, 73, 74, 75, 76, 77, 78] (by decide +kernel) (by decide +kernel)
set_option maxRecDepth 20000 in
theorem gX12_roll_X12_wayFrom : GoodIn wsX12_roll (wsV RX12 196 RX12 yX12_wayFrom wsX12_wayFrom) := goodIn_app (goodIn_of _ (by decide +kernel)) ggX12_roll_X12_wayFrom
set_option maxRecDepth 20000 in
theorem ggX12_roll_X12_beside : GoodIn wsX12_roll wsX12_beside := goodIn_r _ [42, 21, 43, 44, 45, 46, 47, 48, 49, 50, 51, 52, 53, 54, 55, 56, 57, 58, 59, 60, 61, 62, 63, 64, 65, 66, 67, 68, 69, 70, 71, 72, 73, 74, 75, 76, 77, 78] (by decide +kernel) (by decide +kernel)
set_option maxRecDepth 20000 in
theorem gX12_roll_X12_beside : GoodIn wsX12_roll (wsV RX12 187 RX12 yX12_beside wsX12_beside) := goodIn_app (goodIn_of _ (by decide +kernel)) ggX12_roll_X12_beside
theorem dX12_roll_0 : decode cX12_roll 0 = .ok (.iload_n 3, 1) := by decide +kernel
theorem dX12_roll_1 : decode cX12_roll 1 = .ok (.istore 4, 2) := by decide +kernel
theorem dX12_roll_3 : decode cX12_roll 3 = .ok (.bipush (-9), 2) := by decide +kernel
theorem dX12_roll_5 : decode cX12_roll 5 = .ok (.istore 5, 2) := by decide +kernel
theorem dX12_roll_7 : decode cX12_roll 7 = .ok (.aload_n 0, 1) := by decide +kernel
theorem dX12_roll_8 : decode cX12_roll 8 = .ok (.iconst 0, 1) := by decide +kernel
theorem dX12_roll_9 : decode cX12_roll 9 = .ok (.putfield 190, 3) := by decide +kernel
theorem dX12_roll_12 : decode cX12_roll 12 = .ok (.aload_n 0, 1) := by decide +kernel
theorem dX12_roll_13 : decode cX12_roll 13 = .ok (.iconst 1, 1) := by decide +kernel
theorem dX12_roll_14 : decode cX12_roll 14 = .ok (.iload 4, 2) := by decide +kernel
theorem dX12_roll_16 : decode cX12_roll 16 = .ok (.ishl, 1) := by decide +kernel
theorem dX12_roll_17 : decode cX12_roll 17 = .ok (.putfield 193, 3) := by decide +kernel
theorem dX12_roll_20 : decode cX12_roll 20 = .ok (.aload_n 0, 1) := by decide +kernel
theorem dX12_roll_21 : decode cX12_roll 21 = .ok (.getfield 23, 3) := by decide +kernel
theorem dX12_roll_24 : decode cX12_roll 24 = .ok (.iload 4, 2) := by decide +kernel
theorem dX12_roll_26 : decode cX12_roll 26 = .ok (.iaload, 1) := by decide +kernel
theorem dX12_roll_27 : decode cX12_roll 27 = .ok (.iload_n 1, 1) := by decide +kernel
theorem dX12_roll_28 : decode cX12_roll 28 = .ok (.if_icmp .lt 7, 3) := by decide +kernel
theorem dX12_roll_31 : decode cX12_roll 31 = .ok (.iconst 1, 1) := by decide +kernel
theorem dX12_roll_32 : decode cX12_roll 32 = .ok (.goto 4, 3) := by decide +kernel
theorem dX12_roll_35 : decode cX12_roll 35 = .ok (.iconst 0, 1) := by decide +kernel
theorem dX12_roll_36 : decode cX12_roll 36 = .ok (.istore 6, 2) := by decide +kernel
theorem dX12_roll_38 : decode cX12_roll 38 = .ok (.iload 6, 2) := by decide +kernel
theorem dX12_roll_40 : decode cX12_roll 40 = .ok (.ifCond .ne 82, 3) := by decide +kernel
theorem dX12_roll_43 : decode cX12_roll 43 = .ok (.aload_n 0, 1) := by decide +kernel
theorem dX12_roll_44 : decode cX12_roll 44 = .ok (.iload 4, 2) := by decide +kernel
theorem dX12_roll_46 : decode cX12_roll 46 = .ok (.iload 5, 2) := by decide +kernel
theorem dX12_roll_48 : decode cX12_roll 48 = .ok (.iload_n 2, 1) := by decide +kernel
theorem dX12_roll_49 : decode cX12_roll 49 = .ok (.invokevirtual 196, 3) := by decide +kernel
theorem dX12_roll_52 : decode cX12_roll 52 = .ok (.istore 5, 2) := by decide +kernel
theorem dX12_roll_54 : decode cX12_roll 54 = .ok (.iload 5, 2) := by decide +kernel
theorem dX12_roll_56 : decode cX12_roll 56 = .ok (.bipush (-9), 2) := by decide +kernel
theorem dX12_roll_58 : decode cX12_roll 58 = .ok (.if_icmp .ne 10, 3) := by decide +kernel
theorem dX12_roll_61 : decode cX12_roll 61 = .ok (.aload_n 0, 1) := by decide +kernel
theorem dX12_roll_62 : decode cX12_roll 62 = .ok (.iload 4, 2) := by decide +kernel
theorem dX12_roll_64 : decode cX12_roll 64 = .ok (.putfield 200, 3) := by decide +kernel
theorem dX12_roll_67 : decode cX12_roll 67 = .ok (.return_, 1) := by decide +kernel
theorem dX12_roll_68 : decode cX12_roll 68 = .ok (.aload_n 0, 1) := by decide +kernel
theorem dX12_roll_69 : decode cX12_roll 69 = .ok (.iload 4, 2) := by decide +kernel
theorem dX12_roll_71 : decode cX12_roll 71 = .ok (.iload 5, 2) := by decide +kernel
theorem dX12_roll_73 : decode cX12_roll 73 = .ok (.invokevirtual 187, 3) := by decide +kernel
theorem dX12_roll_76 : decode cX12_roll 76 = .ok (.istore 4, 2) := by decide +kernel
theorem dX12_roll_78 : decode cX12_roll 78 = .ok (.aload_n 0, 1) := by decide +kernel
theorem dX12_roll_79 : decode cX12_roll 79 = .ok (.dup, 1) := by decide +kernel
theorem dX12_roll_80 : decode cX12_roll 80 = .ok (.getfield 190, 3) := by decide +kernel
theorem dX12_roll_83 : decode cX12_roll 83 = .ok (.iconst 1, 1) := by decide +kernel
theorem dX12_roll_84 : decode cX12_roll 84 = .ok (.iadd, 1) := by decide +kernel
theorem dX12_roll_85 : decode cX12_roll 85 = .ok (.putfield 190, 3) := by decide +kernel
theorem dX12_roll_88 : decode cX12_roll 88 = .ok (.aload_n 0, 1) := by decide +kernel
theorem dX12_roll_89 : decode cX12_roll 89 = .ok (.dup, 1) := by decide +kernel
theorem dX12_roll_90 : decode cX12_roll 90 = .ok (.getfield 193, 3) := by decide +kernel
theorem dX12_roll_93 : decode cX12_roll 93 = .ok (.iconst 1, 1) := by decide +kernel
theorem dX12_roll_94 : decode cX12_roll 94 = .ok (.iload 4, 2) := by decide +kernel
theorem dX12_roll_96 : decode cX12_roll 96 = .ok (.ishl, 1) := by decide +kernel
theorem dX12_roll_97 : decode cX12_roll 97 = .ok (.ior, 1) := by decide +kernel
theorem dX12_roll_98 : decode cX12_roll 98 = .ok (.putfield 193, 3) := by decide +kernel
theorem dX12_roll_101 : decode cX12_roll 101 = .ok (.aload_n 0, 1) := by decide +kernel
theorem dX12_roll_102 : decode cX12_roll 102 = .ok (.getfield 23, 3) := by decide +kernel
theorem dX12_roll_105 : decode cX12_roll 105 = .ok (.iload 4, 2) := by decide +kernel
theorem dX12_roll_107 : decode cX12_roll 107 = .ok (.iaload, 1) := by decide +kernel
theorem dX12_roll_108 : decode cX12_roll 108 = .ok (.iload_n 1, 1) := by decide +kernel
theorem dX12_roll_109 : decode cX12_roll 109 = .ok (.if_icmp .lt 7, 3) := by decide +kernel
theorem dX12_roll_112 : decode cX12_roll 112 = .ok (.iconst 1, 1) := by decide +kernel
theorem dX12_roll_113 : decode cX12_roll 113 = .ok (.goto 4, 3) := by decide +kernel
theorem dX12_roll_116 : decode cX12_roll 116 = .ok (.iconst 0, 1) := by decide +kernel
theorem dX12_roll_117 : decode cX12_roll 117 = .ok (.istore 6, 2) := by decide +kernel
theorem dX12_roll_119 : decode cX12_roll 119 = .ok (.goto (-81), 3) := by decide +kernel
theorem dX12_roll_122 : decode cX12_roll 122 = .ok (.aload_n 0, 1) := by decide +kernel
theorem dX12_roll_123 : decode cX12_roll 123 = .ok (.iload 4, 2) := by decide +kernel
theorem dX12_roll_125 : decode cX12_roll 125 = .ok (.bipush 100, 2) := by decide +kernel
theorem dX12_roll_127 : decode cX12_roll 127 = .ok (.iadd, 1) := by decide +kernel
theorem dX12_roll_128 : decode cX12_roll 128 = .ok (.putfield 200, 3) := by decide +kernel
theorem dX12_roll_131 : decode cX12_roll 131 = .ok (.return_, 1) := by decide +kernel
set_option maxRecDepth 20000 in
theorem ggX12_rollKind_X12_roll : GoodIn wsX12_rollKind wsX12_roll := goodIn_r _ [7, 8, 9, 10, 11, 12, 13, 14, 6, 15, 16, 17, 18, 19, 20, 21, 22, 23, 24, 25, 26, 27, 28, 29, 30, 31, 32, 33, 34, 35, 36, 37, 38, 39, 40, 41, 42, 43, 44, 45, 46, 47, 48, 49, 50, 51, 52, 53, 54, 55, 56, 57, 58, 59, 60, 61, 62, 63, 64, 65, 66, 67, 68, 69, 70, 71, 72, 73, 74, 75, 76, 77, 78, 79, 80, 81, 82, 83, 84] (by decide +kernel) (by decide +kernel)
set_option maxRecDepth 20000 in
theorem gX12_rollKind_X12_roll : GoodIn wsX12_rollKind (wsV RX12 203 RX12 yX12_roll wsX12_roll) := goodIn_app (goodIn_of _ (by decide +kernel)) ggX12_rollKind_X12_roll
theorem dX12_rollKind_0 : decode cX12_rollKind 0 = .ok (.aload_n 0, 1) := by decide +kernel
theorem dX12_rollKind_1 : decode cX12_rollKind 1 = .ok (.aload_n 0, 1) := by decide +kernel
theorem dX12_rollKind_2 : decode cX12_rollKind 2 = .ok (.getfield 29, 3) := by decide +kernel
theorem dX12_rollKind_5 : decode cX12_rollKind 5 = .ok (.iload_n 1, 1) := by decide +kernel
theorem dX12_rollKind_6 : decode cX12_rollKind 6 = .ok (.iaload, 1) := by decide +kernel
theorem dX12_rollKind_7 : decode cX12_rollKind 7 = .ok (.aload_n 0, 1) := by decide +kernel
theorem dX12_rollKind_8 : decode cX12_rollKind 8 = .ok (.getfield 35, 3) := by decide +kernel
theorem dX12_rollKind_11 : decode cX12_rollKind 11 = .ok (.iload_n 1, 1) := by decide +kernel
theorem dX12_rollKind_12 : decode cX12_rollKind 12 = .ok (.iaload, 1) := by decide +kernel
theorem dX12_rollKind_13 : decode cX12_rollKind 13 = .ok (.iload_n 2, 1) := by decide +kernel
theorem dX12_rollKind_14 : decode cX12_rollKind 14 = .ok (.invokevirtual 203, 3) := by decide +kernel
theorem dX12_rollKind_17 : decode cX12_rollKind 17 = .ok (.return_, 1) := by decide +kernel
set_option maxRecDepth 20000 in
theorem ggX12_toldEnd_X12_pairOf : GoodIn wsX12_toldEnd wsX12_pairOf := goodIn_r _ [6, 7, 8, 9, 10, 11, 12, 13, 14, 15, 16, 17, 18, 19, 20, 21, 22, 23, 24, 25, 26, 27, 28, 29, 30, 31, 32, 33, 34, 35, 36, 37, 38, 39, 40, 41, 42, 43] (by decide +kernel) (by decide +kernel)
set_option maxRecDepth 20000 in
theorem gX12_toldEnd_X12_pairOf : GoodIn wsX12_toldEnd (wsV RX12 207 RX12 yX12_pairOf wsX12_pairOf) := goodIn_app (goodIn_of _ (by decide +kernel)) ggX12_toldEnd_X12_pairOf
theorem dX12_toldEnd_0 : decode cX12_toldEnd 0 = .ok (.aload_n 0, 1) := by decide +kernel
theorem dX12_toldEnd_1 : decode cX12_toldEnd 1 = .ok (.getfield 200, 3) := by decide +kernel
theorem dX12_toldEnd_4 : decode cX12_toldEnd 4 = .ok (.bipush 100, 2) := by decide +kernel
theorem dX12_toldEnd_6 : decode cX12_toldEnd 6 = .ok (.if_icmp .lt 20, 3) := by decide +kernel
theorem dX12_toldEnd_9 : decode cX12_toldEnd 9 = .ok (.bipush 100, 2) := by decide +kernel
theorem dX12_toldEnd_11 : decode cX12_toldEnd 11 = .ok (.aload_n 0, 1) := by decide +kernel
theorem dX12_toldEnd_12 : decode cX12_toldEnd 12 = .ok (.aload_n 0, 1) := by decide +kernel
theorem dX12_toldEnd_13 : decode cX12_toldEnd 13 = .ok (.getfield 200, 3) := by decide +kernel
theorem dX12_toldEnd_16 : decode cX12_toldEnd 16 = .ok (.bipush 100, 2) := by decide +kernel
theorem dX12_toldEnd_18 : decode cX12_toldEnd 18 = .ok (.isub, 1) := by decide +kernel
theorem dX12_toldEnd_19 : decode cX12_toldEnd 19 = .ok (.invokevirtual 207, 3) := by decide +kernel
theorem dX12_toldEnd_22 : decode cX12_toldEnd 22 = .ok (.iadd, 1) := by decide +kernel
theorem dX12_toldEnd_23 : decode cX12_toldEnd 23 = .ok (.goto 11, 3) := by decide +kernel
theorem dX12_toldEnd_26 : decode cX12_toldEnd 26 = .ok (.aload_n 0, 1) := by decide +kernel
theorem dX12_toldEnd_27 : decode cX12_toldEnd 27 = .ok (.aload_n 0, 1) := by decide +kernel
theorem dX12_toldEnd_28 : decode cX12_toldEnd 28 = .ok (.getfield 200, 3) := by decide +kernel
theorem dX12_toldEnd_31 : decode cX12_toldEnd 31 = .ok (.invokevirtual 207, 3) := by decide +kernel
theorem dX12_toldEnd_34 : decode cX12_toldEnd 34 = .ok (.ireturn, 1) := by decide +kernel
set_option maxRecDepth 20000 in
theorem ggX12_endOf_X12_rollKind : GoodIn wsX12_endOf wsX12_rollKind := goodIn_r _ [6, 7, 8, 9, 10, 11, 5, 12, 13, 14, 15, 1, 16, 17, 18, 19, 20, 21, 22, 23, 24, 25, 26, 27, 28, 29, 30, 31, 32, 33, 34, 35, 36, 37, 38, 39, 40, 41, 42, 43, 44, 45, 46, 47, 48, 49, 50, 51, 52, 53, 54, 55, 56, 57, 58, 59, 60, 61, 62, 63, 64, 65, 66, 67, 68, 69, 70, 71, 72, 73, 74, 75, 76, 77, 78, 79, 80, 81, 82, 83, 84, 85, 86, 87, 88] (by decide +kernel) (by decide +kernel)
set_option maxRecDepth 20000 in
theorem gX12_endOf_X12_rollKind : GoodIn wsX12_endOf (wsV RX12 210 RX12 yX12_rollKind wsX12_rollKind) := goodIn_app (goodIn_of _ (by decide +kernel)) ggX12_endOf_X12_rollKind
theorem dX12_endOf_0 : decode cX12_endOf 0 = .ok (.aload_n 0, 1) := by decide +kernel
theorem dX12_endOf_1 : decode cX12_endOf 1 = .ok (.iload_n 1, 1) := by decide +kernel
theorem dX12_endOf_2 : decode cX12_endOf 2 = .ok (.iload_n 2, 1) := by decide +kernel
theorem dX12_endOf_3 : decode cX12_endOf 3 = .ok (.invokevirtual 210, 3) := by decide +kernel
theorem dX12_endOf_6 : decode cX12_endOf 6 = .ok (.aload_n 0, 1) := by decide +kernel
theorem dX12_endOf_7 : decode cX12_endOf 7 = .ok (.getfield 200, 3) := by decide +kernel
theorem dX12_endOf_10 : decode cX12_endOf 10 = .ok (.bipush 100, 2) := by decide +kernel
theorem dX12_endOf_12 : decode cX12_endOf 12 = .ok (.irem, 1) := by decide +kernel
theorem dX12_endOf_13 : decode cX12_endOf 13 = .ok (.ireturn, 1) := by decide +kernel
set_option maxRecDepth 20000 in
theorem ggX12_cell_X12_isCell : GoodIn wsX12_cell wsX12_isCell := goodIn_r _ [7, 8, 9, 10, 11, 6, 12, 52, 53, 54, 55, 56, 57, 58, 59, 60, 61, 62, 63, 64, 65, 66, 67, 68, 69, 70, 71, 72, 73, 74, 75, 76, 77, 78, 79, 80, 81, 82, 83, 84, 85, 86, 87] (by decide +kernel) (by decide +kernel)
set_option maxRecDepth 20000 in
theorem gX12_cell_X12_isCell : GoodIn wsX12_cell (wsV RX12 160 RX12 yX12_isCell wsX12_isCell) := goodIn_app (goodIn_of _ (by decide +kernel)) ggX12_cell_X12_isCell
set_option maxRecDepth 20000 in
theorem ggX12_cell_X12_bit : GoodIn wsX12_cell wsX12_bit := goodIn_r _ [16, 8, 52, 53, 54, 55, 56, 57, 58, 59, 60, 61, 62, 63, 64, 65, 66, 67, 68, 69, 70, 71, 72, 73, 74, 75, 76, 77, 78, 79, 80, 81, 82, 83, 84, 85, 86, 87] (by decide +kernel) (by decide +kernel)
set_option maxRecDepth 20000 in
theorem gX12_cell_X12_bit : GoodIn wsX12_cell (wsV RX12 164 RX12 yX12_bit wsX12_bit) := goodIn_app (goodIn_of _ (by decide +kernel)) ggX12_cell_X12_bit
set_option maxRecDepth 20000 in
theorem ggX12_cell_X12_liesOn : GoodIn wsX12_cell wsX12_liesOn := goodIn_r _ [20, 1, 21, 52, 53, 54, 55, 56, 57, 58, 59, 60, 61, 62, 63, 64, 65, 66, 67, 68, 69, 70, 71, 72, 73, 74, 75, 76, 77, 78, 79, 80, 81, 82, 83, 84, 85, 86, 87] (by decide +kernel) (by decide +kernel)
set_option maxRecDepth 20000 in
theorem gX12_cell_X12_liesOn : GoodIn wsX12_cell (wsV RX12 214 RX12 yX12_liesOn wsX12_liesOn) := goodIn_app (goodIn_of _ (by decide +kernel)) ggX12_cell_X12_liesOn
set_option maxRecDepth 20000 in
theorem ggX12_cell_X12_shutWays : GoodIn wsX12_cell wsX12_shutWays := goodIn_r _ [25, 26, 27, 28, 6, 29, 30, 31, 32, 33, 34, 35, 8, 9, 36, 37, 38, 39, 40, 41, 42, 43, 44, 45, 46, 47, 48, 49, 50, 51, 1, 52, 53, 54, 55, 56, 57, 58, 59, 60, 61, 62, 63, 64, 65, 66, 67, 68, 69, 70, 71, 72, 73, 74, 75, 76, 77, 78, 79, 80, 81, 82, 83, 84, 85, 86, 87] (by decide +kernel) (by decide +kernel)
set_option maxRecDepth 20000 in
theorem gX12_cell_X12_shutWays : GoodIn wsX12_cell (wsV RX12 217 RX12 yX12_shutWays wsX12_shutWays) := goodIn_app (goodIn_of _ (by decide +kernel)) ggX12_cell_X12_shutWays
theorem dX12_cell_0 : decode cX12_cell 0 = .ok (.aload_n 0, 1) := by decide +kernel
theorem dX12_cell_1 : decode cX12_cell 1 = .ok (.iload_n 1, 1) := by decide +kernel
theorem dX12_cell_2 : decode cX12_cell 2 = .ok (.iload_n 2, 1) := by decide +kernel
theorem dX12_cell_3 : decode cX12_cell 3 = .ok (.invokevirtual 160, 3) := by decide +kernel
theorem dX12_cell_6 : decode cX12_cell 6 = .ok (.ifCond .ne 5, 3) := by decide +kernel
theorem dX12_cell_9 : decode cX12_cell 9 = .ok (.iconst (-1), 1) := by decide +kernel
theorem dX12_cell_10 : decode cX12_cell 10 = .ok (.ireturn, 1) := by decide +kernel
theorem dX12_cell_11 : decode cX12_cell 11 = .ok (.aload_n 0, 1) := by decide +kernel
theorem dX12_cell_12 : decode cX12_cell 12 = .ok (.iload_n 1, 1) := by decide +kernel
theorem dX12_cell_13 : decode cX12_cell 13 = .ok (.iload_n 2, 1) := by decide +kernel
theorem dX12_cell_14 : decode cX12_cell 14 = .ok (.invokevirtual 164, 3) := by decide +kernel
theorem dX12_cell_17 : decode cX12_cell 17 = .ok (.istore 4, 2) := by decide +kernel
theorem dX12_cell_19 : decode cX12_cell 19 = .ok (.iload_n 3, 1) := by decide +kernel
theorem dX12_cell_20 : decode cX12_cell 20 = .ok (.tableswitch 109 0 6 #[44, 54, 62, 69, 80, 91, 102], 44) := by decide +kernel
theorem dX12_cell_64 : decode cX12_cell 64 = .ok (.aload_n 0, 1) := by decide +kernel
theorem dX12_cell_65 : decode cX12_cell 65 = .ok (.getfield 7, 3) := by decide +kernel
theorem dX12_cell_68 : decode cX12_cell 68 = .ok (.iconst 1, 1) := by decide +kernel
theorem dX12_cell_69 : decode cX12_cell 69 = .ok (.iload 4, 2) := by decide +kernel
theorem dX12_cell_71 : decode cX12_cell 71 = .ok (.iadd, 1) := by decide +kernel
theorem dX12_cell_72 : decode cX12_cell 72 = .ok (.iaload, 1) := by decide +kernel
theorem dX12_cell_73 : decode cX12_cell 73 = .ok (.ireturn, 1) := by decide +kernel
theorem dX12_cell_74 : decode cX12_cell 74 = .ok (.aload_n 0, 1) := by decide +kernel
theorem dX12_cell_75 : decode cX12_cell 75 = .ok (.getfield 23, 3) := by decide +kernel
theorem dX12_cell_78 : decode cX12_cell 78 = .ok (.iload 4, 2) := by decide +kernel
theorem dX12_cell_80 : decode cX12_cell 80 = .ok (.iaload, 1) := by decide +kernel
theorem dX12_cell_81 : decode cX12_cell 81 = .ok (.ireturn, 1) := by decide +kernel
theorem dX12_cell_82 : decode cX12_cell 82 = .ok (.aload_n 0, 1) := by decide +kernel
theorem dX12_cell_83 : decode cX12_cell 83 = .ok (.iload 4, 2) := by decide +kernel
theorem dX12_cell_85 : decode cX12_cell 85 = .ok (.invokevirtual 214, 3) := by decide +kernel
theorem dX12_cell_88 : decode cX12_cell 88 = .ok (.ireturn, 1) := by decide +kernel
theorem dX12_cell_89 : decode cX12_cell 89 = .ok (.aload_n 0, 1) := by decide +kernel
theorem dX12_cell_90 : decode cX12_cell 90 = .ok (.getfield 7, 3) := by decide +kernel
theorem dX12_cell_93 : decode cX12_cell 93 = .ok (.bipush 61, 2) := by decide +kernel
theorem dX12_cell_95 : decode cX12_cell 95 = .ok (.iload 4, 2) := by decide +kernel
theorem dX12_cell_97 : decode cX12_cell 97 = .ok (.iadd, 1) := by decide +kernel
theorem dX12_cell_98 : decode cX12_cell 98 = .ok (.iaload, 1) := by decide +kernel
theorem dX12_cell_99 : decode cX12_cell 99 = .ok (.ireturn, 1) := by decide +kernel
theorem dX12_cell_100 : decode cX12_cell 100 = .ok (.aload_n 0, 1) := by decide +kernel
theorem dX12_cell_101 : decode cX12_cell 101 = .ok (.getfield 7, 3) := by decide +kernel
theorem dX12_cell_104 : decode cX12_cell 104 = .ok (.bipush 91, 2) := by decide +kernel
theorem dX12_cell_106 : decode cX12_cell 106 = .ok (.iload 4, 2) := by decide +kernel
theorem dX12_cell_108 : decode cX12_cell 108 = .ok (.iadd, 1) := by decide +kernel
theorem dX12_cell_109 : decode cX12_cell 109 = .ok (.iaload, 1) := by decide +kernel
theorem dX12_cell_110 : decode cX12_cell 110 = .ok (.ireturn, 1) := by decide +kernel
theorem dX12_cell_111 : decode cX12_cell 111 = .ok (.aload_n 0, 1) := by decide +kernel
theorem dX12_cell_112 : decode cX12_cell 112 = .ok (.getfield 7, 3) := by decide +kernel
theorem dX12_cell_115 : decode cX12_cell 115 = .ok (.bipush 121, 2) := by decide +kernel
theorem dX12_cell_117 : decode cX12_cell 117 = .ok (.iload 4, 2) := by decide +kernel
theorem dX12_cell_119 : decode cX12_cell 119 = .ok (.iadd, 1) := by decide +kernel
theorem dX12_cell_120 : decode cX12_cell 120 = .ok (.iaload, 1) := by decide +kernel
theorem dX12_cell_121 : decode cX12_cell 121 = .ok (.ireturn, 1) := by decide +kernel
theorem dX12_cell_122 : decode cX12_cell 122 = .ok (.aload_n 0, 1) := by decide +kernel
theorem dX12_cell_123 : decode cX12_cell 123 = .ok (.iload 4, 2) := by decide +kernel
theorem dX12_cell_125 : decode cX12_cell 125 = .ok (.invokevirtual 217, 3) := by decide +kernel
theorem dX12_cell_128 : decode cX12_cell 128 = .ok (.ireturn, 1) := by decide +kernel
theorem dX12_cell_129 : decode cX12_cell 129 = .ok (.iconst (-1), 1) := by decide +kernel
theorem dX12_cell_130 : decode cX12_cell 130 = .ok (.ireturn, 1) := by decide +kernel
set_option maxRecDepth 20000 in
theorem ggX12_kind_X12_isKind : GoodIn wsX12_kind wsX12_isKind := goodIn_r _ [8, 9, 10, 11, 7, 12, 13, 14, 15, 16, 17, 18, 19, 20, 21, 22, 23, 24, 25, 26, 27, 28, 29, 30, 31, 32, 33, 34, 35, 36, 37, 38, 39, 40, 41, 42, 43, 44, 45, 46, 47, 48] (by decide +kernel) (by decide +kernel)
set_option maxRecDepth 20000 in
theorem gX12_kind_X12_isKind : GoodIn wsX12_kind (wsV RX12 220 RX12 yX12_isKind wsX12_isKind) := goodIn_app (goodIn_of _ (by decide +kernel)) ggX12_kind_X12_isKind
theorem dX12_kind_0 : decode cX12_kind 0 = .ok (.aload_n 0, 1) := by decide +kernel
theorem dX12_kind_1 : decode cX12_kind 1 = .ok (.iload_n 1, 1) := by decide +kernel
theorem dX12_kind_2 : decode cX12_kind 2 = .ok (.invokevirtual 220, 3) := by decide +kernel
theorem dX12_kind_5 : decode cX12_kind 5 = .ok (.ifCond .ne 7, 3) := by decide +kernel
theorem dX12_kind_8 : decode cX12_kind 8 = .ok (.iconst (-1), 1) := by decide +kernel
theorem dX12_kind_9 : decode cX12_kind 9 = .ok (.goto 45, 3) := by decide +kernel
theorem dX12_kind_12 : decode cX12_kind 12 = .ok (.iload_n 2, 1) := by decide +kernel
theorem dX12_kind_13 : decode cX12_kind 13 = .ok (.ifCond .ne 12, 3) := by decide +kernel
theorem dX12_kind_16 : decode cX12_kind 16 = .ok (.aload_n 0, 1) := by decide +kernel
theorem dX12_kind_17 : decode cX12_kind 17 = .ok (.getfield 29, 3) := by decide +kernel
theorem dX12_kind_20 : decode cX12_kind 20 = .ok (.iload_n 1, 1) := by decide +kernel
theorem dX12_kind_21 : decode cX12_kind 21 = .ok (.iaload, 1) := by decide +kernel
theorem dX12_kind_22 : decode cX12_kind 22 = .ok (.goto 32, 3) := by decide +kernel
theorem dX12_kind_25 : decode cX12_kind 25 = .ok (.iload_n 2, 1) := by decide +kernel
theorem dX12_kind_26 : decode cX12_kind 26 = .ok (.iconst 1, 1) := by decide +kernel
theorem dX12_kind_27 : decode cX12_kind 27 = .ok (.if_icmp .ne 12, 3) := by decide +kernel

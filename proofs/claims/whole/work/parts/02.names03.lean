theorem dX8_go_0 : decode cX8_go 0 = .ok (.aload_n 0, 1) := by decide +kernel
theorem dX8_go_1 : decode cX8_go 1 = .ok (.iload 5, 2) := by decide +kernel
theorem dX8_go_3 : decode cX8_go 3 = .ok (.putfield 27, 3) := by decide +kernel
theorem dX8_go_6 : decode cX8_go 6 = .ok (.aload_n 0, 1) := by decide +kernel
theorem dX8_go_7 : decode cX8_go 7 = .ok (.iconst 0, 1) := by decide +kernel
theorem dX8_go_8 : decode cX8_go 8 = .ok (.putfield 31, 3) := by decide +kernel
theorem dX8_go_11 : decode cX8_go 11 = .ok (.aload_n 0, 1) := by decide +kernel
theorem dX8_go_12 : decode cX8_go 12 = .ok (.iconst 0, 1) := by decide +kernel
theorem dX8_go_13 : decode cX8_go 13 = .ok (.putfield 35, 3) := by decide +kernel
theorem dX8_go_16 : decode cX8_go 16 = .ok (.aload_n 0, 1) := by decide +kernel
theorem dX8_go_17 : decode cX8_go 17 = .ok (.iconst 1, 1) := by decide +kernel
theorem dX8_go_18 : decode cX8_go 18 = .ok (.iload 5, 2) := by decide +kernel
theorem dX8_go_20 : decode cX8_go 20 = .ok (.ishl, 1) := by decide +kernel
theorem dX8_go_21 : decode cX8_go 21 = .ok (.putfield 38, 3) := by decide +kernel
theorem dX8_go_24 : decode cX8_go 24 = .ok (.iconst (-1), 1) := by decide +kernel
theorem dX8_go_25 : decode cX8_go 25 = .ok (.istore 6, 2) := by decide +kernel
theorem dX8_go_27 : decode cX8_go 27 = .ok (.iconst 0, 1) := by decide +kernel
theorem dX8_go_28 : decode cX8_go 28 = .ok (.istore 7, 2) := by decide +kernel
theorem dX8_go_30 : decode cX8_go 30 = .ok (.iload 7, 2) := by decide +kernel
theorem dX8_go_32 : decode cX8_go 32 = .ok (.bipush 9, 2) := by decide +kernel
theorem dX8_go_34 : decode cX8_go 34 = .ok (.if_icmp .gt 109, 3) := by decide +kernel
theorem dX8_go_37 : decode cX8_go 37 = .ok (.aload_n 1, 1) := by decide +kernel
theorem dX8_go_38 : decode cX8_go 38 = .ok (.getfield 41, 3) := by decide +kernel
theorem dX8_go_41 : decode cX8_go 41 = .ok (.aload_n 0, 1) := by decide +kernel
theorem dX8_go_42 : decode cX8_go 42 = .ok (.getfield 27, 3) := by decide +kernel
theorem dX8_go_45 : decode cX8_go 45 = .ok (.iaload, 1) := by decide +kernel
theorem dX8_go_46 : decode cX8_go 46 = .ok (.iload_n 3, 1) := by decide +kernel
theorem dX8_go_47 : decode cX8_go 47 = .ok (.if_icmp .lt 9, 3) := by decide +kernel
theorem dX8_go_50 : decode cX8_go 50 = .ok (.aload_n 0, 1) := by decide +kernel
theorem dX8_go_51 : decode cX8_go 51 = .ok (.iconst 1, 1) := by decide +kernel
theorem dX8_go_52 : decode cX8_go 52 = .ok (.putfield 31, 3) := by decide +kernel
theorem dX8_go_55 : decode cX8_go 55 = .ok (.return_, 1) := by decide +kernel
theorem dX8_go_56 : decode cX8_go 56 = .ok (.aload_n 0, 1) := by decide +kernel
theorem dX8_go_57 : decode cX8_go 57 = .ok (.aload_n 1, 1) := by decide +kernel
theorem dX8_go_58 : decode cX8_go 58 = .ok (.aload_n 2, 1) := by decide +kernel
theorem dX8_go_59 : decode cX8_go 59 = .ok (.iload 4, 2) := by decide +kernel
theorem dX8_go_61 : decode cX8_go 61 = .ok (.iload 6, 2) := by decide +kernel
theorem dX8_go_63 : decode cX8_go 63 = .ok (.invokevirtual 44, 3) := by decide +kernel
theorem dX8_go_66 : decode cX8_go 66 = .ok (.istore 8, 2) := by decide +kernel
theorem dX8_go_68 : decode cX8_go 68 = .ok (.iload 8, 2) := by decide +kernel
theorem dX8_go_70 : decode cX8_go 70 = .ok (.iconst (-1), 1) := by decide +kernel
theorem dX8_go_71 : decode cX8_go 71 = .ok (.if_icmp .ne 4, 3) := by decide +kernel
theorem dX8_go_74 : decode cX8_go 74 = .ok (.return_, 1) := by decide +kernel
theorem dX8_go_75 : decode cX8_go 75 = .ok (.aload_n 0, 1) := by decide +kernel
theorem dX8_go_76 : decode cX8_go 76 = .ok (.getfield 9, 3) := by decide +kernel
theorem dX8_go_79 : decode cX8_go 79 = .ok (.aload_n 0, 1) := by decide +kernel
theorem dX8_go_80 : decode cX8_go 80 = .ok (.getfield 35, 3) := by decide +kernel
theorem dX8_go_83 : decode cX8_go 83 = .ok (.aload_n 1, 1) := by decide +kernel
theorem dX8_go_84 : decode cX8_go 84 = .ok (.aload_n 0, 1) := by decide +kernel
theorem dX8_go_85 : decode cX8_go 85 = .ok (.getfield 27, 3) := by decide +kernel
theorem dX8_go_88 : decode cX8_go 88 = .ok (.iload 8, 2) := by decide +kernel
theorem dX8_go_90 : decode cX8_go 90 = .ok (.invokestatic 48, 3) := by decide +kernel
theorem dX8_go_93 : decode cX8_go 93 = .ok (.iastore, 1) := by decide +kernel
theorem dX8_go_94 : decode cX8_go 94 = .ok (.aload_n 0, 1) := by decide +kernel
theorem dX8_go_95 : decode cX8_go 95 = .ok (.dup, 1) := by decide +kernel
theorem dX8_go_96 : decode cX8_go 96 = .ok (.getfield 35, 3) := by decide +kernel
theorem dX8_go_99 : decode cX8_go 99 = .ok (.iconst 1, 1) := by decide +kernel
theorem dX8_go_100 : decode cX8_go 100 = .ok (.iadd, 1) := by decide +kernel
theorem dX8_go_101 : decode cX8_go 101 = .ok (.putfield 35, 3) := by decide +kernel
theorem dX8_go_104 : decode cX8_go 104 = .ok (.aload_n 0, 1) := by decide +kernel
theorem dX8_go_105 : decode cX8_go 105 = .ok (.aload_n 1, 1) := by decide +kernel
theorem dX8_go_106 : decode cX8_go 106 = .ok (.aload_n 0, 1) := by decide +kernel
theorem dX8_go_107 : decode cX8_go 107 = .ok (.getfield 27, 3) := by decide +kernel
theorem dX8_go_110 : decode cX8_go 110 = .ok (.iload 8, 2) := by decide +kernel
theorem dX8_go_112 : decode cX8_go 112 = .ok (.invokevirtual 52, 3) := by decide +kernel
theorem dX8_go_115 : decode cX8_go 115 = .ok (.putfield 27, 3) := by decide +kernel
theorem dX8_go_118 : decode cX8_go 118 = .ok (.aload_n 0, 1) := by decide +kernel
theorem dX8_go_119 : decode cX8_go 119 = .ok (.dup, 1) := by decide +kernel
theorem dX8_go_120 : decode cX8_go 120 = .ok (.getfield 38, 3) := by decide +kernel
theorem dX8_go_123 : decode cX8_go 123 = .ok (.iconst 1, 1) := by decide +kernel
theorem dX8_go_124 : decode cX8_go 124 = .ok (.aload_n 0, 1) := by decide +kernel
theorem dX8_go_125 : decode cX8_go 125 = .ok (.getfield 27, 3) := by decide +kernel
theorem dX8_go_128 : decode cX8_go 128 = .ok (.ishl, 1) := by decide +kernel
theorem dX8_go_129 : decode cX8_go 129 = .ok (.ior, 1) := by decide +kernel
theorem dX8_go_130 : decode cX8_go 130 = .ok (.putfield 38, 3) := by decide +kernel
theorem dX8_go_133 : decode cX8_go 133 = .ok (.iload 8, 2) := by decide +kernel
theorem dX8_go_135 : decode cX8_go 135 = .ok (.istore 6, 2) := by decide +kernel
theorem dX8_go_137 : decode cX8_go 137 = .ok (.iinc 7 1, 3) := by decide +kernel
theorem dX8_go_140 : decode cX8_go 140 = .ok (.goto (-110), 3) := by decide +kernel
theorem dX8_go_143 : decode cX8_go 143 = .ok (.return_, 1) := by decide +kernel
theorem dX8_wayDown_0 : decode cX8_wayDown 0 = .ok (.aload_n 1, 1) := by decide +kernel
theorem dX8_wayDown_1 : decode cX8_wayDown 1 = .ok (.getfield 56, 3) := by decide +kernel
theorem dX8_wayDown_4 : decode cX8_wayDown 4 = .ok (.aload_n 0, 1) := by decide +kernel
theorem dX8_wayDown_5 : decode cX8_wayDown 5 = .ok (.getfield 27, 3) := by decide +kernel
theorem dX8_wayDown_8 : decode cX8_wayDown 8 = .ok (.iaload, 1) := by decide +kernel
theorem dX8_wayDown_9 : decode cX8_wayDown 9 = .ok (.aload_n 2, 1) := by decide +kernel
theorem dX8_wayDown_10 : decode cX8_wayDown 10 = .ok (.getfield 59, 3) := by decide +kernel
theorem dX8_wayDown_13 : decode cX8_wayDown 13 = .ok (.aload_n 0, 1) := by decide +kernel
theorem dX8_wayDown_14 : decode cX8_wayDown 14 = .ok (.getfield 27, 3) := by decide +kernel
theorem dX8_wayDown_17 : decode cX8_wayDown 17 = .ok (.iaload, 1) := by decide +kernel
theorem dX8_wayDown_18 : decode cX8_wayDown 18 = .ok (.ior, 1) := by decide +kernel
theorem dX8_wayDown_19 : decode cX8_wayDown 19 = .ok (.istore 5, 2) := by decide +kernel
theorem dX8_wayDown_21 : decode cX8_wayDown 21 = .ok (.aload_n 2, 1) := by decide +kernel
theorem dX8_wayDown_22 : decode cX8_wayDown 22 = .ok (.getfield 64, 3) := by decide +kernel
theorem dX8_wayDown_25 : decode cX8_wayDown 25 = .ok (.aload_n 0, 1) := by decide +kernel
theorem dX8_wayDown_26 : decode cX8_wayDown 26 = .ok (.getfield 27, 3) := by decide +kernel
theorem dX8_wayDown_29 : decode cX8_wayDown 29 = .ok (.iaload, 1) := by decide +kernel
theorem dX8_wayDown_30 : decode cX8_wayDown 30 = .ok (.istore 6, 2) := by decide +kernel
theorem dX8_wayDown_32 : decode cX8_wayDown 32 = .ok (.iconst (-1), 1) := by decide +kernel
theorem dX8_wayDown_33 : decode cX8_wayDown 33 = .ok (.istore 7, 2) := by decide +kernel
theorem dX8_wayDown_35 : decode cX8_wayDown 35 = .ok (.iconst 0, 1) := by decide +kernel
theorem dX8_wayDown_36 : decode cX8_wayDown 36 = .ok (.istore 8, 2) := by decide +kernel
theorem dX8_wayDown_38 : decode cX8_wayDown 38 = .ok (.iload 8, 2) := by decide +kernel
theorem dX8_wayDown_40 : decode cX8_wayDown 40 = .ok (.iconst 4, 1) := by decide +kernel
theorem dX8_wayDown_41 : decode cX8_wayDown 41 = .ok (.if_icmp .ge 112, 3) := by decide +kernel
theorem dX8_wayDown_44 : decode cX8_wayDown 44 = .ok (.iload_n 3, 1) := by decide +kernel
theorem dX8_wayDown_45 : decode cX8_wayDown 45 = .ok (.ifCond .eq 10, 3) := by decide +kernel
theorem dX8_wayDown_48 : decode cX8_wayDown 48 = .ok (.iconst 3, 1) := by decide +kernel
theorem dX8_wayDown_49 : decode cX8_wayDown 49 = .ok (.iload 8, 2) := by decide +kernel
theorem dX8_wayDown_51 : decode cX8_wayDown 51 = .ok (.isub, 1) := by decide +kernel
theorem dX8_wayDown_52 : decode cX8_wayDown 52 = .ok (.goto 5, 3) := by decide +kernel
theorem dX8_wayDown_55 : decode cX8_wayDown 55 = .ok (.iload 8, 2) := by decide +kernel
theorem dX8_wayDown_57 : decode cX8_wayDown 57 = .ok (.istore 9, 2) := by decide +kernel
theorem dX8_wayDown_59 : decode cX8_wayDown 59 = .ok (.aload_n 1, 1) := by decide +kernel
theorem dX8_wayDown_60 : decode cX8_wayDown 60 = .ok (.getfield 67, 3) := by decide +kernel
theorem dX8_wayDown_63 : decode cX8_wayDown 63 = .ok (.iconst 4, 1) := by decide +kernel
theorem dX8_wayDown_64 : decode cX8_wayDown 64 = .ok (.aload_n 0, 1) := by decide +kernel
theorem dX8_wayDown_65 : decode cX8_wayDown 65 = .ok (.getfield 27, 3) := by decide +kernel
theorem dX8_wayDown_68 : decode cX8_wayDown 68 = .ok (.imul, 1) := by decide +kernel
theorem dX8_wayDown_69 : decode cX8_wayDown 69 = .ok (.iload 9, 2) := by decide +kernel
theorem dX8_wayDown_71 : decode cX8_wayDown 71 = .ok (.iadd, 1) := by decide +kernel
theorem dX8_wayDown_72 : decode cX8_wayDown 72 = .ok (.iaload, 1) := by decide +kernel
theorem dX8_wayDown_73 : decode cX8_wayDown 73 = .ok (.istore 10, 2) := by decide +kernel
theorem dX8_wayDown_75 : decode cX8_wayDown 75 = .ok (.iload 5, 2) := by decide +kernel
theorem dX8_wayDown_77 : decode cX8_wayDown 77 = .ok (.iload 9, 2) := by decide +kernel
theorem dX8_wayDown_79 : decode cX8_wayDown 79 = .ok (.ishr, 1) := by decide +kernel
theorem dX8_wayDown_80 : decode cX8_wayDown 80 = .ok (.iconst 1, 1) := by decide +kernel
theorem dX8_wayDown_81 : decode cX8_wayDown 81 = .ok (.iand, 1) := by decide +kernel
theorem dX8_wayDown_82 : decode cX8_wayDown 82 = .ok (.ifCond .ne 65, 3) := by decide +kernel
theorem dX8_wayDown_85 : decode cX8_wayDown 85 = .ok (.iload 10, 2) := by decide +kernel
theorem dX8_wayDown_87 : decode cX8_wayDown 87 = .ok (.iconst (-1), 1) := by decide +kernel
theorem dX8_wayDown_88 : decode cX8_wayDown 88 = .ok (.if_icmp .eq 59, 3) := by decide +kernel
theorem dX8_wayDown_91 : decode cX8_wayDown 91 = .ok (.aload_n 2, 1) := by decide +kernel
theorem dX8_wayDown_92 : decode cX8_wayDown 92 = .ok (.getfield 64, 3) := by decide +kernel
theorem dX8_wayDown_95 : decode cX8_wayDown 95 = .ok (.iload 10, 2) := by decide +kernel
theorem dX8_wayDown_97 : decode cX8_wayDown 97 = .ok (.iaload, 1) := by decide +kernel
theorem dX8_wayDown_98 : decode cX8_wayDown 98 = .ok (.istore 11, 2) := by decide +kernel
theorem dX8_wayDown_100 : decode cX8_wayDown 100 = .ok (.iload 11, 2) := by decide +kernel
theorem dX8_wayDown_102 : decode cX8_wayDown 102 = .ok (.iload 6, 2) := by decide +kernel
theorem dX8_wayDown_104 : decode cX8_wayDown 104 = .ok (.if_icmp .ne 20, 3) := by decide +kernel
theorem dX8_wayDown_107 : decode cX8_wayDown 107 = .ok (.iload 7, 2) := by decide +kernel
theorem dX8_wayDown_109 : decode cX8_wayDown 109 = .ok (.iconst (-1), 1) := by decide +kernel
theorem dX8_wayDown_110 : decode cX8_wayDown 110 = .ok (.if_icmp .eq 14, 3) := by decide +kernel
theorem dX8_wayDown_113 : decode cX8_wayDown 113 = .ok (.iload 9, 2) := by decide +kernel
theorem dX8_wayDown_115 : decode cX8_wayDown 115 = .ok (.iload 4, 2) := by decide +kernel
theorem dX8_wayDown_117 : decode cX8_wayDown 117 = .ok (.if_icmp .ne 7, 3) := by decide +kernel
theorem dX8_wayDown_120 : decode cX8_wayDown 120 = .ok (.iconst 1, 1) := by decide +kernel
theorem dX8_wayDown_121 : decode cX8_wayDown 121 = .ok (.goto 4, 3) := by decide +kernel
theorem dX8_wayDown_124 : decode cX8_wayDown 124 = .ok (.iconst 0, 1) := by decide +kernel
theorem dX8_wayDown_125 : decode cX8_wayDown 125 = .ok (.istore 12, 2) := by decide +kernel
theorem dX8_wayDown_127 : decode cX8_wayDown 127 = .ok (.iload 11, 2) := by decide +kernel
theorem dX8_wayDown_129 : decode cX8_wayDown 129 = .ok (.iload 6, 2) := by decide +kernel
theorem dX8_wayDown_131 : decode cX8_wayDown 131 = .ok (.if_icmp .lt 8, 3) := by decide +kernel
theorem dX8_wayDown_134 : decode cX8_wayDown 134 = .ok (.iload 12, 2) := by decide +kernel
theorem dX8_wayDown_136 : decode cX8_wayDown 136 = .ok (.ifCond .eq 11, 3) := by decide +kernel
theorem dX8_wayDown_139 : decode cX8_wayDown 139 = .ok (.iload 11, 2) := by decide +kernel
theorem dX8_wayDown_141 : decode cX8_wayDown 141 = .ok (.istore 6, 2) := by decide +kernel
theorem dX8_wayDown_143 : decode cX8_wayDown 143 = .ok (.iload 9, 2) := by decide +kernel
theorem dX8_wayDown_145 : decode cX8_wayDown 145 = .ok (.istore 7, 2) := by decide +kernel
theorem dX8_wayDown_147 : decode cX8_wayDown 147 = .ok (.iinc 8 1, 3) := by decide +kernel
theorem dX8_wayDown_150 : decode cX8_wayDown 150 = .ok (.goto (-112), 3) := by decide +kernel
theorem dX8_wayDown_153 : decode cX8_wayDown 153 = .ok (.iload 7, 2) := by decide +kernel
theorem dX8_wayDown_155 : decode cX8_wayDown 155 = .ok (.ireturn, 1) := by decide +kernel
theorem dX8_sideOf_0 : decode cX8_sideOf 0 = .ok (.iload_n 2, 1) := by decide +kernel
theorem dX8_sideOf_1 : decode cX8_sideOf 1 = .ok (.tableswitch 48 0 2 #[27, 38, 42], 27) := by decide +kernel
theorem dX8_sideOf_28 : decode cX8_sideOf 28 = .ok (.iconst 2, 1) := by decide +kernel
theorem dX8_sideOf_29 : decode cX8_sideOf 29 = .ok (.iload_n 1, 1) := by decide +kernel
theorem dX8_sideOf_30 : decode cX8_sideOf 30 = .ok (.aload_n 0, 1) := by decide +kernel
theorem dX8_sideOf_31 : decode cX8_sideOf 31 = .ok (.getfield 70, 3) := by decide +kernel
theorem dX8_sideOf_34 : decode cX8_sideOf 34 = .ok (.isub, 1) := by decide +kernel
theorem dX8_sideOf_35 : decode cX8_sideOf 35 = .ok (.imul, 1) := by decide +kernel
theorem dX8_sideOf_36 : decode cX8_sideOf 36 = .ok (.iconst 1, 1) := by decide +kernel
theorem dX8_sideOf_37 : decode cX8_sideOf 37 = .ok (.iadd, 1) := by decide +kernel
theorem dX8_sideOf_38 : decode cX8_sideOf 38 = .ok (.ireturn, 1) := by decide +kernel
theorem dX8_sideOf_39 : decode cX8_sideOf 39 = .ok (.iconst 2, 1) := by decide +kernel
theorem dX8_sideOf_40 : decode cX8_sideOf 40 = .ok (.iload_n 1, 1) := by decide +kernel
theorem dX8_sideOf_41 : decode cX8_sideOf 41 = .ok (.imul, 1) := by decide +kernel
theorem dX8_sideOf_42 : decode cX8_sideOf 42 = .ok (.ireturn, 1) := by decide +kernel
theorem dX8_sideOf_43 : decode cX8_sideOf 43 = .ok (.iconst 2, 1) := by decide +kernel
theorem dX8_sideOf_44 : decode cX8_sideOf 44 = .ok (.iload_n 1, 1) := by decide +kernel
theorem dX8_sideOf_45 : decode cX8_sideOf 45 = .ok (.imul, 1) := by decide +kernel
theorem dX8_sideOf_46 : decode cX8_sideOf 46 = .ok (.iconst 1, 1) := by decide +kernel
theorem dX8_sideOf_47 : decode cX8_sideOf 47 = .ok (.iadd, 1) := by decide +kernel
theorem dX8_sideOf_48 : decode cX8_sideOf 48 = .ok (.ireturn, 1) := by decide +kernel
theorem dX8_sideOf_49 : decode cX8_sideOf 49 = .ok (.iconst 2, 1) := by decide +kernel
theorem dX8_sideOf_50 : decode cX8_sideOf 50 = .ok (.iload_n 1, 1) := by decide +kernel
theorem dX8_sideOf_51 : decode cX8_sideOf 51 = .ok (.iconst 1, 1) := by decide +kernel
theorem dX8_sideOf_52 : decode cX8_sideOf 52 = .ok (.isub, 1) := by decide +kernel
theorem dX8_sideOf_53 : decode cX8_sideOf 53 = .ok (.imul, 1) := by decide +kernel
theorem dX8_sideOf_54 : decode cX8_sideOf 54 = .ok (.ireturn, 1) := by decide +kernel
set_option maxRecDepth 20000 in
theorem ggX9_init_X1_init : GoodIn wsX9_init wsX1_init := goodIn_r _ [3, 4, 5, 6] (by decide +kernel) (by decide +kernel)
set_option maxRecDepth 20000 in
theorem gX9_init_X1_init_n1 : GoodIn wsX9_init (wsX1_init) := ggX9_init_X1_init
theorem dX9_init_0 : decode cX9_init 0 = .ok (.aload_n 0, 1) := by decide +kernel
theorem dX9_init_1 : decode cX9_init 1 = .ok (.invokespecial 1, 3) := by decide +kernel
theorem dX9_init_4 : decode cX9_init 4 = .ok (.return_, 1) := by decide +kernel
set_option maxRecDepth 20000 in
theorem ggX9_ask_X1_ask : GoodIn wsX9_ask wsX1_ask := goodIn_r _ [8, 9, 10, 11, 12, 13, 14, 15, 16, 17, 18, 19, 20, 21, 22, 23, 24, 25, 26, 27, 28, 29, 30, 31, 32, 33, 34, 35, 36, 37, 38] (by decide +kernel) (by decide +kernel)
set_option maxRecDepth 20000 in
theorem gX9_ask_X1_ask_s15 : GoodIn wsX9_ask (va_wsSU RX9 15 yX1_ask wsX1_ask) := goodIn_app (goodIn_of _ (by decide +kernel)) ggX9_ask_X1_ask
theorem dX9_ask_0 : decode cX9_ask 0 = .ok (.aload_n 1, 1) := by decide +kernel
theorem dX9_ask_1 : decode cX9_ask 1 = .ok (.dup, 1) := by decide +kernel
theorem dX9_ask_2 : decode cX9_ask 2 = .ok (.getfield 7, 3) := by decide +kernel
theorem dX9_ask_5 : decode cX9_ask 5 = .ok (.ldc2_w 13, 3) := by decide +kernel
theorem dX9_ask_8 : decode cX9_ask 8 = .ok (.ladd, 1) := by decide +kernel
theorem dX9_ask_9 : decode cX9_ask 9 = .ok (.putfield 7, 3) := by decide +kernel
theorem dX9_ask_12 : decode cX9_ask 12 = .ok (.aload_n 0, 1) := by decide +kernel
theorem dX9_ask_13 : decode cX9_ask 13 = .ok (.aload_n 1, 1) := by decide +kernel
theorem dX9_ask_14 : decode cX9_ask 14 = .ok (.iload_n 2, 1) := by decide +kernel
theorem dX9_ask_15 : decode cX9_ask 15 = .ok (.invokespecial 15, 3) := by decide +kernel
theorem dX9_ask_18 : decode cX9_ask 18 = .ok (.aload_n 1, 1) := by decide +kernel
theorem dX9_ask_19 : decode cX9_ask 19 = .ok (.getfield 19, 3) := by decide +kernel
theorem dX9_ask_22 : decode cX9_ask 22 = .ok (.getfield 23, 3) := by decide +kernel
theorem dX9_ask_25 : decode cX9_ask 25 = .ok (.iload_n 2, 1) := by decide +kernel
theorem dX9_ask_26 : decode cX9_ask 26 = .ok (.iaload, 1) := by decide +kernel
theorem dX9_ask_27 : decode cX9_ask 27 = .ok (.isub, 1) := by decide +kernel
theorem dX9_ask_28 : decode cX9_ask 28 = .ok (.ireturn, 1) := by decide +kernel
set_option maxRecDepth 20000 in
theorem ggX10_init_X1_init : GoodIn wsX10_init wsX1_init := goodIn_r _ [3, 4, 5, 6] (by decide +kernel) (by decide +kernel)
set_option maxRecDepth 20000 in
theorem gX10_init_X1_init_n1 : GoodIn wsX10_init (wsX1_init) := ggX10_init_X1_init
theorem dX10_init_0 : decode cX10_init 0 = .ok (.aload_n 0, 1) := by decide +kernel
theorem dX10_init_1 : decode cX10_init 1 = .ok (.invokespecial 1, 3) := by decide +kernel
theorem dX10_init_4 : decode cX10_init 4 = .ok (.return_, 1) := by decide +kernel
set_option maxRecDepth 20000 in
theorem ggX10_ask_X1_ask : GoodIn wsX10_ask wsX1_ask := goodIn_r _ [7, 8, 24, 25, 26, 27, 28, 29, 30, 31, 32, 33, 34, 35, 36, 37, 38, 39, 40, 41, 42, 43, 44, 45, 46, 47, 48, 49, 50, 51, 52] (by decide +kernel) (by decide +kernel)
set_option maxRecDepth 20000 in
theorem gX10_ask_X1_ask_s15 : GoodIn wsX10_ask (va_wsSU RX10 15 yX1_ask wsX1_ask) := goodIn_app (goodIn_of _ (by decide +kernel)) ggX10_ask_X1_ask
set_option maxRecDepth 20000 in
theorem ggX10_ask_X11_shutWays : GoodIn wsX10_ask wsX11_shutWays := goodIn_r _ [12, 13, 14, 15, 16, 24, 25, 26, 27, 28, 29, 30, 31, 32, 33, 34, 35, 36, 37, 38, 39, 40, 53, 54, 55, 56, 57, 58, 59, 60, 61, 62, 63, 64, 41, 42, 43, 44, 45, 46, 47, 48, 49, 50, 51, 52] (by decide +kernel) (by decide +kernel)
set_option maxRecDepth 20000 in
theorem gX10_ask_X11_shutWays_n19 : GoodIn wsX10_ask (wsX11_shutWays) := ggX10_ask_X11_shutWays
set_option maxRecDepth 20000 in
theorem ggX10_ask_J6_bitCount_0f7a4 : GoodIn wsX10_ask wsJ6_bitCount_0f7a4 := goodIn_r _ [20, 21, 22, 23] (by decide +kernel) (by decide +kernel)
set_option maxRecDepth 20000 in
theorem gX10_ask_J6_bitCount_0f7a4 : GoodIn wsX10_ask (va_wsS RX10 23 yJ6_bitCount_0f7a4 wsJ6_bitCount_0f7a4) := goodIn_app (goodIn_of _ (by decide +kernel)) ggX10_ask_J6_bitCount_0f7a4
theorem dX10_ask_0 : decode cX10_ask 0 = .ok (.aload_n 1, 1) := by decide +kernel
theorem dX10_ask_1 : decode cX10_ask 1 = .ok (.dup, 1) := by decide +kernel
theorem dX10_ask_2 : decode cX10_ask 2 = .ok (.getfield 7, 3) := by decide +kernel
theorem dX10_ask_5 : decode cX10_ask 5 = .ok (.ldc2_w 13, 3) := by decide +kernel
theorem dX10_ask_8 : decode cX10_ask 8 = .ok (.ladd, 1) := by decide +kernel
theorem dX10_ask_9 : decode cX10_ask 9 = .ok (.putfield 7, 3) := by decide +kernel
theorem dX10_ask_12 : decode cX10_ask 12 = .ok (.aload_n 0, 1) := by decide +kernel
theorem dX10_ask_13 : decode cX10_ask 13 = .ok (.aload_n 1, 1) := by decide +kernel
theorem dX10_ask_14 : decode cX10_ask 14 = .ok (.iload_n 2, 1) := by decide +kernel
theorem dX10_ask_15 : decode cX10_ask 15 = .ok (.invokespecial 15, 3) := by decide +kernel
theorem dX10_ask_18 : decode cX10_ask 18 = .ok (.aload_n 1, 1) := by decide +kernel
theorem dX10_ask_19 : decode cX10_ask 19 = .ok (.iload_n 2, 1) := by decide +kernel
theorem dX10_ask_20 : decode cX10_ask 20 = .ok (.invokevirtual 19, 3) := by decide +kernel
theorem dX10_ask_23 : decode cX10_ask 23 = .ok (.invokestatic 23, 3) := by decide +kernel
theorem dX10_ask_26 : decode cX10_ask 26 = .ok (.iadd, 1) := by decide +kernel
theorem dX10_ask_27 : decode cX10_ask 27 = .ok (.ireturn, 1) := by decide +kernel
set_option maxRecDepth 20000 in
theorem ggX11_init_X2_init : GoodIn wsX11_init wsX2_init := goodIn_r _ [55, 56, 2, 3, 32, 57, 58, 59, 60, 61, 62, 63, 122, 123, 124, 125, 126, 127, 128, 129, 130, 131, 132, 133] (by decide +kernel) (by decide +kernel)
set_option maxRecDepth 20000 in
theorem gX11_init_X2_init_n15 : GoodIn wsX11_init (wsX2_init) := ggX11_init_X2_init
set_option maxRecDepth 20000 in
theorem ggX11_init_X7_init : GoodIn wsX11_init wsX7_init := goodIn_r _ [65, 66, 2, 3, 4, 67, 134, 135, 136, 137, 138, 139, 140] (by decide +kernel) (by decide +kernel)
set_option maxRecDepth 20000 in
theorem gX11_init_X7_init_n25 : GoodIn wsX11_init (wsX7_init) := ggX11_init_X7_init
set_option maxRecDepth 20000 in
theorem ggX11_init_X3_init : GoodIn wsX11_init wsX3_init := goodIn_r _ [69, 70, 2, 3, 32, 71, 72, 73, 74, 75, 76, 77, 78, 79, 80, 141, 142, 143, 144, 145, 146, 147, 148, 149, 150, 151, 152] (by decide +kernel) (by decide +kernel)
set_option maxRecDepth 20000 in
theorem gX11_init_X3_init_n32 : GoodIn wsX11_init (wsX3_init) := ggX11_init_X3_init
set_option maxRecDepth 20000 in
theorem ggX11_init_X8_init : GoodIn wsX11_init wsX8_init := goodIn_r _ [82, 83, 2, 3, 32, 84, 153, 154, 155, 156, 157] (by decide +kernel) (by decide +kernel)
set_option maxRecDepth 20000 in
theorem gX11_init_X8_init_n47 : GoodIn wsX11_init (wsX8_init) := ggX11_init_X8_init
set_option maxRecDepth 20000 in
theorem ggX11_init_X6_init : GoodIn wsX11_init wsX6_init := goodIn_r _ [86, 87, 2, 3, 88, 23, 24, 89, 90, 91, 81, 82, 83, 32, 84, 153, 154, 155, 156, 157, 158, 159, 160, 161, 162, 163] (by decide +kernel) (by decide +kernel)
set_option maxRecDepth 20000 in
theorem gX11_init_X6_init_n54 : GoodIn wsX11_init (wsX6_init) := ggX11_init_X6_init
set_option maxRecDepth 20000 in
theorem ggX11_init_X1_init : GoodIn wsX11_init wsX1_init := goodIn_r _ [93, 94, 2, 3] (by decide +kernel) (by decide +kernel)
set_option maxRecDepth 20000 in
theorem gX11_init_X1_init_n78 : GoodIn wsX11_init (wsX1_init) := ggX11_init_X1_init
set_option maxRecDepth 20000 in
theorem ggX11_init_X10_init : GoodIn wsX11_init wsX10_init := goodIn_r _ [96, 92, 38, 93, 94, 2, 3] (by decide +kernel) (by decide +kernel)
set_option maxRecDepth 20000 in
theorem gX11_init_X10_init_n81 : GoodIn wsX11_init (wsX10_init) := ggX11_init_X10_init
set_option maxRecDepth 20000 in
theorem ggX11_init_X9_init : GoodIn wsX11_init wsX9_init := goodIn_r _ [98, 92, 38, 93, 94, 2, 3] (by decide +kernel) (by decide +kernel)
set_option maxRecDepth 20000 in
theorem gX11_init_X9_init_n84 : GoodIn wsX11_init (wsX9_init) := ggX11_init_X9_init
set_option maxRecDepth 20000 in
theorem ggX11_init_X4_init : GoodIn wsX11_init wsX4_init := goodIn_r _ [100, 95, 41, 96, 92, 38, 93, 94, 2, 3] (by decide +kernel) (by decide +kernel)
set_option maxRecDepth 20000 in
theorem gX11_init_X4_init_n87 : GoodIn wsX11_init (wsX4_init) := ggX11_init_X4_init
set_option maxRecDepth 20000 in
theorem ggX11_init_X0_init : GoodIn wsX11_init wsX0_init := goodIn_r _ [102, 97, 44, 98, 92, 38, 93, 94, 2, 3] (by decide +kernel) (by decide +kernel)
set_option maxRecDepth 20000 in
theorem gX11_init_X0_init_n90 : GoodIn wsX11_init (wsX0_init) := ggX11_init_X0_init
set_option maxRecDepth 20000 in
theorem ggX11_init_X5_init : GoodIn wsX11_init wsX5_init := goodIn_r _ [104, 92, 38, 93, 94, 2, 3] (by decide +kernel) (by decide +kernel)
set_option maxRecDepth 20000 in
theorem gX11_init_X5_init_n93 : GoodIn wsX11_init (wsX5_init) := ggX11_init_X5_init
theorem dX11_init_0 : decode cX11_init 0 = .ok (.aload_n 0, 1) := by decide +kernel
theorem dX11_init_1 : decode cX11_init 1 = .ok (.invokespecial 1, 3) := by decide +kernel
theorem dX11_init_4 : decode cX11_init 4 = .ok (.aload_n 0, 1) := by decide +kernel
theorem dX11_init_5 : decode cX11_init 5 = .ok (.sipush 200, 3) := by decide +kernel
theorem dX11_init_8 : decode cX11_init 8 = .ok (.newarray .char, 2) := by decide +kernel
theorem dX11_init_10 : decode cX11_init 10 = .ok (.putfield 9, 3) := by decide +kernel
theorem dX11_init_13 : decode cX11_init 13 = .ok (.aload_n 0, 1) := by decide +kernel
theorem dX11_init_14 : decode cX11_init 14 = .ok (.new 13, 3) := by decide +kernel
theorem dX11_init_17 : decode cX11_init 17 = .ok (.dup, 1) := by decide +kernel
theorem dX11_init_18 : decode cX11_init 18 = .ok (.invokespecial 15, 3) := by decide +kernel
theorem dX11_init_21 : decode cX11_init 21 = .ok (.putfield 16, 3) := by decide +kernel
theorem dX11_init_24 : decode cX11_init 24 = .ok (.aload_n 0, 1) := by decide +kernel
theorem dX11_init_25 : decode cX11_init 25 = .ok (.new 13, 3) := by decide +kernel
theorem dX11_init_28 : decode cX11_init 28 = .ok (.dup, 1) := by decide +kernel
theorem dX11_init_29 : decode cX11_init 29 = .ok (.invokespecial 15, 3) := by decide +kernel
theorem dX11_init_32 : decode cX11_init 32 = .ok (.putfield 20, 3) := by decide +kernel
theorem dX11_init_35 : decode cX11_init 35 = .ok (.aload_n 0, 1) := by decide +kernel
theorem dX11_init_36 : decode cX11_init 36 = .ok (.new 23, 3) := by decide +kernel
theorem dX11_init_39 : decode cX11_init 39 = .ok (.dup, 1) := by decide +kernel
theorem dX11_init_40 : decode cX11_init 40 = .ok (.invokespecial 25, 3) := by decide +kernel
theorem dX11_init_43 : decode cX11_init 43 = .ok (.putfield 26, 3) := by decide +kernel
theorem dX11_init_46 : decode cX11_init 46 = .ok (.aload_n 0, 1) := by decide +kernel
theorem dX11_init_47 : decode cX11_init 47 = .ok (.new 30, 3) := by decide +kernel
theorem dX11_init_50 : decode cX11_init 50 = .ok (.dup, 1) := by decide +kernel
theorem dX11_init_51 : decode cX11_init 51 = .ok (.invokespecial 32, 3) := by decide +kernel
theorem dX11_init_54 : decode cX11_init 54 = .ok (.putfield 33, 3) := by decide +kernel
theorem dX11_init_57 : decode cX11_init 57 = .ok (.aload_n 0, 1) := by decide +kernel
theorem dX11_init_58 : decode cX11_init 58 = .ok (.iconst 2, 1) := by decide +kernel
theorem dX11_init_59 : decode cX11_init 59 = .ok (.anewarray 30, 3) := by decide +kernel
theorem dX11_init_62 : decode cX11_init 62 = .ok (.putfield 37, 3) := by decide +kernel
theorem dX11_init_65 : decode cX11_init 65 = .ok (.aload_n 0, 1) := by decide +kernel
theorem dX11_init_66 : decode cX11_init 66 = .ok (.iconst 2, 1) := by decide +kernel
theorem dX11_init_67 : decode cX11_init 67 = .ok (.newarray .boolean, 2) := by decide +kernel
theorem dX11_init_69 : decode cX11_init 69 = .ok (.putfield 41, 3) := by decide +kernel
theorem dX11_init_72 : decode cX11_init 72 = .ok (.aload_n 0, 1) := by decide +kernel
theorem dX11_init_73 : decode cX11_init 73 = .ok (.new 45, 3) := by decide +kernel
theorem dX11_init_76 : decode cX11_init 76 = .ok (.dup, 1) := by decide +kernel
theorem dX11_init_77 : decode cX11_init 77 = .ok (.invokespecial 47, 3) := by decide +kernel
theorem dX11_init_80 : decode cX11_init 80 = .ok (.putfield 48, 3) := by decide +kernel
theorem dX11_init_83 : decode cX11_init 83 = .ok (.aload_n 0, 1) := by decide +kernel
theorem dX11_init_84 : decode cX11_init 84 = .ok (.new 52, 3) := by decide +kernel
theorem dX11_init_87 : decode cX11_init 87 = .ok (.dup, 1) := by decide +kernel
theorem dX11_init_88 : decode cX11_init 88 = .ok (.invokespecial 54, 3) := by decide +kernel
theorem dX11_init_91 : decode cX11_init 91 = .ok (.putfield 55, 3) := by decide +kernel
theorem dX11_init_94 : decode cX11_init 94 = .ok (.aload_n 0, 1) := by decide +kernel
theorem dX11_init_95 : decode cX11_init 95 = .ok (.bipush 6, 2) := by decide +kernel
theorem dX11_init_97 : decode cX11_init 97 = .ok (.anewarray 59, 3) := by decide +kernel
theorem dX11_init_100 : decode cX11_init 100 = .ok (.putfield 61, 3) := by decide +kernel
theorem dX11_init_103 : decode cX11_init 103 = .ok (.aload_n 0, 1) := by decide +kernel
theorem dX11_init_104 : decode cX11_init 104 = .ok (.bipush 30, 2) := by decide +kernel
theorem dX11_init_106 : decode cX11_init 106 = .ok (.newarray .int, 2) := by decide +kernel
theorem dX11_init_108 : decode cX11_init 108 = .ok (.putfield 65, 3) := by decide +kernel
theorem dX11_init_111 : decode cX11_init 111 = .ok (.aload_n 0, 1) := by decide +kernel
theorem dX11_init_112 : decode cX11_init 112 = .ok (.bipush 6, 2) := by decide +kernel
theorem dX11_init_114 : decode cX11_init 114 = .ok (.newarray .int, 2) := by decide +kernel
theorem dX11_init_116 : decode cX11_init 116 = .ok (.putfield 69, 3) := by decide +kernel
theorem dX11_init_119 : decode cX11_init 119 = .ok (.aload_n 0, 1) := by decide +kernel
theorem dX11_init_120 : decode cX11_init 120 = .ok (.bipush 6, 2) := by decide +kernel
theorem dX11_init_122 : decode cX11_init 122 = .ok (.newarray .int, 2) := by decide +kernel
theorem dX11_init_124 : decode cX11_init 124 = .ok (.putfield 72, 3) := by decide +kernel
theorem dX11_init_127 : decode cX11_init 127 = .ok (.aload_n 0, 1) := by decide +kernel
theorem dX11_init_128 : decode cX11_init 128 = .ok (.bipush 6, 2) := by decide +kernel
theorem dX11_init_130 : decode cX11_init 130 = .ok (.newarray .int, 2) := by decide +kernel
theorem dX11_init_132 : decode cX11_init 132 = .ok (.putfield 75, 3) := by decide +kernel
theorem dX11_init_135 : decode cX11_init 135 = .ok (.iconst 0, 1) := by decide +kernel
theorem dX11_init_136 : decode cX11_init 136 = .ok (.istore_n 1, 1) := by decide +kernel
theorem dX11_init_137 : decode cX11_init 137 = .ok (.iload_n 1, 1) := by decide +kernel
theorem dX11_init_138 : decode cX11_init 138 = .ok (.iconst 2, 1) := by decide +kernel
theorem dX11_init_139 : decode cX11_init 139 = .ok (.if_icmp .ge 22, 3) := by decide +kernel
theorem dX11_init_142 : decode cX11_init 142 = .ok (.aload_n 0, 1) := by decide +kernel
theorem dX11_init_143 : decode cX11_init 143 = .ok (.getfield 37, 3) := by decide +kernel
theorem dX11_init_146 : decode cX11_init 146 = .ok (.iload_n 1, 1) := by decide +kernel
theorem dX11_init_147 : decode cX11_init 147 = .ok (.new 30, 3) := by decide +kernel
theorem dX11_init_150 : decode cX11_init 150 = .ok (.dup, 1) := by decide +kernel
theorem dX11_init_151 : decode cX11_init 151 = .ok (.invokespecial 32, 3) := by decide +kernel
theorem dX11_init_154 : decode cX11_init 154 = .ok (.aastore, 1) := by decide +kernel
theorem dX11_init_155 : decode cX11_init 155 = .ok (.iinc 1 1, 3) := by decide +kernel
theorem dX11_init_158 : decode cX11_init 158 = .ok (.goto (-21), 3) := by decide +kernel
theorem dX11_init_161 : decode cX11_init 161 = .ok (.aload_n 0, 1) := by decide +kernel
theorem dX11_init_162 : decode cX11_init 162 = .ok (.getfield 61, 3) := by decide +kernel
theorem dX11_init_165 : decode cX11_init 165 = .ok (.iconst 0, 1) := by decide +kernel
theorem dX11_init_166 : decode cX11_init 166 = .ok (.new 59, 3) := by decide +kernel
theorem dX11_init_169 : decode cX11_init 169 = .ok (.dup, 1) := by decide +kernel
theorem dX11_init_170 : decode cX11_init 170 = .ok (.invokespecial 78, 3) := by decide +kernel
theorem dX11_init_173 : decode cX11_init 173 = .ok (.aastore, 1) := by decide +kernel
theorem dX11_init_174 : decode cX11_init 174 = .ok (.aload_n 0, 1) := by decide +kernel
theorem dX11_init_175 : decode cX11_init 175 = .ok (.getfield 61, 3) := by decide +kernel
theorem dX11_init_178 : decode cX11_init 178 = .ok (.iconst 1, 1) := by decide +kernel
theorem dX11_init_179 : decode cX11_init 179 = .ok (.new 79, 3) := by decide +kernel
theorem dX11_init_182 : decode cX11_init 182 = .ok (.dup, 1) := by decide +kernel
theorem dX11_init_183 : decode cX11_init 183 = .ok (.invokespecial 81, 3) := by decide +kernel
theorem dX11_init_186 : decode cX11_init 186 = .ok (.aastore, 1) := by decide +kernel
theorem dX11_init_187 : decode cX11_init 187 = .ok (.aload_n 0, 1) := by decide +kernel
theorem dX11_init_188 : decode cX11_init 188 = .ok (.getfield 61, 3) := by decide +kernel
theorem dX11_init_191 : decode cX11_init 191 = .ok (.iconst 2, 1) := by decide +kernel
theorem dX11_init_192 : decode cX11_init 192 = .ok (.new 82, 3) := by decide +kernel
theorem dX11_init_195 : decode cX11_init 195 = .ok (.dup, 1) := by decide +kernel
theorem dX11_init_196 : decode cX11_init 196 = .ok (.invokespecial 84, 3) := by decide +kernel
theorem dX11_init_199 : decode cX11_init 199 = .ok (.aastore, 1) := by decide +kernel
theorem dX11_init_200 : decode cX11_init 200 = .ok (.aload_n 0, 1) := by decide +kernel
theorem dX11_init_201 : decode cX11_init 201 = .ok (.getfield 61, 3) := by decide +kernel
theorem dX11_init_204 : decode cX11_init 204 = .ok (.iconst 3, 1) := by decide +kernel
theorem dX11_init_205 : decode cX11_init 205 = .ok (.new 85, 3) := by decide +kernel
theorem dX11_init_208 : decode cX11_init 208 = .ok (.dup, 1) := by decide +kernel
theorem dX11_init_209 : decode cX11_init 209 = .ok (.invokespecial 87, 3) := by decide +kernel
theorem dX11_init_212 : decode cX11_init 212 = .ok (.aastore, 1) := by decide +kernel
theorem dX11_init_213 : decode cX11_init 213 = .ok (.aload_n 0, 1) := by decide +kernel
theorem dX11_init_214 : decode cX11_init 214 = .ok (.getfield 61, 3) := by decide +kernel
theorem dX11_init_217 : decode cX11_init 217 = .ok (.iconst 4, 1) := by decide +kernel
theorem dX11_init_218 : decode cX11_init 218 = .ok (.new 88, 3) := by decide +kernel
theorem dX11_init_221 : decode cX11_init 221 = .ok (.dup, 1) := by decide +kernel
theorem dX11_init_222 : decode cX11_init 222 = .ok (.invokespecial 90, 3) := by decide +kernel
theorem dX11_init_225 : decode cX11_init 225 = .ok (.aastore, 1) := by decide +kernel
theorem dX11_init_226 : decode cX11_init 226 = .ok (.aload_n 0, 1) := by decide +kernel
theorem dX11_init_227 : decode cX11_init 227 = .ok (.getfield 61, 3) := by decide +kernel
theorem dX11_init_230 : decode cX11_init 230 = .ok (.iconst 5, 1) := by decide +kernel
theorem dX11_init_231 : decode cX11_init 231 = .ok (.new 91, 3) := by decide +kernel
theorem dX11_init_234 : decode cX11_init 234 = .ok (.dup, 1) := by decide +kernel
theorem dX11_init_235 : decode cX11_init 235 = .ok (.invokespecial 93, 3) := by decide +kernel
theorem dX11_init_238 : decode cX11_init 238 = .ok (.aastore, 1) := by decide +kernel
theorem dX11_init_239 : decode cX11_init 239 = .ok (.return_, 1) := by decide +kernel
theorem dX11_type_0 : decode cX11_type 0 = .ok (.iload_n 1, 1) := by decide +kernel
theorem dX11_type_1 : decode cX11_type 1 = .ok (.ifCond .lt 10, 3) := by decide +kernel
theorem dX11_type_4 : decode cX11_type 4 = .ok (.iload_n 1, 1) := by decide +kernel
theorem dX11_type_5 : decode cX11_type 5 = .ok (.sipush 255, 3) := by decide +kernel
theorem dX11_type_8 : decode cX11_type 8 = .ok (.if_icmp .le 5, 3) := by decide +kernel
theorem dX11_type_11 : decode cX11_type 11 = .ok (.iconst (-1), 1) := by decide +kernel
theorem dX11_type_12 : decode cX11_type 12 = .ok (.ireturn, 1) := by decide +kernel
theorem dX11_type_13 : decode cX11_type 13 = .ok (.aload_n 0, 1) := by decide +kernel
theorem dX11_type_14 : decode cX11_type 14 = .ok (.getfield 94, 3) := by decide +kernel
theorem dX11_type_17 : decode cX11_type 17 = .ok (.sipush 200, 3) := by decide +kernel
theorem dX11_type_20 : decode cX11_type 20 = .ok (.if_icmp .lt 6, 3) := by decide +kernel
theorem dX11_type_23 : decode cX11_type 23 = .ok (.bipush (-3), 2) := by decide +kernel
theorem dX11_type_25 : decode cX11_type 25 = .ok (.ireturn, 1) := by decide +kernel
theorem dX11_type_26 : decode cX11_type 26 = .ok (.aload_n 0, 1) := by decide +kernel
theorem dX11_type_27 : decode cX11_type 27 = .ok (.getfield 9, 3) := by decide +kernel
theorem dX11_type_30 : decode cX11_type 30 = .ok (.aload_n 0, 1) := by decide +kernel
theorem dX11_type_31 : decode cX11_type 31 = .ok (.getfield 94, 3) := by decide +kernel
theorem dX11_type_34 : decode cX11_type 34 = .ok (.iload_n 1, 1) := by decide +kernel
theorem dX11_type_35 : decode cX11_type 35 = .ok (.i2c, 1) := by decide +kernel
theorem dX11_type_36 : decode cX11_type 36 = .ok (.castore, 1) := by decide +kernel
theorem dX11_type_37 : decode cX11_type 37 = .ok (.aload_n 0, 1) := by decide +kernel
theorem dX11_type_38 : decode cX11_type 38 = .ok (.dup, 1) := by decide +kernel
theorem dX11_type_39 : decode cX11_type 39 = .ok (.getfield 94, 3) := by decide +kernel
theorem dX11_type_42 : decode cX11_type 42 = .ok (.iconst 1, 1) := by decide +kernel
theorem dX11_type_43 : decode cX11_type 43 = .ok (.iadd, 1) := by decide +kernel
theorem dX11_type_44 : decode cX11_type 44 = .ok (.putfield 94, 3) := by decide +kernel
theorem dX11_type_47 : decode cX11_type 47 = .ok (.aload_n 0, 1) := by decide +kernel
theorem dX11_type_48 : decode cX11_type 48 = .ok (.getfield 94, 3) := by decide +kernel
theorem dX11_type_51 : decode cX11_type 51 = .ok (.ireturn, 1) := by decide +kernel
theorem dX11_clear_0 : decode cX11_clear 0 = .ok (.aload_n 0, 1) := by decide +kernel
theorem dX11_clear_1 : decode cX11_clear 1 = .ok (.getfield 94, 3) := by decide +kernel
theorem dX11_clear_4 : decode cX11_clear 4 = .ok (.istore_n 1, 1) := by decide +kernel
theorem dX11_clear_5 : decode cX11_clear 5 = .ok (.aload_n 0, 1) := by decide +kernel
theorem dX11_clear_6 : decode cX11_clear 6 = .ok (.iconst 0, 1) := by decide +kernel
theorem dX11_clear_7 : decode cX11_clear 7 = .ok (.putfield 94, 3) := by decide +kernel
theorem dX11_clear_10 : decode cX11_clear 10 = .ok (.iload_n 1, 1) := by decide +kernel
theorem dX11_clear_11 : decode cX11_clear 11 = .ok (.ireturn, 1) := by decide +kernel
set_option maxRecDepth 20000 in
theorem ggX11_city_X7_readText : GoodIn wsX11_city wsX7_readText := goodIn_r _ [13, 14, 15, 16, 17, 18, 19, 20, 21, 22, 23, 24, 25, 26, 27, 28, 29, 30, 31, 32, 33, 34, 35, 36, 37, 38, 39, 40, 41, 12, 42, 43, 44, 45, 46, 47, 48, 49, 50, 51, 52, 53, 54, 55, 56, 57, 58, 59, 60, 61, 62, 63, 64, 65, 66, 67, 68, 69, 70, 71, 72, 73, 74, 75, 76, 77, 78, 79, 80, 81, 82, 83, 84, 85, 86, 87, 88, 89, 90, 91, 92, 93, 94, 95, 96, 97, 98, 99, 100, 101, 102, 103, 104, 105, 106, 107, 108, 109, 110, 111, 112, 113, 114, 115, 116, 117, 118, 119, 120, 121, 122, 123, 124, 125, 126, 127, 128, 129, 130, 131, 172, 173, 174, 175, 176, 177, 178, 179, 180, 181, 182, 183, 184, 185, 186, 187, 188, 189, 190] (by decide +kernel) (by decide +kernel)
set_option maxRecDepth 20000 in
theorem gX11_city_X7_readText : GoodIn wsX11_city (wsV RX11 98 RX7 yX7_readText wsX7_readText) := goodIn_app (goodIn_of _ (by decide +kernel)) ggX11_city_X7_readText
set_option maxRecDepth 20000 in
theorem ggX11_city_X3_layOut : GoodIn wsX11_city wsX3_layOut := goodIn_r _ [136, 137, 138, 139, 140, 141, 142, 143, 144, 145, 146, 147, 135, 148, 149, 16, 17, 18, 150, 151, 152, 153, 154, 36, 37, 38, 191, 192, 193, 194, 195, 196, 197, 198, 199, 200, 201, 202, 179, 180, 181, 182, 183, 184, 185, 186, 187, 188, 189, 190] (by decide +kernel) (by decide +kernel)
set_option maxRecDepth 20000 in
theorem gX11_city_X3_layOut : GoodIn wsX11_city (wsV RX11 102 RX3 yX3_layOut wsX3_layOut) := goodIn_app (goodIn_of _ (by decide +kernel)) ggX11_city_X3_layOut
theorem dX11_city_0 : decode cX11_city 0 = .ok (.aload_n 0, 1) := by decide +kernel
theorem dX11_city_1 : decode cX11_city 1 = .ok (.getfield 26, 3) := by decide +kernel
theorem dX11_city_4 : decode cX11_city 4 = .ok (.aload_n 0, 1) := by decide +kernel
theorem dX11_city_5 : decode cX11_city 5 = .ok (.getfield 9, 3) := by decide +kernel
theorem dX11_city_8 : decode cX11_city 8 = .ok (.aload_n 0, 1) := by decide +kernel
theorem dX11_city_9 : decode cX11_city 9 = .ok (.getfield 94, 3) := by decide +kernel
theorem dX11_city_12 : decode cX11_city 12 = .ok (.aload_n 0, 1) := by decide +kernel
theorem dX11_city_13 : decode cX11_city 13 = .ok (.getfield 20, 3) := by decide +kernel
theorem dX11_city_16 : decode cX11_city 16 = .ok (.invokevirtual 98, 3) := by decide +kernel
theorem dX11_city_19 : decode cX11_city 19 = .ok (.istore_n 1, 1) := by decide +kernel
theorem dX11_city_20 : decode cX11_city 20 = .ok (.iload_n 1, 1) := by decide +kernel
theorem dX11_city_21 : decode cX11_city 21 = .ok (.ifCond .ge 5, 3) := by decide +kernel
theorem dX11_city_24 : decode cX11_city 24 = .ok (.iload_n 1, 1) := by decide +kernel
theorem dX11_city_25 : decode cX11_city 25 = .ok (.ireturn, 1) := by decide +kernel
theorem dX11_city_26 : decode cX11_city 26 = .ok (.aload_n 0, 1) := by decide +kernel
theorem dX11_city_27 : decode cX11_city 27 = .ok (.getfield 20, 3) := by decide +kernel
theorem dX11_city_30 : decode cX11_city 30 = .ok (.astore_n 2, 1) := by decide +kernel
theorem dX11_city_31 : decode cX11_city 31 = .ok (.aload_n 0, 1) := by decide +kernel
theorem dX11_city_32 : decode cX11_city 32 = .ok (.aload_n 0, 1) := by decide +kernel
theorem dX11_city_33 : decode cX11_city 33 = .ok (.getfield 16, 3) := by decide +kernel
theorem dX11_city_36 : decode cX11_city 36 = .ok (.putfield 20, 3) := by decide +kernel
theorem dX11_city_39 : decode cX11_city 39 = .ok (.aload_n 0, 1) := by decide +kernel
theorem dX11_city_40 : decode cX11_city 40 = .ok (.aload_n 2, 1) := by decide +kernel
theorem dX11_city_41 : decode cX11_city 41 = .ok (.putfield 16, 3) := by decide +kernel
theorem dX11_city_44 : decode cX11_city 44 = .ok (.aload_n 0, 1) := by decide +kernel
theorem dX11_city_45 : decode cX11_city 45 = .ok (.getfield 33, 3) := by decide +kernel
theorem dX11_city_48 : decode cX11_city 48 = .ok (.aload_n 0, 1) := by decide +kernel
theorem dX11_city_49 : decode cX11_city 49 = .ok (.getfield 16, 3) := by decide +kernel
theorem dX11_city_52 : decode cX11_city 52 = .ok (.invokevirtual 102, 3) := by decide +kernel
theorem dX11_city_55 : decode cX11_city 55 = .ok (.aload_n 0, 1) := by decide +kernel
theorem dX11_city_56 : decode cX11_city 56 = .ok (.iconst 0, 1) := by decide +kernel
theorem dX11_city_57 : decode cX11_city 57 = .ok (.putfield 94, 3) := by decide +kernel
theorem dX11_city_60 : decode cX11_city 60 = .ok (.aload_n 0, 1) := by decide +kernel
theorem dX11_city_61 : decode cX11_city 61 = .ok (.iconst 0, 1) := by decide +kernel
theorem dX11_city_62 : decode cX11_city 62 = .ok (.putfield 106, 3) := by decide +kernel
theorem dX11_city_65 : decode cX11_city 65 = .ok (.iconst 0, 1) := by decide +kernel
theorem dX11_city_66 : decode cX11_city 66 = .ok (.istore_n 3, 1) := by decide +kernel
theorem dX11_city_67 : decode cX11_city 67 = .ok (.iload_n 3, 1) := by decide +kernel
theorem dX11_city_68 : decode cX11_city 68 = .ok (.iconst 2, 1) := by decide +kernel
theorem dX11_city_69 : decode cX11_city 69 = .ok (.if_icmp .ge 16, 3) := by decide +kernel
theorem dX11_city_72 : decode cX11_city 72 = .ok (.aload_n 0, 1) := by decide +kernel
theorem dX11_city_73 : decode cX11_city 73 = .ok (.getfield 41, 3) := by decide +kernel
theorem dX11_city_76 : decode cX11_city 76 = .ok (.iload_n 3, 1) := by decide +kernel
theorem dX11_city_77 : decode cX11_city 77 = .ok (.iconst 0, 1) := by decide +kernel
theorem dX11_city_78 : decode cX11_city 78 = .ok (.bastore, 1) := by decide +kernel
theorem dX11_city_79 : decode cX11_city 79 = .ok (.iinc 3 1, 3) := by decide +kernel
theorem dX11_city_82 : decode cX11_city 82 = .ok (.goto (-15), 3) := by decide +kernel
theorem dX11_city_85 : decode cX11_city 85 = .ok (.iload_n 1, 1) := by decide +kernel
theorem dX11_city_86 : decode cX11_city 86 = .ok (.ireturn, 1) := by decide +kernel
set_option maxRecDepth 20000 in
theorem ggX11_cell_X2_cellAt : GoodIn wsX11_cell wsX2_cellAt := goodIn_r _ [13, 14, 15, 52, 53, 54, 55, 56, 57, 58, 59, 60, 61, 62, 63] (by decide +kernel) (by decide +kernel)
set_option maxRecDepth 20000 in
theorem gX11_cell_X2_cellAt : GoodIn wsX11_cell (wsV RX11 109 RX2 yX2_cellAt wsX2_cellAt) := goodIn_app (goodIn_of _ (by decide +kernel)) ggX11_cell_X2_cellAt
set_option maxRecDepth 20000 in
theorem ggX11_cell_X11_shutWays : GoodIn wsX11_cell wsX11_shutWays := goodIn_r _ [20, 1, 21, 2, 22, 23, 24, 25, 26, 27, 28, 29, 30, 31, 32, 33, 34, 35, 36, 37, 38, 39, 52, 53, 54, 55, 56, 57, 58, 59, 60, 61, 62, 63, 40, 41, 42, 43, 44, 45, 46, 47, 48, 49, 50, 51] (by decide +kernel) (by decide +kernel)
set_option maxRecDepth 20000 in
theorem gX11_cell_X11_shutWays : GoodIn wsX11_cell (wsV RX11 131 RX11 yX11_shutWays wsX11_shutWays) := goodIn_app (goodIn_of _ (by decide +kernel)) ggX11_cell_X11_shutWays
theorem dX11_cell_0 : decode cX11_cell 0 = .ok (.aload_n 0, 1) := by decide +kernel
theorem dX11_cell_1 : decode cX11_cell 1 = .ok (.getfield 16, 3) := by decide +kernel
theorem dX11_cell_4 : decode cX11_cell 4 = .ok (.iload_n 1, 1) := by decide +kernel
theorem dX11_cell_5 : decode cX11_cell 5 = .ok (.iload_n 2, 1) := by decide +kernel
theorem dX11_cell_6 : decode cX11_cell 6 = .ok (.invokevirtual 109, 3) := by decide +kernel
theorem dX11_cell_9 : decode cX11_cell 9 = .ok (.istore 4, 2) := by decide +kernel
theorem dX11_cell_11 : decode cX11_cell 11 = .ok (.iload 4, 2) := by decide +kernel
theorem dX11_cell_13 : decode cX11_cell 13 = .ok (.iconst (-1), 1) := by decide +kernel
theorem dX11_cell_14 : decode cX11_cell 14 = .ok (.if_icmp .ne 5, 3) := by decide +kernel
theorem dX11_cell_17 : decode cX11_cell 17 = .ok (.iconst (-1), 1) := by decide +kernel
theorem dX11_cell_18 : decode cX11_cell 18 = .ok (.ireturn, 1) := by decide +kernel
theorem dX11_cell_19 : decode cX11_cell 19 = .ok (.iload_n 3, 1) := by decide +kernel
theorem dX11_cell_20 : decode cX11_cell 20 = .ok (.tableswitch 117 0 6 #[44, 55, 66, 77, 88, 99, 110], 44) := by decide +kernel
theorem dX11_cell_64 : decode cX11_cell 64 = .ok (.aload_n 0, 1) := by decide +kernel
theorem dX11_cell_65 : decode cX11_cell 65 = .ok (.getfield 33, 3) := by decide +kernel
theorem dX11_cell_68 : decode cX11_cell 68 = .ok (.getfield 113, 3) := by decide +kernel
theorem dX11_cell_71 : decode cX11_cell 71 = .ok (.iload 4, 2) := by decide +kernel
theorem dX11_cell_73 : decode cX11_cell 73 = .ok (.iaload, 1) := by decide +kernel
theorem dX11_cell_74 : decode cX11_cell 74 = .ok (.ireturn, 1) := by decide +kernel
theorem dX11_cell_75 : decode cX11_cell 75 = .ok (.aload_n 0, 1) := by decide +kernel
theorem dX11_cell_76 : decode cX11_cell 76 = .ok (.getfield 16, 3) := by decide +kernel
theorem dX11_cell_79 : decode cX11_cell 79 = .ok (.getfield 116, 3) := by decide +kernel
theorem dX11_cell_82 : decode cX11_cell 82 = .ok (.iload 4, 2) := by decide +kernel
theorem dX11_cell_84 : decode cX11_cell 84 = .ok (.iaload, 1) := by decide +kernel
theorem dX11_cell_85 : decode cX11_cell 85 = .ok (.ireturn, 1) := by decide +kernel
theorem dX11_cell_86 : decode cX11_cell 86 = .ok (.aload_n 0, 1) := by decide +kernel
theorem dX11_cell_87 : decode cX11_cell 87 = .ok (.getfield 33, 3) := by decide +kernel
theorem dX11_cell_90 : decode cX11_cell 90 = .ok (.getfield 119, 3) := by decide +kernel
theorem dX11_cell_93 : decode cX11_cell 93 = .ok (.iload 4, 2) := by decide +kernel
theorem dX11_cell_95 : decode cX11_cell 95 = .ok (.iaload, 1) := by decide +kernel
theorem dX11_cell_96 : decode cX11_cell 96 = .ok (.ireturn, 1) := by decide +kernel
theorem dX11_cell_97 : decode cX11_cell 97 = .ok (.aload_n 0, 1) := by decide +kernel
theorem dX11_cell_98 : decode cX11_cell 98 = .ok (.getfield 33, 3) := by decide +kernel
theorem dX11_cell_101 : decode cX11_cell 101 = .ok (.getfield 122, 3) := by decide +kernel
theorem dX11_cell_104 : decode cX11_cell 104 = .ok (.iload 4, 2) := by decide +kernel
theorem dX11_cell_106 : decode cX11_cell 106 = .ok (.iaload, 1) := by decide +kernel
theorem dX11_cell_107 : decode cX11_cell 107 = .ok (.ireturn, 1) := by decide +kernel
theorem dX11_cell_108 : decode cX11_cell 108 = .ok (.aload_n 0, 1) := by decide +kernel
theorem dX11_cell_109 : decode cX11_cell 109 = .ok (.getfield 33, 3) := by decide +kernel
theorem dX11_cell_112 : decode cX11_cell 112 = .ok (.getfield 125, 3) := by decide +kernel
theorem dX11_cell_115 : decode cX11_cell 115 = .ok (.iload 4, 2) := by decide +kernel
theorem dX11_cell_117 : decode cX11_cell 117 = .ok (.iaload, 1) := by decide +kernel
theorem dX11_cell_118 : decode cX11_cell 118 = .ok (.ireturn, 1) := by decide +kernel
theorem dX11_cell_119 : decode cX11_cell 119 = .ok (.aload_n 0, 1) := by decide +kernel
theorem dX11_cell_120 : decode cX11_cell 120 = .ok (.getfield 33, 3) := by decide +kernel
theorem dX11_cell_123 : decode cX11_cell 123 = .ok (.getfield 128, 3) := by decide +kernel
theorem dX11_cell_126 : decode cX11_cell 126 = .ok (.iload 4, 2) := by decide +kernel
theorem dX11_cell_128 : decode cX11_cell 128 = .ok (.iaload, 1) := by decide +kernel
theorem dX11_cell_129 : decode cX11_cell 129 = .ok (.ireturn, 1) := by decide +kernel
theorem dX11_cell_130 : decode cX11_cell 130 = .ok (.aload_n 0, 1) := by decide +kernel
theorem dX11_cell_131 : decode cX11_cell 131 = .ok (.iload 4, 2) := by decide +kernel
theorem dX11_cell_133 : decode cX11_cell 133 = .ok (.invokevirtual 131, 3) := by decide +kernel
theorem dX11_cell_136 : decode cX11_cell 136 = .ok (.ireturn, 1) := by decide +kernel
theorem dX11_cell_137 : decode cX11_cell 137 = .ok (.iconst (-1), 1) := by decide +kernel
theorem dX11_cell_138 : decode cX11_cell 138 = .ok (.ireturn, 1) := by decide +kernel
set_option maxRecDepth 20000 in
theorem ggX11_kind_X11_isKind : GoodIn wsX11_kind wsX11_isKind := goodIn_r _ [9, 1, 10, 11, 12, 13, 14, 15, 16, 17, 18, 19, 20, 21, 22, 23, 24, 25, 26, 27, 28, 29, 30, 31, 32, 33, 34, 35, 36, 37, 38, 39] (by decide +kernel) (by decide +kernel)
set_option maxRecDepth 20000 in
theorem gX11_kind_X11_isKind : GoodIn wsX11_kind (wsV RX11 135 RX11 yX11_isKind wsX11_isKind) := goodIn_app (goodIn_of _ (by decide +kernel)) ggX11_kind_X11_isKind
theorem dX11_kind_0 : decode cX11_kind 0 = .ok (.aload_n 0, 1) := by decide +kernel
theorem dX11_kind_1 : decode cX11_kind 1 = .ok (.iload_n 1, 1) := by decide +kernel
theorem dX11_kind_2 : decode cX11_kind 2 = .ok (.invokevirtual 135, 3) := by decide +kernel
theorem dX11_kind_5 : decode cX11_kind 5 = .ok (.ifCond .ne 5, 3) := by decide +kernel
theorem dX11_kind_8 : decode cX11_kind 8 = .ok (.iconst (-1), 1) := by decide +kernel
theorem dX11_kind_9 : decode cX11_kind 9 = .ok (.ireturn, 1) := by decide +kernel
theorem dX11_kind_10 : decode cX11_kind 10 = .ok (.iload_n 2, 1) := by decide +kernel
theorem dX11_kind_11 : decode cX11_kind 11 = .ok (.tableswitch 55 0 2 #[25, 35, 45], 25) := by decide +kernel
theorem dX11_kind_36 : decode cX11_kind 36 = .ok (.aload_n 0, 1) := by decide +kernel
theorem dX11_kind_37 : decode cX11_kind 37 = .ok (.getfield 16, 3) := by decide +kernel
theorem dX11_kind_40 : decode cX11_kind 40 = .ok (.getfield 139, 3) := by decide +kernel
theorem dX11_kind_43 : decode cX11_kind 43 = .ok (.iload_n 1, 1) := by decide +kernel
theorem dX11_kind_44 : decode cX11_kind 44 = .ok (.iaload, 1) := by decide +kernel
theorem dX11_kind_45 : decode cX11_kind 45 = .ok (.ireturn, 1) := by decide +kernel
theorem dX11_kind_46 : decode cX11_kind 46 = .ok (.aload_n 0, 1) := by decide +kernel
theorem dX11_kind_47 : decode cX11_kind 47 = .ok (.getfield 16, 3) := by decide +kernel
theorem dX11_kind_50 : decode cX11_kind 50 = .ok (.getfield 142, 3) := by decide +kernel
theorem dX11_kind_53 : decode cX11_kind 53 = .ok (.iload_n 1, 1) := by decide +kernel
theorem dX11_kind_54 : decode cX11_kind 54 = .ok (.iaload, 1) := by decide +kernel
theorem dX11_kind_55 : decode cX11_kind 55 = .ok (.ireturn, 1) := by decide +kernel
theorem dX11_kind_56 : decode cX11_kind 56 = .ok (.aload_n 0, 1) := by decide +kernel
theorem dX11_kind_57 : decode cX11_kind 57 = .ok (.getfield 16, 3) := by decide +kernel
theorem dX11_kind_60 : decode cX11_kind 60 = .ok (.getfield 145, 3) := by decide +kernel
theorem dX11_kind_63 : decode cX11_kind 63 = .ok (.iload_n 1, 1) := by decide +kernel
theorem dX11_kind_64 : decode cX11_kind 64 = .ok (.iaload, 1) := by decide +kernel
theorem dX11_kind_65 : decode cX11_kind 65 = .ok (.ireturn, 1) := by decide +kernel
theorem dX11_kind_66 : decode cX11_kind 66 = .ok (.iconst (-1), 1) := by decide +kernel
theorem dX11_kind_67 : decode cX11_kind 67 = .ok (.ireturn, 1) := by decide +kernel
set_option maxRecDepth 20000 in
theorem ggX11_lets_X2_cellAt : GoodIn wsX11_lets wsX2_cellAt := goodIn_r _ [13, 14, 15, 132, 133, 134, 135, 136, 137, 138, 139, 140, 141, 142, 143] (by decide +kernel) (by decide +kernel)
set_option maxRecDepth 20000 in
theorem gX11_lets_X2_cellAt : GoodIn wsX11_lets (wsV RX11 109 RX2 yX2_cellAt wsX2_cellAt) := goodIn_app (goodIn_of _ (by decide +kernel)) ggX11_lets_X2_cellAt
set_option maxRecDepth 20000 in
theorem ggX11_lets_X11_isKind : GoodIn wsX11_lets wsX11_isKind := goodIn_r _ [20, 1, 21, 98, 99, 100, 101, 102, 103, 104, 105, 106, 107, 108, 109, 110, 111, 112, 113, 114, 132, 133, 134, 135, 136, 137, 138, 139, 140, 141, 142, 143] (by decide +kernel) (by decide +kernel)
set_option maxRecDepth 20000 in
theorem gX11_lets_X11_isKind : GoodIn wsX11_lets (wsV RX11 135 RX11 yX11_isKind wsX11_isKind) := goodIn_app (goodIn_of _ (by decide +kernel)) ggX11_lets_X11_isKind
set_option maxRecDepth 20000 in
theorem ggX11_lets_X11_sumOf : GoodIn wsX11_lets wsX11_sumOf := goodIn_r _ [25, 1, 26, 98, 99, 100, 101, 102, 103, 104, 105, 106, 107, 108, 109, 110, 111, 112, 113, 114, 132, 133, 134, 135, 136, 137, 138, 139, 140, 141, 142, 143] (by decide +kernel) (by decide +kernel)
set_option maxRecDepth 20000 in
theorem gX11_lets_X11_sumOf : GoodIn wsX11_lets (wsV RX11 148 RX11 yX11_sumOf wsX11_sumOf) := goodIn_app (goodIn_of _ (by decide +kernel)) ggX11_lets_X11_sumOf
set_option maxRecDepth 20000 in
theorem ggX11_lets_X8_goAs : GoodIn wsX11_lets wsX8_goAs := goodIn_r _ [31, 32, 33, 34, 35, 36, 30, 37, 38, 39, 40, 41, 42, 43, 44, 45, 46, 47, 48, 49, 50, 51, 52, 53, 54, 55, 56, 57, 58, 12, 59, 60, 132, 133, 134, 135, 136, 137, 138, 139, 140, 141, 142, 143, 127, 128, 129, 130, 131, 115, 116, 117, 118, 119, 120, 121, 122, 123, 124, 125, 126] (by decide +kernel) (by decide +kernel)
set_option maxRecDepth 20000 in
theorem gX11_lets_X8_goAs : GoodIn wsX11_lets (wsV RX11 152 RX8 yX8_goAs wsX8_goAs) := goodIn_app (goodIn_of _ (by decide +kernel)) ggX11_lets_X8_goAs
set_option maxRecDepth 20000 in
theorem ggX11_lets_X3_letCome : GoodIn wsX11_lets wsX3_letCome := goodIn_r _ [65, 66, 67, 68, 64, 69, 70, 71, 72, 73, 74, 75, 76, 77, 78, 79, 80, 81, 82, 83, 84, 85, 86, 87, 88, 89, 115, 116, 117, 118, 119, 120, 121, 122, 123, 124, 125, 126] (by decide +kernel) (by decide +kernel)
set_option maxRecDepth 20000 in
theorem gX11_lets_X3_letCome : GoodIn wsX11_lets (wsV RX11 163 RX3 yX3_letCome wsX3_letCome) := goodIn_app (goodIn_of _ (by decide +kernel)) ggX11_lets_X3_letCome
set_option maxRecDepth 20000 in
theorem ggX11_lets_X11_endCode : GoodIn wsX11_lets wsX11_endCode := goodIn_r _ [93, 1, 5, 6, 7, 94, 95, 96, 12, 97, 14, 98, 99, 100, 101, 102, 103, 104, 105, 106, 107, 108, 109, 110, 111, 112, 113, 114, 127, 128, 129, 130, 131, 132, 133, 134, 135, 136, 137, 138, 139, 140, 141, 142, 143] (by decide +kernel) (by decide +kernel)
set_option maxRecDepth 20000 in
theorem gX11_lets_X11_endCode : GoodIn wsX11_lets (wsV RX11 167 RX11 yX11_endCode wsX11_endCode) := goodIn_app (goodIn_of _ (by decide +kernel)) ggX11_lets_X11_endCode
theorem dX11_lets_0 : decode cX11_lets 0 = .ok (.aload_n 0, 1) := by decide +kernel
theorem dX11_lets_1 : decode cX11_lets 1 = .ok (.getfield 16, 3) := by decide +kernel
theorem dX11_lets_4 : decode cX11_lets 4 = .ok (.iload_n 2, 1) := by decide +kernel
theorem dX11_lets_5 : decode cX11_lets 5 = .ok (.iload_n 3, 1) := by decide +kernel
theorem dX11_lets_6 : decode cX11_lets 6 = .ok (.invokevirtual 109, 3) := by decide +kernel
theorem dX11_lets_9 : decode cX11_lets 9 = .ok (.istore 4, 2) := by decide +kernel
theorem dX11_lets_11 : decode cX11_lets 11 = .ok (.aload_n 0, 1) := by decide +kernel
theorem dX11_lets_12 : decode cX11_lets 12 = .ok (.iload_n 1, 1) := by decide +kernel
theorem dX11_lets_13 : decode cX11_lets 13 = .ok (.invokevirtual 135, 3) := by decide +kernel
theorem dX11_lets_16 : decode cX11_lets 16 = .ok (.ifCond .eq 9, 3) := by decide +kernel
theorem dX11_lets_19 : decode cX11_lets 19 = .ok (.iload 4, 2) := by decide +kernel
theorem dX11_lets_21 : decode cX11_lets 21 = .ok (.iconst (-1), 1) := by decide +kernel
theorem dX11_lets_22 : decode cX11_lets 22 = .ok (.if_icmp .ne 5, 3) := by decide +kernel
theorem dX11_lets_25 : decode cX11_lets 25 = .ok (.iconst (-1), 1) := by decide +kernel
theorem dX11_lets_26 : decode cX11_lets 26 = .ok (.ireturn, 1) := by decide +kernel
theorem dX11_lets_27 : decode cX11_lets 27 = .ok (.aload_n 0, 1) := by decide +kernel
theorem dX11_lets_28 : decode cX11_lets 28 = .ok (.aload_n 0, 1) := by decide +kernel
theorem dX11_lets_29 : decode cX11_lets 29 = .ok (.getfield 33, 3) := by decide +kernel
theorem dX11_lets_32 : decode cX11_lets 32 = .ok (.getfield 119, 3) := by decide +kernel
theorem dX11_lets_35 : decode cX11_lets 35 = .ok (.invokevirtual 148, 3) := by decide +kernel
theorem dX11_lets_38 : decode cX11_lets 38 = .ok (.aload_n 0, 1) := by decide +kernel
theorem dX11_lets_39 : decode cX11_lets 39 = .ok (.aload_n 0, 1) := by decide +kernel
theorem dX11_lets_40 : decode cX11_lets 40 = .ok (.getfield 33, 3) := by decide +kernel
theorem dX11_lets_43 : decode cX11_lets 43 = .ok (.getfield 125, 3) := by decide +kernel
theorem dX11_lets_46 : decode cX11_lets 46 = .ok (.invokevirtual 148, 3) := by decide +kernel
theorem dX11_lets_49 : decode cX11_lets 49 = .ok (.iadd, 1) := by decide +kernel
theorem dX11_lets_50 : decode cX11_lets 50 = .ok (.sipush 999, 3) := by decide +kernel
theorem dX11_lets_53 : decode cX11_lets 53 = .ok (.if_icmp .lt 6, 3) := by decide +kernel
theorem dX11_lets_56 : decode cX11_lets 56 = .ok (.bipush (-2), 2) := by decide +kernel
theorem dX11_lets_58 : decode cX11_lets 58 = .ok (.ireturn, 1) := by decide +kernel
theorem dX11_lets_59 : decode cX11_lets 59 = .ok (.aload_n 0, 1) := by decide +kernel
theorem dX11_lets_60 : decode cX11_lets 60 = .ok (.getfield 48, 3) := by decide +kernel
theorem dX11_lets_63 : decode cX11_lets 63 = .ok (.aload_n 0, 1) := by decide +kernel
theorem dX11_lets_64 : decode cX11_lets 64 = .ok (.getfield 16, 3) := by decide +kernel
theorem dX11_lets_67 : decode cX11_lets 67 = .ok (.aload_n 0, 1) := by decide +kernel
theorem dX11_lets_68 : decode cX11_lets 68 = .ok (.getfield 33, 3) := by decide +kernel
theorem dX11_lets_71 : decode cX11_lets 71 = .ok (.iload_n 1, 1) := by decide +kernel
theorem dX11_lets_72 : decode cX11_lets 72 = .ok (.iload 4, 2) := by decide +kernel
theorem dX11_lets_74 : decode cX11_lets 74 = .ok (.invokevirtual 152, 3) := by decide +kernel
theorem dX11_lets_77 : decode cX11_lets 77 = .ok (.aload_n 0, 1) := by decide +kernel
theorem dX11_lets_78 : decode cX11_lets 78 = .ok (.getfield 33, 3) := by decide +kernel
theorem dX11_lets_81 : decode cX11_lets 81 = .ok (.aload_n 0, 1) := by decide +kernel
theorem dX11_lets_82 : decode cX11_lets 82 = .ok (.getfield 48, 3) := by decide +kernel
theorem dX11_lets_85 : decode cX11_lets 85 = .ok (.getfield 156, 3) := by decide +kernel
theorem dX11_lets_88 : decode cX11_lets 88 = .ok (.aload_n 0, 1) := by decide +kernel
theorem dX11_lets_89 : decode cX11_lets 89 = .ok (.getfield 48, 3) := by decide +kernel
theorem dX11_lets_92 : decode cX11_lets 92 = .ok (.getfield 159, 3) := by decide +kernel
theorem dX11_lets_95 : decode cX11_lets 95 = .ok (.aload_n 0, 1) := by decide +kernel
theorem dX11_lets_96 : decode cX11_lets 96 = .ok (.getfield 16, 3) := by decide +kernel
theorem dX11_lets_99 : decode cX11_lets 99 = .ok (.getfield 142, 3) := by decide +kernel
theorem dX11_lets_102 : decode cX11_lets 102 = .ok (.iload_n 1, 1) := by decide +kernel
theorem dX11_lets_103 : decode cX11_lets 103 = .ok (.iaload, 1) := by decide +kernel
theorem dX11_lets_104 : decode cX11_lets 104 = .ok (.invokevirtual 163, 3) := by decide +kernel
theorem dX11_lets_107 : decode cX11_lets 107 = .ok (.aload_n 0, 1) := by decide +kernel
theorem dX11_lets_108 : decode cX11_lets 108 = .ok (.invokevirtual 167, 3) := by decide +kernel
theorem dX11_lets_111 : decode cX11_lets 111 = .ok (.ireturn, 1) := by decide +kernel
set_option maxRecDepth 20000 in
theorem ggX11_sets_X2_cellAt : GoodIn wsX11_sets wsX2_cellAt := goodIn_r _ [8, 9, 10, 85, 86, 87, 88, 89, 90, 91, 92, 93, 94, 95, 96] (by decide +kernel) (by decide +kernel)
set_option maxRecDepth 20000 in
theorem gX11_sets_X2_cellAt : GoodIn wsX11_sets (wsV RX11 109 RX2 yX2_cellAt wsX2_cellAt) := goodIn_app (goodIn_of _ (by decide +kernel)) ggX11_sets_X2_cellAt
set_option maxRecDepth 20000 in
theorem ggX11_sets_X11_isWay : GoodIn wsX11_sets wsX11_isWay := goodIn_r _ [14] (by decide +kernel) (by decide +kernel)
set_option maxRecDepth 20000 in
theorem gX11_sets_X11_isWay : GoodIn wsX11_sets (va_wsS RX11 171 yX11_isWay wsX11_isWay) := goodIn_app (goodIn_of _ (by decide +kernel)) ggX11_sets_X11_isWay
set_option maxRecDepth 20000 in
theorem ggX11_sets_X11_shutWays : GoodIn wsX11_sets wsX11_shutWays := goodIn_r _ [18, 1, 19, 2, 20, 56, 57, 58, 59, 60, 61, 62, 63, 64, 65, 66, 67, 68, 69, 70, 71, 72, 85, 86, 87, 88, 89, 90, 91, 92, 93, 94, 95, 96, 73, 74, 75, 76, 77, 78, 79, 80, 81, 82, 83, 84] (by decide +kernel) (by decide +kernel)
set_option maxRecDepth 20000 in
theorem gX11_sets_X11_shutWays : GoodIn wsX11_sets (wsV RX11 131 RX11 yX11_shutWays wsX11_shutWays) := goodIn_app (goodIn_of _ (by decide +kernel)) ggX11_sets_X11_shutWays
set_option maxRecDepth 20000 in
theorem ggX11_sets_X3_changePlank : GoodIn wsX11_sets wsX3_changePlank := goodIn_r _ [25, 26, 27, 28, 29, 24, 30, 31, 32, 33, 34, 7, 35, 36, 37, 38, 39, 40, 41, 42, 43, 44, 45, 46, 47, 48, 49, 50, 51, 52, 53, 54, 55, 73, 74, 75, 76, 77, 78, 79, 80, 81, 82, 83, 84, 85, 86, 87, 88, 89, 90, 91, 92, 93, 94, 95, 96] (by decide +kernel) (by decide +kernel)
set_option maxRecDepth 20000 in
theorem gX11_sets_X3_changePlank : GoodIn wsX11_sets (wsV RX11 177 RX3 yX3_changePlank wsX3_changePlank) := goodIn_app (goodIn_of _ (by decide +kernel)) ggX11_sets_X3_changePlank
theorem dX11_sets_0 : decode cX11_sets 0 = .ok (.aload_n 0, 1) := by decide +kernel
theorem dX11_sets_1 : decode cX11_sets 1 = .ok (.getfield 16, 3) := by decide +kernel
theorem dX11_sets_4 : decode cX11_sets 4 = .ok (.iload_n 1, 1) := by decide +kernel
theorem dX11_sets_5 : decode cX11_sets 5 = .ok (.iload_n 2, 1) := by decide +kernel
theorem dX11_sets_6 : decode cX11_sets 6 = .ok (.invokevirtual 109, 3) := by decide +kernel
theorem dX11_sets_9 : decode cX11_sets 9 = .ok (.istore 4, 2) := by decide +kernel
theorem dX11_sets_11 : decode cX11_sets 11 = .ok (.iload 4, 2) := by decide +kernel
theorem dX11_sets_13 : decode cX11_sets 13 = .ok (.iconst (-1), 1) := by decide +kernel
theorem dX11_sets_14 : decode cX11_sets 14 = .ok (.if_icmp .eq 10, 3) := by decide +kernel
theorem dX11_sets_17 : decode cX11_sets 17 = .ok (.iload_n 3, 1) := by decide +kernel
theorem dX11_sets_18 : decode cX11_sets 18 = .ok (.invokestatic 171, 3) := by decide +kernel
theorem dX11_sets_21 : decode cX11_sets 21 = .ok (.ifCond .ne 5, 3) := by decide +kernel
theorem dX11_sets_24 : decode cX11_sets 24 = .ok (.iconst (-1), 1) := by decide +kernel
theorem dX11_sets_25 : decode cX11_sets 25 = .ok (.ireturn, 1) := by decide +kernel
theorem dX11_sets_26 : decode cX11_sets 26 = .ok (.aload_n 0, 1) := by decide +kernel
theorem dX11_sets_27 : decode cX11_sets 27 = .ok (.iload 4, 2) := by decide +kernel
theorem dX11_sets_29 : decode cX11_sets 29 = .ok (.invokevirtual 131, 3) := by decide +kernel
theorem dX11_sets_32 : decode cX11_sets 32 = .ok (.iload_n 3, 1) := by decide +kernel
theorem dX11_sets_33 : decode cX11_sets 33 = .ok (.ishr, 1) := by decide +kernel
theorem dX11_sets_34 : decode cX11_sets 34 = .ok (.iconst 1, 1) := by decide +kernel
theorem dX11_sets_35 : decode cX11_sets 35 = .ok (.iand, 1) := by decide +kernel
theorem dX11_sets_36 : decode cX11_sets 36 = .ok (.ifCond .eq 6, 3) := by decide +kernel
theorem dX11_sets_39 : decode cX11_sets 39 = .ok (.bipush (-2), 2) := by decide +kernel
theorem dX11_sets_41 : decode cX11_sets 41 = .ok (.ireturn, 1) := by decide +kernel
theorem dX11_sets_42 : decode cX11_sets 42 = .ok (.aload_n 0, 1) := by decide +kernel
theorem dX11_sets_43 : decode cX11_sets 43 = .ok (.getfield 33, 3) := by decide +kernel
theorem dX11_sets_46 : decode cX11_sets 46 = .ok (.getfield 174, 3) := by decide +kernel
theorem dX11_sets_49 : decode cX11_sets 49 = .ok (.bipush 8, 2) := by decide +kernel
theorem dX11_sets_51 : decode cX11_sets 51 = .ok (.if_icmp .lt 6, 3) := by decide +kernel
theorem dX11_sets_54 : decode cX11_sets 54 = .ok (.bipush (-3), 2) := by decide +kernel
theorem dX11_sets_56 : decode cX11_sets 56 = .ok (.ireturn, 1) := by decide +kernel
theorem dX11_sets_57 : decode cX11_sets 57 = .ok (.aload_n 0, 1) := by decide +kernel
theorem dX11_sets_58 : decode cX11_sets 58 = .ok (.getfield 33, 3) := by decide +kernel
theorem dX11_sets_61 : decode cX11_sets 61 = .ok (.aload_n 0, 1) := by decide +kernel
theorem dX11_sets_62 : decode cX11_sets 62 = .ok (.getfield 16, 3) := by decide +kernel
theorem dX11_sets_65 : decode cX11_sets 65 = .ok (.iload 4, 2) := by decide +kernel
theorem dX11_sets_67 : decode cX11_sets 67 = .ok (.iload_n 3, 1) := by decide +kernel
theorem dX11_sets_68 : decode cX11_sets 68 = .ok (.invokevirtual 177, 3) := by decide +kernel
theorem dX11_sets_71 : decode cX11_sets 71 = .ok (.ireturn, 1) := by decide +kernel
set_option maxRecDepth 20000 in
theorem ggX11_takes_X2_cellAt : GoodIn wsX11_takes wsX2_cellAt := goodIn_r _ [8, 9, 10, 79, 80, 81, 82, 83, 84, 85, 86, 87, 88, 89, 90] (by decide +kernel) (by decide +kernel)
set_option maxRecDepth 20000 in
theorem gX11_takes_X2_cellAt : GoodIn wsX11_takes (wsV RX11 109 RX2 yX2_cellAt wsX2_cellAt) := goodIn_app (goodIn_of _ (by decide +kernel)) ggX11_takes_X2_cellAt
set_option maxRecDepth 20000 in
theorem ggX11_takes_X11_isWay : GoodIn wsX11_takes wsX11_isWay := goodIn_r _ [14] (by decide +kernel) (by decide +kernel)
set_option maxRecDepth 20000 in
theorem gX11_takes_X11_isWay : GoodIn wsX11_takes (va_wsS RX11 171 yX11_isWay wsX11_isWay) := goodIn_app (goodIn_of _ (by decide +kernel)) ggX11_takes_X11_isWay
set_option maxRecDepth 20000 in
theorem ggX11_takes_X3_changePlank : GoodIn wsX11_takes wsX3_changePlank := goodIn_r _ [19, 20, 21, 22, 23, 18, 24, 25, 26, 27, 28, 7, 29, 30, 31, 32, 33, 34, 35, 36, 37, 38, 39, 40, 41, 42, 43, 44, 45, 46, 47, 48, 49, 67, 68, 69, 70, 71, 72, 73, 74, 75, 76, 77, 78, 79, 80, 81, 82, 83, 84, 85, 86, 87, 88, 89, 90] (by decide +kernel) (by decide +kernel)
set_option maxRecDepth 20000 in
theorem gX11_takes_X3_changePlank : GoodIn wsX11_takes (wsV RX11 177 RX3 yX3_changePlank wsX3_changePlank) := goodIn_app (goodIn_of _ (by decide +kernel)) ggX11_takes_X3_changePlank
theorem dX11_takes_0 : decode cX11_takes 0 = .ok (.aload_n 0, 1) := by decide +kernel
theorem dX11_takes_1 : decode cX11_takes 1 = .ok (.getfield 16, 3) := by decide +kernel
theorem dX11_takes_4 : decode cX11_takes 4 = .ok (.iload_n 1, 1) := by decide +kernel
theorem dX11_takes_5 : decode cX11_takes 5 = .ok (.iload_n 2, 1) := by decide +kernel
theorem dX11_takes_6 : decode cX11_takes 6 = .ok (.invokevirtual 109, 3) := by decide +kernel
theorem dX11_takes_9 : decode cX11_takes 9 = .ok (.istore 4, 2) := by decide +kernel
theorem dX11_takes_11 : decode cX11_takes 11 = .ok (.iload 4, 2) := by decide +kernel
theorem dX11_takes_13 : decode cX11_takes 13 = .ok (.iconst (-1), 1) := by decide +kernel
theorem dX11_takes_14 : decode cX11_takes 14 = .ok (.if_icmp .eq 10, 3) := by decide +kernel
theorem dX11_takes_17 : decode cX11_takes 17 = .ok (.iload_n 3, 1) := by decide +kernel
theorem dX11_takes_18 : decode cX11_takes 18 = .ok (.invokestatic 171, 3) := by decide +kernel
theorem dX11_takes_21 : decode cX11_takes 21 = .ok (.ifCond .ne 5, 3) := by decide +kernel
theorem dX11_takes_24 : decode cX11_takes 24 = .ok (.iconst (-1), 1) := by decide +kernel
theorem dX11_takes_25 : decode cX11_takes 25 = .ok (.ireturn, 1) := by decide +kernel
theorem dX11_takes_26 : decode cX11_takes 26 = .ok (.aload_n 0, 1) := by decide +kernel
theorem dX11_takes_27 : decode cX11_takes 27 = .ok (.getfield 33, 3) := by decide +kernel
theorem dX11_takes_30 : decode cX11_takes 30 = .ok (.getfield 181, 3) := by decide +kernel
theorem dX11_takes_33 : decode cX11_takes 33 = .ok (.iload 4, 2) := by decide +kernel
theorem dX11_takes_35 : decode cX11_takes 35 = .ok (.iaload, 1) := by decide +kernel
theorem dX11_takes_36 : decode cX11_takes 36 = .ok (.iload_n 3, 1) := by decide +kernel
theorem dX11_takes_37 : decode cX11_takes 37 = .ok (.ishr, 1) := by decide +kernel
theorem dX11_takes_38 : decode cX11_takes 38 = .ok (.iconst 1, 1) := by decide +kernel
theorem dX11_takes_39 : decode cX11_takes 39 = .ok (.iand, 1) := by decide +kernel
theorem dX11_takes_40 : decode cX11_takes 40 = .ok (.ifCond .ne 6, 3) := by decide +kernel
theorem dX11_takes_43 : decode cX11_takes 43 = .ok (.bipush (-2), 2) := by decide +kernel
theorem dX11_takes_45 : decode cX11_takes 45 = .ok (.ireturn, 1) := by decide +kernel
theorem dX11_takes_46 : decode cX11_takes 46 = .ok (.aload_n 0, 1) := by decide +kernel
theorem dX11_takes_47 : decode cX11_takes 47 = .ok (.getfield 33, 3) := by decide +kernel
theorem dX11_takes_50 : decode cX11_takes 50 = .ok (.aload_n 0, 1) := by decide +kernel
theorem dX11_takes_51 : decode cX11_takes 51 = .ok (.getfield 16, 3) := by decide +kernel
theorem dX11_takes_54 : decode cX11_takes 54 = .ok (.iload 4, 2) := by decide +kernel
theorem dX11_takes_56 : decode cX11_takes 56 = .ok (.iload_n 3, 1) := by decide +kernel
theorem dX11_takes_57 : decode cX11_takes 57 = .ok (.invokevirtual 177, 3) := by decide +kernel
theorem dX11_takes_60 : decode cX11_takes 60 = .ok (.ireturn, 1) := by decide +kernel
set_option maxRecDepth 20000 in
theorem ggX11_cobble_X2_cellAt : GoodIn wsX11_cobble wsX2_cellAt := goodIn_r _ [8, 9, 10, 66, 67, 68, 69, 70, 71, 72, 73, 74, 75, 76, 77] (by decide +kernel) (by decide +kernel)
set_option maxRecDepth 20000 in
theorem gX11_cobble_X2_cellAt : GoodIn wsX11_cobble (wsV RX11 109 RX2 yX2_cellAt wsX2_cellAt) := goodIn_app (goodIn_of _ (by decide +kernel)) ggX11_cobble_X2_cellAt
set_option maxRecDepth 20000 in
theorem ggX11_cobble_X11_isHeight : GoodIn wsX11_cobble wsX11_isHeight := goodIn_r _ [14] (by decide +kernel) (by decide +kernel)
set_option maxRecDepth 20000 in
theorem gX11_cobble_X11_isHeight : GoodIn wsX11_cobble (va_wsS RX11 184 yX11_isHeight wsX11_isHeight) := goodIn_app (goodIn_of _ (by decide +kernel)) ggX11_cobble_X11_isHeight
set_option maxRecDepth 20000 in
theorem ggX11_cobble_X3_moveCobble : GoodIn wsX11_cobble wsX3_moveCobble := goodIn_r _ [19, 20, 21, 22, 23, 18, 24, 25, 26, 27, 28, 29, 30, 31, 32, 33, 34, 35, 36, 54, 55, 56, 57, 58, 59, 60, 61, 62, 63, 64, 65] (by decide +kernel) (by decide +kernel)
set_option maxRecDepth 20000 in
theorem gX11_cobble_X3_moveCobble : GoodIn wsX11_cobble (wsV RX11 187 RX3 yX3_moveCobble wsX3_moveCobble) := goodIn_app (goodIn_of _ (by decide +kernel)) ggX11_cobble_X3_moveCobble
theorem dX11_cobble_0 : decode cX11_cobble 0 = .ok (.aload_n 0, 1) := by decide +kernel
theorem dX11_cobble_1 : decode cX11_cobble 1 = .ok (.getfield 16, 3) := by decide +kernel
theorem dX11_cobble_4 : decode cX11_cobble 4 = .ok (.iload_n 1, 1) := by decide +kernel
theorem dX11_cobble_5 : decode cX11_cobble 5 = .ok (.iload_n 2, 1) := by decide +kernel
theorem dX11_cobble_6 : decode cX11_cobble 6 = .ok (.invokevirtual 109, 3) := by decide +kernel
theorem dX11_cobble_9 : decode cX11_cobble 9 = .ok (.istore 4, 2) := by decide +kernel
theorem dX11_cobble_11 : decode cX11_cobble 11 = .ok (.iload 4, 2) := by decide +kernel
theorem dX11_cobble_13 : decode cX11_cobble 13 = .ok (.iconst (-1), 1) := by decide +kernel
theorem dX11_cobble_14 : decode cX11_cobble 14 = .ok (.if_icmp .eq 12, 3) := by decide +kernel
theorem dX11_cobble_17 : decode cX11_cobble 17 = .ok (.iload_n 3, 1) := by decide +kernel
theorem dX11_cobble_18 : decode cX11_cobble 18 = .ok (.ifCond .eq 10, 3) := by decide +kernel
theorem dX11_cobble_21 : decode cX11_cobble 21 = .ok (.iload_n 3, 1) := by decide +kernel
theorem dX11_cobble_22 : decode cX11_cobble 22 = .ok (.iconst 1, 1) := by decide +kernel
theorem dX11_cobble_23 : decode cX11_cobble 23 = .ok (.if_icmp .eq 5, 3) := by decide +kernel
theorem dX11_cobble_26 : decode cX11_cobble 26 = .ok (.iconst (-1), 1) := by decide +kernel
theorem dX11_cobble_27 : decode cX11_cobble 27 = .ok (.ireturn, 1) := by decide +kernel
theorem dX11_cobble_28 : decode cX11_cobble 28 = .ok (.iload_n 3, 1) := by decide +kernel
theorem dX11_cobble_29 : decode cX11_cobble 29 = .ok (.iconst 1, 1) := by decide +kernel
theorem dX11_cobble_30 : decode cX11_cobble 30 = .ok (.if_icmp .ne 7, 3) := by decide +kernel
theorem dX11_cobble_33 : decode cX11_cobble 33 = .ok (.iconst 1, 1) := by decide +kernel
theorem dX11_cobble_34 : decode cX11_cobble 34 = .ok (.goto 4, 3) := by decide +kernel
theorem dX11_cobble_37 : decode cX11_cobble 37 = .ok (.iconst (-1), 1) := by decide +kernel
theorem dX11_cobble_38 : decode cX11_cobble 38 = .ok (.istore 5, 2) := by decide +kernel
theorem dX11_cobble_40 : decode cX11_cobble 40 = .ok (.aload_n 0, 1) := by decide +kernel
theorem dX11_cobble_41 : decode cX11_cobble 41 = .ok (.getfield 33, 3) := by decide +kernel
theorem dX11_cobble_44 : decode cX11_cobble 44 = .ok (.getfield 113, 3) := by decide +kernel
theorem dX11_cobble_47 : decode cX11_cobble 47 = .ok (.iload 4, 2) := by decide +kernel
theorem dX11_cobble_49 : decode cX11_cobble 49 = .ok (.iaload, 1) := by decide +kernel
theorem dX11_cobble_50 : decode cX11_cobble 50 = .ok (.iload 5, 2) := by decide +kernel
theorem dX11_cobble_52 : decode cX11_cobble 52 = .ok (.iadd, 1) := by decide +kernel
theorem dX11_cobble_53 : decode cX11_cobble 53 = .ok (.invokestatic 184, 3) := by decide +kernel
theorem dX11_cobble_56 : decode cX11_cobble 56 = .ok (.ifCond .ne 6, 3) := by decide +kernel
theorem dX11_cobble_59 : decode cX11_cobble 59 = .ok (.bipush (-2), 2) := by decide +kernel
theorem dX11_cobble_61 : decode cX11_cobble 61 = .ok (.ireturn, 1) := by decide +kernel
theorem dX11_cobble_62 : decode cX11_cobble 62 = .ok (.aload_n 0, 1) := by decide +kernel
theorem dX11_cobble_63 : decode cX11_cobble 63 = .ok (.getfield 33, 3) := by decide +kernel
theorem dX11_cobble_66 : decode cX11_cobble 66 = .ok (.iload 4, 2) := by decide +kernel
theorem dX11_cobble_68 : decode cX11_cobble 68 = .ok (.iload 5, 2) := by decide +kernel
theorem dX11_cobble_70 : decode cX11_cobble 70 = .ok (.invokevirtual 187, 3) := by decide +kernel
theorem dX11_cobble_73 : decode cX11_cobble 73 = .ok (.ireturn, 1) := by decide +kernel
set_option maxRecDepth 20000 in
theorem ggX11_sweep_X2_cellAt : GoodIn wsX11_sweep wsX2_cellAt := goodIn_r _ [8, 9, 10, 69, 70, 71, 72, 73, 74, 75, 76, 77, 78, 79, 80] (by decide +kernel) (by decide +kernel)
set_option maxRecDepth 20000 in
theorem gX11_sweep_X2_cellAt : GoodIn wsX11_sweep (wsV RX11 109 RX2 yX2_cellAt wsX2_cellAt) := goodIn_app (goodIn_of _ (by decide +kernel)) ggX11_sweep_X2_cellAt
set_option maxRecDepth 20000 in
theorem ggX11_sweep_X3_sweepAway : GoodIn wsX11_sweep wsX3_sweepAway := goodIn_r _ [15, 16, 17, 18, 19, 20, 14, 21, 22, 23, 24, 25, 26, 27, 28, 29, 30, 31, 32, 33, 34, 35, 36, 37, 38, 39, 57, 58, 59, 60, 61, 62, 63, 64, 65, 66, 67, 68] (by decide +kernel) (by decide +kernel)
set_option maxRecDepth 20000 in
theorem gX11_sweep_X3_sweepAway : GoodIn wsX11_sweep (wsV RX11 190 RX3 yX3_sweepAway wsX3_sweepAway) := goodIn_app (goodIn_of _ (by decide +kernel)) ggX11_sweep_X3_sweepAway
theorem dX11_sweep_0 : decode cX11_sweep 0 = .ok (.aload_n 0, 1) := by decide +kernel
theorem dX11_sweep_1 : decode cX11_sweep 1 = .ok (.getfield 16, 3) := by decide +kernel
theorem dX11_sweep_4 : decode cX11_sweep 4 = .ok (.iload_n 1, 1) := by decide +kernel
theorem dX11_sweep_5 : decode cX11_sweep 5 = .ok (.iload_n 2, 1) := by decide +kernel
theorem dX11_sweep_6 : decode cX11_sweep 6 = .ok (.invokevirtual 109, 3) := by decide +kernel
theorem dX11_sweep_9 : decode cX11_sweep 9 = .ok (.istore_n 3, 1) := by decide +kernel
theorem dX11_sweep_10 : decode cX11_sweep 10 = .ok (.iload_n 3, 1) := by decide +kernel
theorem dX11_sweep_11 : decode cX11_sweep 11 = .ok (.iconst (-1), 1) := by decide +kernel
theorem dX11_sweep_12 : decode cX11_sweep 12 = .ok (.if_icmp .ne 5, 3) := by decide +kernel
theorem dX11_sweep_15 : decode cX11_sweep 15 = .ok (.iconst (-1), 1) := by decide +kernel
theorem dX11_sweep_16 : decode cX11_sweep 16 = .ok (.ireturn, 1) := by decide +kernel
theorem dX11_sweep_17 : decode cX11_sweep 17 = .ok (.aload_n 0, 1) := by decide +kernel
theorem dX11_sweep_18 : decode cX11_sweep 18 = .ok (.getfield 33, 3) := by decide +kernel
theorem dX11_sweep_21 : decode cX11_sweep 21 = .ok (.getfield 119, 3) := by decide +kernel
theorem dX11_sweep_24 : decode cX11_sweep 24 = .ok (.iload_n 3, 1) := by decide +kernel
theorem dX11_sweep_25 : decode cX11_sweep 25 = .ok (.iaload, 1) := by decide +kernel
theorem dX11_sweep_26 : decode cX11_sweep 26 = .ok (.ifCond .ne 6, 3) := by decide +kernel
theorem dX11_sweep_29 : decode cX11_sweep 29 = .ok (.bipush (-2), 2) := by decide +kernel
theorem dX11_sweep_31 : decode cX11_sweep 31 = .ok (.ireturn, 1) := by decide +kernel
theorem dX11_sweep_32 : decode cX11_sweep 32 = .ok (.aload_n 0, 1) := by decide +kernel
theorem dX11_sweep_33 : decode cX11_sweep 33 = .ok (.getfield 33, 3) := by decide +kernel
theorem dX11_sweep_36 : decode cX11_sweep 36 = .ok (.iload_n 3, 1) := by decide +kernel
theorem dX11_sweep_37 : decode cX11_sweep 37 = .ok (.invokevirtual 190, 3) := by decide +kernel
theorem dX11_sweep_40 : decode cX11_sweep 40 = .ok (.ireturn, 1) := by decide +kernel
set_option maxRecDepth 20000 in
theorem ggX11_undo_X3_takeBack : GoodIn wsX11_undo wsX3_takeBack := goodIn_r _ [8, 9, 10, 11, 12, 13, 14, 15, 16, 17, 7, 18, 19, 20, 21, 22, 23, 24, 25, 26, 27, 28, 29, 30, 31, 32, 33, 34, 35, 36, 37, 55, 56, 57, 58, 59, 60, 61, 62, 63, 64, 65, 66, 67, 68, 69, 70, 71, 72, 73, 74, 75, 76, 77, 78] (by decide +kernel) (by decide +kernel)
set_option maxRecDepth 20000 in
theorem gX11_undo_X3_takeBack : GoodIn wsX11_undo (wsV RX11 196 RX3 yX3_takeBack wsX3_takeBack) := goodIn_app (goodIn_of _ (by decide +kernel)) ggX11_undo_X3_takeBack
theorem dX11_undo_0 : decode cX11_undo 0 = .ok (.aload_n 0, 1) := by decide +kernel
theorem dX11_undo_1 : decode cX11_undo 1 = .ok (.getfield 33, 3) := by decide +kernel
theorem dX11_undo_4 : decode cX11_undo 4 = .ok (.getfield 193, 3) := by decide +kernel
theorem dX11_undo_7 : decode cX11_undo 7 = .ok (.iconst 1, 1) := by decide +kernel
theorem dX11_undo_8 : decode cX11_undo 8 = .ok (.if_icmp .ge 6, 3) := by decide +kernel
theorem dX11_undo_11 : decode cX11_undo 11 = .ok (.bipush (-2), 2) := by decide +kernel
theorem dX11_undo_13 : decode cX11_undo 13 = .ok (.ireturn, 1) := by decide +kernel
theorem dX11_undo_14 : decode cX11_undo 14 = .ok (.aload_n 0, 1) := by decide +kernel
theorem dX11_undo_15 : decode cX11_undo 15 = .ok (.getfield 33, 3) := by decide +kernel
theorem dX11_undo_18 : decode cX11_undo 18 = .ok (.aload_n 0, 1) := by decide +kernel
theorem dX11_undo_19 : decode cX11_undo 19 = .ok (.getfield 16, 3) := by decide +kernel
theorem dX11_undo_22 : decode cX11_undo 22 = .ok (.invokevirtual 196, 3) := by decide +kernel
theorem dX11_undo_25 : decode cX11_undo 25 = .ok (.ireturn, 1) := by decide +kernel
set_option maxRecDepth 20000 in
theorem ggX11_now_X11_sumOf : GoodIn wsX11_now wsX11_sumOf := goodIn_r _ [11, 12, 13, 63, 64, 65, 66, 67, 68, 69, 70, 71, 72, 73, 74, 75, 76, 77, 78, 79, 92, 93, 94, 95, 96, 97, 98, 99, 100, 101, 102, 103] (by decide +kernel) (by decide +kernel)
set_option maxRecDepth 20000 in
theorem gX11_now_X11_sumOf : GoodIn wsX11_now (wsV RX11 148 RX11 yX11_sumOf wsX11_sumOf) := goodIn_app (goodIn_of _ (by decide +kernel)) ggX11_now_X11_sumOf
set_option maxRecDepth 20000 in
theorem ggX11_now_X11_allSeenIsSo : GoodIn wsX11_now wsX11_allSeenIsSo := goodIn_r _ [17, 18, 19, 20, 21, 22, 23, 24, 10, 25, 26, 12, 1, 27, 28, 29, 30, 31, 32, 33, 34, 35, 36, 37, 38, 39, 40, 41, 42, 43, 44, 45, 46, 47, 48, 49, 50, 51, 52, 53, 54, 55, 56, 57, 58, 59, 60, 61, 62, 63, 64, 65, 66, 67, 68, 69, 70, 71, 72, 73, 74, 75, 76, 77, 78, 79, 104, 105, 106, 107, 108, 92, 93, 94, 95, 96, 97, 98, 99, 100, 101, 102, 103, 80, 81, 82, 83, 84, 85, 86, 87, 88, 89, 90, 91] (by decide +kernel) (by decide +kernel)
set_option maxRecDepth 20000 in
theorem gX11_now_X11_allSeenIsSo : GoodIn wsX11_now (wsV RX11 200 RX11 yX11_allSeenIsSo wsX11_allSeenIsSo) := goodIn_app (goodIn_of _ (by decide +kernel)) ggX11_now_X11_allSeenIsSo
theorem dX11_now_0 : decode cX11_now 0 = .ok (.iload_n 1, 1) := by decide +kernel
theorem dX11_now_1 : decode cX11_now 1 = .ok (.tableswitch 136 0 6 #[43, 67, 79, 91, 103, 115, 123], 43) := by decide +kernel
theorem dX11_now_44 : decode cX11_now 44 = .ok (.aload_n 0, 1) := by decide +kernel
theorem dX11_now_45 : decode cX11_now 45 = .ok (.aload_n 0, 1) := by decide +kernel
theorem dX11_now_46 : decode cX11_now 46 = .ok (.getfield 33, 3) := by decide +kernel
theorem dX11_now_49 : decode cX11_now 49 = .ok (.getfield 119, 3) := by decide +kernel
theorem dX11_now_52 : decode cX11_now 52 = .ok (.invokevirtual 148, 3) := by decide +kernel
theorem dX11_now_55 : decode cX11_now 55 = .ok (.aload_n 0, 1) := by decide +kernel
theorem dX11_now_56 : decode cX11_now 56 = .ok (.aload_n 0, 1) := by decide +kernel
theorem dX11_now_57 : decode cX11_now 57 = .ok (.getfield 33, 3) := by decide +kernel
theorem dX11_now_60 : decode cX11_now 60 = .ok (.getfield 125, 3) := by decide +kernel
theorem dX11_now_63 : decode cX11_now 63 = .ok (.invokevirtual 148, 3) := by decide +kernel
theorem dX11_now_66 : decode cX11_now 66 = .ok (.iadd, 1) := by decide +kernel
theorem dX11_now_67 : decode cX11_now 67 = .ok (.ireturn, 1) := by decide +kernel
theorem dX11_now_68 : decode cX11_now 68 = .ok (.aload_n 0, 1) := by decide +kernel
theorem dX11_now_69 : decode cX11_now 69 = .ok (.aload_n 0, 1) := by decide +kernel
theorem dX11_now_70 : decode cX11_now 70 = .ok (.getfield 33, 3) := by decide +kernel
theorem dX11_now_73 : decode cX11_now 73 = .ok (.getfield 119, 3) := by decide +kernel
theorem dX11_now_76 : decode cX11_now 76 = .ok (.invokevirtual 148, 3) := by decide +kernel
theorem dX11_now_79 : decode cX11_now 79 = .ok (.ireturn, 1) := by decide +kernel
theorem dX11_now_80 : decode cX11_now 80 = .ok (.aload_n 0, 1) := by decide +kernel
theorem dX11_now_81 : decode cX11_now 81 = .ok (.aload_n 0, 1) := by decide +kernel
theorem dX11_now_82 : decode cX11_now 82 = .ok (.getfield 33, 3) := by decide +kernel
theorem dX11_now_85 : decode cX11_now 85 = .ok (.getfield 122, 3) := by decide +kernel
theorem dX11_now_88 : decode cX11_now 88 = .ok (.invokevirtual 148, 3) := by decide +kernel
theorem dX11_now_91 : decode cX11_now 91 = .ok (.ireturn, 1) := by decide +kernel
theorem dX11_now_92 : decode cX11_now 92 = .ok (.aload_n 0, 1) := by decide +kernel
theorem dX11_now_93 : decode cX11_now 93 = .ok (.aload_n 0, 1) := by decide +kernel
theorem dX11_now_94 : decode cX11_now 94 = .ok (.getfield 33, 3) := by decide +kernel
theorem dX11_now_97 : decode cX11_now 97 = .ok (.getfield 125, 3) := by decide +kernel
theorem dX11_now_100 : decode cX11_now 100 = .ok (.invokevirtual 148, 3) := by decide +kernel
theorem dX11_now_103 : decode cX11_now 103 = .ok (.ireturn, 1) := by decide +kernel
theorem dX11_now_104 : decode cX11_now 104 = .ok (.aload_n 0, 1) := by decide +kernel
theorem dX11_now_105 : decode cX11_now 105 = .ok (.aload_n 0, 1) := by decide +kernel
theorem dX11_now_106 : decode cX11_now 106 = .ok (.getfield 33, 3) := by decide +kernel
theorem dX11_now_109 : decode cX11_now 109 = .ok (.getfield 128, 3) := by decide +kernel
theorem dX11_now_112 : decode cX11_now 112 = .ok (.invokevirtual 148, 3) := by decide +kernel
theorem dX11_now_115 : decode cX11_now 115 = .ok (.ireturn, 1) := by decide +kernel
theorem dX11_now_116 : decode cX11_now 116 = .ok (.aload_n 0, 1) := by decide +kernel
theorem dX11_now_117 : decode cX11_now 117 = .ok (.getfield 33, 3) := by decide +kernel
theorem dX11_now_120 : decode cX11_now 120 = .ok (.getfield 174, 3) := by decide +kernel
theorem dX11_now_123 : decode cX11_now 123 = .ok (.ireturn, 1) := by decide +kernel
theorem dX11_now_124 : decode cX11_now 124 = .ok (.aload_n 0, 1) := by decide +kernel
theorem dX11_now_125 : decode cX11_now 125 = .ok (.invokevirtual 200, 3) := by decide +kernel
theorem dX11_now_128 : decode cX11_now 128 = .ok (.ifCond .eq 7, 3) := by decide +kernel
theorem dX11_now_131 : decode cX11_now 131 = .ok (.iconst 1, 1) := by decide +kernel
theorem dX11_now_132 : decode cX11_now 132 = .ok (.goto 4, 3) := by decide +kernel
theorem dX11_now_135 : decode cX11_now 135 = .ok (.iconst 0, 1) := by decide +kernel
theorem dX11_now_136 : decode cX11_now 136 = .ok (.ireturn, 1) := by decide +kernel
theorem dX11_now_137 : decode cX11_now 137 = .ok (.iconst (-1), 1) := by decide +kernel
theorem dX11_now_138 : decode cX11_now 138 = .ok (.ireturn, 1) := by decide +kernel
set_option maxRecDepth 20000 in
theorem ggX11_end_X2_cellAt : GoodIn wsX11_end wsX2_cellAt := goodIn_r _ [10, 11, 12, 85, 86, 87, 88, 89, 90, 91, 92, 93, 94, 95, 96] (by decide +kernel) (by decide +kernel)
set_option maxRecDepth 20000 in
theorem gX11_end_X2_cellAt : GoodIn wsX11_end (wsV RX11 109 RX2 yX2_cellAt wsX2_cellAt) := goodIn_app (goodIn_of _ (by decide +kernel)) ggX11_end_X2_cellAt
set_option maxRecDepth 20000 in
theorem ggX11_end_X11_isKind : GoodIn wsX11_end wsX11_isKind := goodIn_r _ [17, 1, 18, 63, 64, 65, 66, 67, 68, 69, 70, 71, 72, 73, 74, 75, 76, 77, 78, 79, 85, 86, 87, 88, 89, 90, 91, 92, 93, 94, 95, 96] (by decide +kernel) (by decide +kernel)
set_option maxRecDepth 20000 in
theorem gX11_end_X11_isKind : GoodIn wsX11_end (wsV RX11 135 RX11 yX11_isKind wsX11_isKind) := goodIn_app (goodIn_of _ (by decide +kernel)) ggX11_end_X11_isKind
set_option maxRecDepth 20000 in
theorem ggX11_end_X8_goAs : GoodIn wsX11_end wsX8_goAs := goodIn_r _ [23, 24, 25, 26, 27, 28, 22, 29, 30, 31, 32, 33, 34, 35, 36, 37, 38, 39, 40, 41, 42, 43, 44, 45, 46, 47, 48, 49, 50, 9, 51, 52, 85, 86, 87, 88, 89, 90, 91, 92, 93, 94, 95, 96, 80, 81, 82, 83, 84, 97, 98, 99, 100, 101, 102, 103, 104, 105, 106, 107, 108] (by decide +kernel) (by decide +kernel)
set_option maxRecDepth 20000 in
theorem gX11_end_X8_goAs : GoodIn wsX11_end (wsV RX11 152 RX8 yX8_goAs wsX8_goAs) := goodIn_app (goodIn_of _ (by decide +kernel)) ggX11_end_X8_goAs
set_option maxRecDepth 20000 in
theorem ggX11_end_X11_endCode : GoodIn wsX11_end wsX11_endCode := goodIn_r _ [56, 1, 2, 57, 58, 59, 60, 61, 9, 62, 11, 63, 64, 65, 66, 67, 68, 69, 70, 71, 72, 73, 74, 75, 76, 77, 78, 79, 80, 81, 82, 83, 84, 85, 86, 87, 88, 89, 90, 91, 92, 93, 94, 95, 96] (by decide +kernel) (by decide +kernel)
set_option maxRecDepth 20000 in
theorem gX11_end_X11_endCode : GoodIn wsX11_end (wsV RX11 167 RX11 yX11_endCode wsX11_endCode) := goodIn_app (goodIn_of _ (by decide +kernel)) ggX11_end_X11_endCode
theorem dX11_end_0 : decode cX11_end 0 = .ok (.aload_n 0, 1) := by decide +kernel
theorem dX11_end_1 : decode cX11_end 1 = .ok (.getfield 16, 3) := by decide +kernel
theorem dX11_end_4 : decode cX11_end 4 = .ok (.iload_n 2, 1) := by decide +kernel
theorem dX11_end_5 : decode cX11_end 5 = .ok (.iload_n 3, 1) := by decide +kernel
theorem dX11_end_6 : decode cX11_end 6 = .ok (.invokevirtual 109, 3) := by decide +kernel
theorem dX11_end_9 : decode cX11_end 9 = .ok (.istore 5, 2) := by decide +kernel
theorem dX11_end_11 : decode cX11_end 11 = .ok (.aload_n 0, 1) := by decide +kernel
theorem dX11_end_12 : decode cX11_end 12 = .ok (.iload_n 1, 1) := by decide +kernel
theorem dX11_end_13 : decode cX11_end 13 = .ok (.invokevirtual 135, 3) := by decide +kernel
theorem dX11_end_16 : decode cX11_end 16 = .ok (.ifCond .eq 20, 3) := by decide +kernel
theorem dX11_end_19 : decode cX11_end 19 = .ok (.iload 5, 2) := by decide +kernel
theorem dX11_end_21 : decode cX11_end 21 = .ok (.iconst (-1), 1) := by decide +kernel
theorem dX11_end_22 : decode cX11_end 22 = .ok (.if_icmp .eq 14, 3) := by decide +kernel
theorem dX11_end_25 : decode cX11_end 25 = .ok (.iload 4, 2) := by decide +kernel
theorem dX11_end_27 : decode cX11_end 27 = .ok (.ifCond .lt 9, 3) := by decide +kernel
theorem dX11_end_30 : decode cX11_end 30 = .ok (.iload 4, 2) := by decide +kernel
theorem dX11_end_32 : decode cX11_end 32 = .ok (.iconst 2, 1) := by decide +kernel
theorem dX11_end_33 : decode cX11_end 33 = .ok (.if_icmp .le 5, 3) := by decide +kernel
theorem dX11_end_36 : decode cX11_end 36 = .ok (.iconst (-1), 1) := by decide +kernel
theorem dX11_end_37 : decode cX11_end 37 = .ok (.ireturn, 1) := by decide +kernel
theorem dX11_end_38 : decode cX11_end 38 = .ok (.aload_n 0, 1) := by decide +kernel
theorem dX11_end_39 : decode cX11_end 39 = .ok (.getfield 48, 3) := by decide +kernel
theorem dX11_end_42 : decode cX11_end 42 = .ok (.aload_n 0, 1) := by decide +kernel
theorem dX11_end_43 : decode cX11_end 43 = .ok (.getfield 16, 3) := by decide +kernel
theorem dX11_end_46 : decode cX11_end 46 = .ok (.aload_n 0, 1) := by decide +kernel
theorem dX11_end_47 : decode cX11_end 47 = .ok (.getfield 33, 3) := by decide +kernel
theorem dX11_end_50 : decode cX11_end 50 = .ok (.iload_n 1, 1) := by decide +kernel
theorem dX11_end_51 : decode cX11_end 51 = .ok (.iload 5, 2) := by decide +kernel
theorem dX11_end_53 : decode cX11_end 53 = .ok (.invokevirtual 152, 3) := by decide +kernel
theorem dX11_end_56 : decode cX11_end 56 = .ok (.iload 4, 2) := by decide +kernel
theorem dX11_end_58 : decode cX11_end 58 = .ok (.ifCond .ne 8, 3) := by decide +kernel
theorem dX11_end_61 : decode cX11_end 61 = .ok (.aload_n 0, 1) := by decide +kernel
theorem dX11_end_62 : decode cX11_end 62 = .ok (.invokevirtual 167, 3) := by decide +kernel
theorem dX11_end_65 : decode cX11_end 65 = .ok (.ireturn, 1) := by decide +kernel
theorem dX11_end_66 : decode cX11_end 66 = .ok (.iload 4, 2) := by decide +kernel
theorem dX11_end_68 : decode cX11_end 68 = .ok (.iconst 1, 1) := by decide +kernel

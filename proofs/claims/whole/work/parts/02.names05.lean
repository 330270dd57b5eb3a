theorem dX11_sharedDivisor_3 : decode cX11_sharedDivisor 3 = .ok (.iconst 1, 1) := by decide +kernel
theorem dX11_sharedDivisor_4 : decode cX11_sharedDivisor 4 = .ok (.if_icmp .le 23, 3) := by decide +kernel
theorem dX11_sharedDivisor_7 : decode cX11_sharedDivisor 7 = .ok (.iload_n 0, 1) := by decide +kernel
theorem dX11_sharedDivisor_8 : decode cX11_sharedDivisor 8 = .ok (.iload_n 2, 1) := by decide +kernel
theorem dX11_sharedDivisor_9 : decode cX11_sharedDivisor 9 = .ok (.irem, 1) := by decide +kernel
theorem dX11_sharedDivisor_10 : decode cX11_sharedDivisor 10 = .ok (.ifCond .ne 11, 3) := by decide +kernel
theorem dX11_sharedDivisor_13 : decode cX11_sharedDivisor 13 = .ok (.iload_n 1, 1) := by decide +kernel
theorem dX11_sharedDivisor_14 : decode cX11_sharedDivisor 14 = .ok (.iload_n 2, 1) := by decide +kernel
theorem dX11_sharedDivisor_15 : decode cX11_sharedDivisor 15 = .ok (.irem, 1) := by decide +kernel
theorem dX11_sharedDivisor_16 : decode cX11_sharedDivisor 16 = .ok (.ifCond .ne 5, 3) := by decide +kernel
theorem dX11_sharedDivisor_19 : decode cX11_sharedDivisor 19 = .ok (.iload_n 2, 1) := by decide +kernel
theorem dX11_sharedDivisor_20 : decode cX11_sharedDivisor 20 = .ok (.ireturn, 1) := by decide +kernel
theorem dX11_sharedDivisor_21 : decode cX11_sharedDivisor 21 = .ok (.iinc 2 (-1), 3) := by decide +kernel
theorem dX11_sharedDivisor_24 : decode cX11_sharedDivisor 24 = .ok (.goto (-22), 3) := by decide +kernel
theorem dX11_sharedDivisor_27 : decode cX11_sharedDivisor 27 = .ok (.iconst 1, 1) := by decide +kernel
theorem dX11_sharedDivisor_28 : decode cX11_sharedDivisor 28 = .ok (.ireturn, 1) := by decide +kernel
set_option maxRecDepth 20000 in
theorem ggX11_apartBits_X11_endOf : GoodIn wsX11_apartBits wsX11_endOf := goodIn_r _ [7, 8, 1, 9, 10, 11, 12, 13, 14, 15, 16, 17, 18, 19, 20, 21, 22, 23, 24, 25, 26, 27, 28, 29, 30, 31, 32, 33, 34, 35, 36, 37, 38, 39, 40, 41, 42, 43, 44, 45, 46, 47, 6, 48, 49, 50, 51, 52, 53, 54, 55, 56, 57, 58, 59, 60, 61, 62, 63, 64, 65, 66, 67, 68, 69, 70, 71, 72, 73, 74, 75, 76, 77, 78, 79, 80, 81, 82, 83, 84, 85, 86, 87, 88, 89, 90, 91, 92, 93, 94, 95, 96, 97, 98, 99, 100, 101] (by decide +kernel) (by decide +kernel)
set_option maxRecDepth 20000 in
theorem gX11_apartBits_X11_endOf : GoodIn wsX11_apartBits (wsV RX11 312 RX11 yX11_endOf wsX11_endOf) := goodIn_app (goodIn_of _ (by decide +kernel)) ggX11_apartBits_X11_endOf
theorem dX11_apartBits_0 : decode cX11_apartBits 0 = .ok (.iconst 0, 1) := by decide +kernel
theorem dX11_apartBits_1 : decode cX11_apartBits 1 = .ok (.istore_n 3, 1) := by decide +kernel
theorem dX11_apartBits_2 : decode cX11_apartBits 2 = .ok (.iconst 0, 1) := by decide +kernel
theorem dX11_apartBits_3 : decode cX11_apartBits 3 = .ok (.istore 4, 2) := by decide +kernel
theorem dX11_apartBits_5 : decode cX11_apartBits 5 = .ok (.iload 4, 2) := by decide +kernel
theorem dX11_apartBits_7 : decode cX11_apartBits 7 = .ok (.aload_n 0, 1) := by decide +kernel
theorem dX11_apartBits_8 : decode cX11_apartBits 8 = .ok (.getfield 16, 3) := by decide +kernel
theorem dX11_apartBits_11 : decode cX11_apartBits 11 = .ok (.getfield 232, 3) := by decide +kernel
theorem dX11_apartBits_14 : decode cX11_apartBits 14 = .ok (.if_icmp .ge 33, 3) := by decide +kernel
theorem dX11_apartBits_17 : decode cX11_apartBits 17 = .ok (.aload_n 0, 1) := by decide +kernel
theorem dX11_apartBits_18 : decode cX11_apartBits 18 = .ok (.iload_n 1, 1) := by decide +kernel
theorem dX11_apartBits_19 : decode cX11_apartBits 19 = .ok (.iload 4, 2) := by decide +kernel
theorem dX11_apartBits_21 : decode cX11_apartBits 21 = .ok (.invokevirtual 312, 3) := by decide +kernel
theorem dX11_apartBits_24 : decode cX11_apartBits 24 = .ok (.aload_n 0, 1) := by decide +kernel
theorem dX11_apartBits_25 : decode cX11_apartBits 25 = .ok (.iload_n 2, 1) := by decide +kernel
theorem dX11_apartBits_26 : decode cX11_apartBits 26 = .ok (.iload 4, 2) := by decide +kernel
theorem dX11_apartBits_28 : decode cX11_apartBits 28 = .ok (.invokevirtual 312, 3) := by decide +kernel
theorem dX11_apartBits_31 : decode cX11_apartBits 31 = .ok (.if_icmp .eq 10, 3) := by decide +kernel
theorem dX11_apartBits_34 : decode cX11_apartBits 34 = .ok (.iload_n 3, 1) := by decide +kernel
theorem dX11_apartBits_35 : decode cX11_apartBits 35 = .ok (.iconst 1, 1) := by decide +kernel
theorem dX11_apartBits_36 : decode cX11_apartBits 36 = .ok (.iload 4, 2) := by decide +kernel
theorem dX11_apartBits_38 : decode cX11_apartBits 38 = .ok (.ishl, 1) := by decide +kernel
theorem dX11_apartBits_39 : decode cX11_apartBits 39 = .ok (.ior, 1) := by decide +kernel
theorem dX11_apartBits_40 : decode cX11_apartBits 40 = .ok (.istore_n 3, 1) := by decide +kernel
theorem dX11_apartBits_41 : decode cX11_apartBits 41 = .ok (.iinc 4 1, 3) := by decide +kernel
theorem dX11_apartBits_44 : decode cX11_apartBits 44 = .ok (.goto (-39), 3) := by decide +kernel
theorem dX11_apartBits_47 : decode cX11_apartBits 47 = .ok (.iload_n 3, 1) := by decide +kernel
theorem dX11_apartBits_48 : decode cX11_apartBits 48 = .ok (.ireturn, 1) := by decide +kernel
theorem dX11_noteTold_0 : decode cX11_noteTold 0 = .ok (.iconst 0, 1) := by decide +kernel
theorem dX11_noteTold_1 : decode cX11_noteTold 1 = .ok (.istore_n 3, 1) := by decide +kernel
theorem dX11_noteTold_2 : decode cX11_noteTold 2 = .ok (.iload_n 3, 1) := by decide +kernel
theorem dX11_noteTold_3 : decode cX11_noteTold 3 = .ok (.aload_n 0, 1) := by decide +kernel
theorem dX11_noteTold_4 : decode cX11_noteTold 4 = .ok (.getfield 16, 3) := by decide +kernel
theorem dX11_noteTold_7 : decode cX11_noteTold 7 = .ok (.getfield 232, 3) := by decide +kernel
theorem dX11_noteTold_10 : decode cX11_noteTold 10 = .ok (.if_icmp .ge 27, 3) := by decide +kernel
theorem dX11_noteTold_13 : decode cX11_noteTold 13 = .ok (.iload_n 1, 1) := by decide +kernel
theorem dX11_noteTold_14 : decode cX11_noteTold 14 = .ok (.iload_n 3, 1) := by decide +kernel
theorem dX11_noteTold_15 : decode cX11_noteTold 15 = .ok (.ishr, 1) := by decide +kernel
theorem dX11_noteTold_16 : decode cX11_noteTold 16 = .ok (.iconst 1, 1) := by decide +kernel
theorem dX11_noteTold_17 : decode cX11_noteTold 17 = .ok (.iand, 1) := by decide +kernel
theorem dX11_noteTold_18 : decode cX11_noteTold 18 = .ok (.ifCond .eq 13, 3) := by decide +kernel
theorem dX11_noteTold_21 : decode cX11_noteTold 21 = .ok (.aload_n 0, 1) := by decide +kernel
theorem dX11_noteTold_22 : decode cX11_noteTold 22 = .ok (.getfield 65, 3) := by decide +kernel
theorem dX11_noteTold_25 : decode cX11_noteTold 25 = .ok (.iload_n 3, 1) := by decide +kernel
theorem dX11_noteTold_26 : decode cX11_noteTold 26 = .ok (.dup2, 1) := by decide +kernel
theorem dX11_noteTold_27 : decode cX11_noteTold 27 = .ok (.iaload, 1) := by decide +kernel
theorem dX11_noteTold_28 : decode cX11_noteTold 28 = .ok (.iload_n 2, 1) := by decide +kernel
theorem dX11_noteTold_29 : decode cX11_noteTold 29 = .ok (.ior, 1) := by decide +kernel
theorem dX11_noteTold_30 : decode cX11_noteTold 30 = .ok (.iastore, 1) := by decide +kernel
theorem dX11_noteTold_31 : decode cX11_noteTold 31 = .ok (.iinc 3 1, 3) := by decide +kernel
theorem dX11_noteTold_34 : decode cX11_noteTold 34 = .ok (.goto (-32), 3) := by decide +kernel
theorem dX11_noteTold_37 : decode cX11_noteTold 37 = .ok (.return_, 1) := by decide +kernel
set_option maxRecDepth 20000 in
theorem ggX11_fewestTelling_X11_partnerBelow : GoodIn wsX11_fewestTelling wsX11_partnerBelow := goodIn_r _ [8, 3, 9, 10, 11, 12, 13, 14, 15, 16, 17, 18, 19, 20, 21, 22, 23, 24, 25] (by decide +kernel) (by decide +kernel)
set_option maxRecDepth 20000 in
theorem gX11_fewestTelling_X11_partnerBelow : GoodIn wsX11_fewestTelling (wsV RX11 315 RX11 yX11_partnerBelow wsX11_partnerBelow) := goodIn_app (goodIn_of _ (by decide +kernel)) ggX11_fewestTelling_X11_partnerBelow
theorem dX11_fewestTelling_0 : decode cX11_fewestTelling 0 = .ok (.iload_n 1, 1) := by decide +kernel
theorem dX11_fewestTelling_1 : decode cX11_fewestTelling 1 = .ok (.ifCond .ne 5, 3) := by decide +kernel
theorem dX11_fewestTelling_4 : decode cX11_fewestTelling 4 = .ok (.iconst 0, 1) := by decide +kernel
theorem dX11_fewestTelling_5 : decode cX11_fewestTelling 5 = .ok (.ireturn, 1) := by decide +kernel
theorem dX11_fewestTelling_6 : decode cX11_fewestTelling 6 = .ok (.iconst 0, 1) := by decide +kernel
theorem dX11_fewestTelling_7 : decode cX11_fewestTelling 7 = .ok (.istore_n 2, 1) := by decide +kernel
theorem dX11_fewestTelling_8 : decode cX11_fewestTelling 8 = .ok (.iload_n 2, 1) := by decide +kernel
theorem dX11_fewestTelling_9 : decode cX11_fewestTelling 9 = .ok (.aload_n 0, 1) := by decide +kernel
theorem dX11_fewestTelling_10 : decode cX11_fewestTelling 10 = .ok (.getfield 16, 3) := by decide +kernel
theorem dX11_fewestTelling_13 : decode cX11_fewestTelling 13 = .ok (.getfield 232, 3) := by decide +kernel
theorem dX11_fewestTelling_16 : decode cX11_fewestTelling 16 = .ok (.if_icmp .ge 23, 3) := by decide +kernel
theorem dX11_fewestTelling_19 : decode cX11_fewestTelling 19 = .ok (.aload_n 0, 1) := by decide +kernel
theorem dX11_fewestTelling_20 : decode cX11_fewestTelling 20 = .ok (.getfield 65, 3) := by decide +kernel
theorem dX11_fewestTelling_23 : decode cX11_fewestTelling 23 = .ok (.iload_n 2, 1) := by decide +kernel
theorem dX11_fewestTelling_24 : decode cX11_fewestTelling 24 = .ok (.iaload, 1) := by decide +kernel
theorem dX11_fewestTelling_25 : decode cX11_fewestTelling 25 = .ok (.iload_n 1, 1) := by decide +kernel
theorem dX11_fewestTelling_26 : decode cX11_fewestTelling 26 = .ok (.if_icmp .ne 7, 3) := by decide +kernel
theorem dX11_fewestTelling_29 : decode cX11_fewestTelling 29 = .ok (.iconst 1, 1) := by decide +kernel
theorem dX11_fewestTelling_30 : decode cX11_fewestTelling 30 = .ok (.iload_n 2, 1) := by decide +kernel
theorem dX11_fewestTelling_31 : decode cX11_fewestTelling 31 = .ok (.ishl, 1) := by decide +kernel
theorem dX11_fewestTelling_32 : decode cX11_fewestTelling 32 = .ok (.ireturn, 1) := by decide +kernel
theorem dX11_fewestTelling_33 : decode cX11_fewestTelling 33 = .ok (.iinc 2 1, 3) := by decide +kernel
theorem dX11_fewestTelling_36 : decode cX11_fewestTelling 36 = .ok (.goto (-28), 3) := by decide +kernel
theorem dX11_fewestTelling_39 : decode cX11_fewestTelling 39 = .ok (.iconst 1, 1) := by decide +kernel
theorem dX11_fewestTelling_40 : decode cX11_fewestTelling 40 = .ok (.istore_n 2, 1) := by decide +kernel
theorem dX11_fewestTelling_41 : decode cX11_fewestTelling 41 = .ok (.iload_n 2, 1) := by decide +kernel
theorem dX11_fewestTelling_42 : decode cX11_fewestTelling 42 = .ok (.aload_n 0, 1) := by decide +kernel
theorem dX11_fewestTelling_43 : decode cX11_fewestTelling 43 = .ok (.getfield 16, 3) := by decide +kernel
theorem dX11_fewestTelling_46 : decode cX11_fewestTelling 46 = .ok (.getfield 232, 3) := by decide +kernel
theorem dX11_fewestTelling_49 : decode cX11_fewestTelling 49 = .ok (.if_icmp .ge 35, 3) := by decide +kernel
theorem dX11_fewestTelling_52 : decode cX11_fewestTelling 52 = .ok (.aload_n 0, 1) := by decide +kernel
theorem dX11_fewestTelling_53 : decode cX11_fewestTelling 53 = .ok (.iload_n 2, 1) := by decide +kernel
theorem dX11_fewestTelling_54 : decode cX11_fewestTelling 54 = .ok (.aload_n 0, 1) := by decide +kernel
theorem dX11_fewestTelling_55 : decode cX11_fewestTelling 55 = .ok (.getfield 65, 3) := by decide +kernel
theorem dX11_fewestTelling_58 : decode cX11_fewestTelling 58 = .ok (.iload_n 2, 1) := by decide +kernel
theorem dX11_fewestTelling_59 : decode cX11_fewestTelling 59 = .ok (.iaload, 1) := by decide +kernel
theorem dX11_fewestTelling_60 : decode cX11_fewestTelling 60 = .ok (.iload_n 1, 1) := by decide +kernel
theorem dX11_fewestTelling_61 : decode cX11_fewestTelling 61 = .ok (.invokevirtual 315, 3) := by decide +kernel
theorem dX11_fewestTelling_64 : decode cX11_fewestTelling 64 = .ok (.istore_n 3, 1) := by decide +kernel
theorem dX11_fewestTelling_65 : decode cX11_fewestTelling 65 = .ok (.iload_n 3, 1) := by decide +kernel
theorem dX11_fewestTelling_66 : decode cX11_fewestTelling 66 = .ok (.iconst (-1), 1) := by decide +kernel
theorem dX11_fewestTelling_67 : decode cX11_fewestTelling 67 = .ok (.if_icmp .eq 11, 3) := by decide +kernel
theorem dX11_fewestTelling_70 : decode cX11_fewestTelling 70 = .ok (.iconst 1, 1) := by decide +kernel
theorem dX11_fewestTelling_71 : decode cX11_fewestTelling 71 = .ok (.iload_n 2, 1) := by decide +kernel
theorem dX11_fewestTelling_72 : decode cX11_fewestTelling 72 = .ok (.ishl, 1) := by decide +kernel
theorem dX11_fewestTelling_73 : decode cX11_fewestTelling 73 = .ok (.iconst 1, 1) := by decide +kernel
theorem dX11_fewestTelling_74 : decode cX11_fewestTelling 74 = .ok (.iload_n 3, 1) := by decide +kernel
theorem dX11_fewestTelling_75 : decode cX11_fewestTelling 75 = .ok (.ishl, 1) := by decide +kernel
theorem dX11_fewestTelling_76 : decode cX11_fewestTelling 76 = .ok (.ior, 1) := by decide +kernel
theorem dX11_fewestTelling_77 : decode cX11_fewestTelling 77 = .ok (.ireturn, 1) := by decide +kernel
theorem dX11_fewestTelling_78 : decode cX11_fewestTelling 78 = .ok (.iinc 2 1, 3) := by decide +kernel
theorem dX11_fewestTelling_81 : decode cX11_fewestTelling 81 = .ok (.goto (-40), 3) := by decide +kernel
theorem dX11_fewestTelling_84 : decode cX11_fewestTelling 84 = .ok (.iconst 2, 1) := by decide +kernel
theorem dX11_fewestTelling_85 : decode cX11_fewestTelling 85 = .ok (.istore_n 2, 1) := by decide +kernel
theorem dX11_fewestTelling_86 : decode cX11_fewestTelling 86 = .ok (.iload_n 2, 1) := by decide +kernel
theorem dX11_fewestTelling_87 : decode cX11_fewestTelling 87 = .ok (.aload_n 0, 1) := by decide +kernel
theorem dX11_fewestTelling_88 : decode cX11_fewestTelling 88 = .ok (.getfield 16, 3) := by decide +kernel
theorem dX11_fewestTelling_91 : decode cX11_fewestTelling 91 = .ok (.getfield 232, 3) := by decide +kernel
theorem dX11_fewestTelling_94 : decode cX11_fewestTelling 94 = .ok (.if_icmp .ge 62, 3) := by decide +kernel
theorem dX11_fewestTelling_97 : decode cX11_fewestTelling 97 = .ok (.iconst 1, 1) := by decide +kernel
theorem dX11_fewestTelling_98 : decode cX11_fewestTelling 98 = .ok (.istore_n 3, 1) := by decide +kernel
theorem dX11_fewestTelling_99 : decode cX11_fewestTelling 99 = .ok (.iload_n 3, 1) := by decide +kernel
theorem dX11_fewestTelling_100 : decode cX11_fewestTelling 100 = .ok (.iload_n 2, 1) := by decide +kernel
theorem dX11_fewestTelling_101 : decode cX11_fewestTelling 101 = .ok (.if_icmp .ge 49, 3) := by decide +kernel
theorem dX11_fewestTelling_104 : decode cX11_fewestTelling 104 = .ok (.aload_n 0, 1) := by decide +kernel
theorem dX11_fewestTelling_105 : decode cX11_fewestTelling 105 = .ok (.iload_n 3, 1) := by decide +kernel
theorem dX11_fewestTelling_106 : decode cX11_fewestTelling 106 = .ok (.aload_n 0, 1) := by decide +kernel
theorem dX11_fewestTelling_107 : decode cX11_fewestTelling 107 = .ok (.getfield 65, 3) := by decide +kernel
theorem dX11_fewestTelling_110 : decode cX11_fewestTelling 110 = .ok (.iload_n 2, 1) := by decide +kernel
theorem dX11_fewestTelling_111 : decode cX11_fewestTelling 111 = .ok (.iaload, 1) := by decide +kernel
theorem dX11_fewestTelling_112 : decode cX11_fewestTelling 112 = .ok (.aload_n 0, 1) := by decide +kernel
theorem dX11_fewestTelling_113 : decode cX11_fewestTelling 113 = .ok (.getfield 65, 3) := by decide +kernel
theorem dX11_fewestTelling_116 : decode cX11_fewestTelling 116 = .ok (.iload_n 3, 1) := by decide +kernel
theorem dX11_fewestTelling_117 : decode cX11_fewestTelling 117 = .ok (.iaload, 1) := by decide +kernel
theorem dX11_fewestTelling_118 : decode cX11_fewestTelling 118 = .ok (.ior, 1) := by decide +kernel
theorem dX11_fewestTelling_119 : decode cX11_fewestTelling 119 = .ok (.iload_n 1, 1) := by decide +kernel
theorem dX11_fewestTelling_120 : decode cX11_fewestTelling 120 = .ok (.invokevirtual 315, 3) := by decide +kernel
theorem dX11_fewestTelling_123 : decode cX11_fewestTelling 123 = .ok (.istore 4, 2) := by decide +kernel
theorem dX11_fewestTelling_125 : decode cX11_fewestTelling 125 = .ok (.iload 4, 2) := by decide +kernel
theorem dX11_fewestTelling_127 : decode cX11_fewestTelling 127 = .ok (.iconst (-1), 1) := by decide +kernel
theorem dX11_fewestTelling_128 : decode cX11_fewestTelling 128 = .ok (.if_icmp .eq 16, 3) := by decide +kernel
theorem dX11_fewestTelling_131 : decode cX11_fewestTelling 131 = .ok (.iconst 1, 1) := by decide +kernel
theorem dX11_fewestTelling_132 : decode cX11_fewestTelling 132 = .ok (.iload_n 2, 1) := by decide +kernel
theorem dX11_fewestTelling_133 : decode cX11_fewestTelling 133 = .ok (.ishl, 1) := by decide +kernel
theorem dX11_fewestTelling_134 : decode cX11_fewestTelling 134 = .ok (.iconst 1, 1) := by decide +kernel
theorem dX11_fewestTelling_135 : decode cX11_fewestTelling 135 = .ok (.iload_n 3, 1) := by decide +kernel
theorem dX11_fewestTelling_136 : decode cX11_fewestTelling 136 = .ok (.ishl, 1) := by decide +kernel
theorem dX11_fewestTelling_137 : decode cX11_fewestTelling 137 = .ok (.ior, 1) := by decide +kernel
theorem dX11_fewestTelling_138 : decode cX11_fewestTelling 138 = .ok (.iconst 1, 1) := by decide +kernel
theorem dX11_fewestTelling_139 : decode cX11_fewestTelling 139 = .ok (.iload 4, 2) := by decide +kernel
theorem dX11_fewestTelling_141 : decode cX11_fewestTelling 141 = .ok (.ishl, 1) := by decide +kernel
theorem dX11_fewestTelling_142 : decode cX11_fewestTelling 142 = .ok (.ior, 1) := by decide +kernel
theorem dX11_fewestTelling_143 : decode cX11_fewestTelling 143 = .ok (.ireturn, 1) := by decide +kernel
theorem dX11_fewestTelling_144 : decode cX11_fewestTelling 144 = .ok (.iinc 3 1, 3) := by decide +kernel
theorem dX11_fewestTelling_147 : decode cX11_fewestTelling 147 = .ok (.goto (-48), 3) := by decide +kernel
theorem dX11_fewestTelling_150 : decode cX11_fewestTelling 150 = .ok (.iinc 2 1, 3) := by decide +kernel
theorem dX11_fewestTelling_153 : decode cX11_fewestTelling 153 = .ok (.goto (-67), 3) := by decide +kernel
theorem dX11_fewestTelling_156 : decode cX11_fewestTelling 156 = .ok (.bipush (-9), 2) := by decide +kernel
theorem dX11_fewestTelling_158 : decode cX11_fewestTelling 158 = .ok (.ireturn, 1) := by decide +kernel
theorem dX11_partnerBelow_0 : decode cX11_partnerBelow 0 = .ok (.iconst 0, 1) := by decide +kernel
theorem dX11_partnerBelow_1 : decode cX11_partnerBelow 1 = .ok (.istore 4, 2) := by decide +kernel
theorem dX11_partnerBelow_3 : decode cX11_partnerBelow 3 = .ok (.iload 4, 2) := by decide +kernel
theorem dX11_partnerBelow_5 : decode cX11_partnerBelow 5 = .ok (.iload_n 1, 1) := by decide +kernel
theorem dX11_partnerBelow_6 : decode cX11_partnerBelow 6 = .ok (.if_icmp .ge 25, 3) := by decide +kernel
theorem dX11_partnerBelow_9 : decode cX11_partnerBelow 9 = .ok (.iload_n 2, 1) := by decide +kernel
theorem dX11_partnerBelow_10 : decode cX11_partnerBelow 10 = .ok (.aload_n 0, 1) := by decide +kernel
theorem dX11_partnerBelow_11 : decode cX11_partnerBelow 11 = .ok (.getfield 65, 3) := by decide +kernel
theorem dX11_partnerBelow_14 : decode cX11_partnerBelow 14 = .ok (.iload 4, 2) := by decide +kernel
theorem dX11_partnerBelow_16 : decode cX11_partnerBelow 16 = .ok (.iaload, 1) := by decide +kernel
theorem dX11_partnerBelow_17 : decode cX11_partnerBelow 17 = .ok (.ior, 1) := by decide +kernel
theorem dX11_partnerBelow_18 : decode cX11_partnerBelow 18 = .ok (.iload_n 3, 1) := by decide +kernel
theorem dX11_partnerBelow_19 : decode cX11_partnerBelow 19 = .ok (.if_icmp .ne 6, 3) := by decide +kernel
theorem dX11_partnerBelow_22 : decode cX11_partnerBelow 22 = .ok (.iload 4, 2) := by decide +kernel
theorem dX11_partnerBelow_24 : decode cX11_partnerBelow 24 = .ok (.ireturn, 1) := by decide +kernel
theorem dX11_partnerBelow_25 : decode cX11_partnerBelow 25 = .ok (.iinc 4 1, 3) := by decide +kernel
theorem dX11_partnerBelow_28 : decode cX11_partnerBelow 28 = .ok (.goto (-25), 3) := by decide +kernel
theorem dX11_partnerBelow_31 : decode cX11_partnerBelow 31 = .ok (.iconst (-1), 1) := by decide +kernel
theorem dX11_partnerBelow_32 : decode cX11_partnerBelow 32 = .ok (.ireturn, 1) := by decide +kernel
set_option maxRecDepth 20000 in
theorem ggX11_allSeenIsSo_X11_endsAt : GoodIn wsX11_allSeenIsSo wsX11_endsAt := goodIn_r _ [9, 10, 11, 12, 13, 14, 15, 16, 17, 18, 19, 20, 21, 22, 23, 24, 25, 26, 27, 28, 29, 30, 31, 32, 33, 34, 35, 36, 37, 38, 39, 40, 41, 42, 43, 44, 45, 46, 47, 48, 49, 50, 51, 52, 53, 54, 55, 56, 57, 58, 59, 60, 61, 62, 63, 64, 65, 66, 67, 68, 69, 70, 71, 72, 73, 74, 75, 76, 77, 78, 79, 80, 81, 82, 83, 84, 85, 86, 87, 88, 89, 90, 91, 92, 93, 94] (by decide +kernel) (by decide +kernel)
set_option maxRecDepth 20000 in
theorem gX11_allSeenIsSo_X11_endsAt : GoodIn wsX11_allSeenIsSo (wsV RX11 252 RX11 yX11_endsAt wsX11_endsAt) := goodIn_app (goodIn_of _ (by decide +kernel)) ggX11_allSeenIsSo_X11_endsAt
theorem dX11_allSeenIsSo_0 : decode cX11_allSeenIsSo 0 = .ok (.iconst 0, 1) := by decide +kernel
theorem dX11_allSeenIsSo_1 : decode cX11_allSeenIsSo 1 = .ok (.istore_n 1, 1) := by decide +kernel
theorem dX11_allSeenIsSo_2 : decode cX11_allSeenIsSo 2 = .ok (.iload_n 1, 1) := by decide +kernel
theorem dX11_allSeenIsSo_3 : decode cX11_allSeenIsSo 3 = .ok (.aload_n 0, 1) := by decide +kernel
theorem dX11_allSeenIsSo_4 : decode cX11_allSeenIsSo 4 = .ok (.getfield 106, 3) := by decide +kernel
theorem dX11_allSeenIsSo_7 : decode cX11_allSeenIsSo 7 = .ok (.if_icmp .ge 36, 3) := by decide +kernel
theorem dX11_allSeenIsSo_10 : decode cX11_allSeenIsSo 10 = .ok (.aload_n 0, 1) := by decide +kernel
theorem dX11_allSeenIsSo_11 : decode cX11_allSeenIsSo 11 = .ok (.aload_n 0, 1) := by decide +kernel
theorem dX11_allSeenIsSo_12 : decode cX11_allSeenIsSo 12 = .ok (.getfield 69, 3) := by decide +kernel
theorem dX11_allSeenIsSo_15 : decode cX11_allSeenIsSo 15 = .ok (.iload_n 1, 1) := by decide +kernel
theorem dX11_allSeenIsSo_16 : decode cX11_allSeenIsSo 16 = .ok (.iaload, 1) := by decide +kernel
theorem dX11_allSeenIsSo_17 : decode cX11_allSeenIsSo 17 = .ok (.aload_n 0, 1) := by decide +kernel
theorem dX11_allSeenIsSo_18 : decode cX11_allSeenIsSo 18 = .ok (.getfield 72, 3) := by decide +kernel
theorem dX11_allSeenIsSo_21 : decode cX11_allSeenIsSo 21 = .ok (.iload_n 1, 1) := by decide +kernel
theorem dX11_allSeenIsSo_22 : decode cX11_allSeenIsSo 22 = .ok (.iaload, 1) := by decide +kernel
theorem dX11_allSeenIsSo_23 : decode cX11_allSeenIsSo 23 = .ok (.aload_n 0, 1) := by decide +kernel
theorem dX11_allSeenIsSo_24 : decode cX11_allSeenIsSo 24 = .ok (.getfield 75, 3) := by decide +kernel
theorem dX11_allSeenIsSo_27 : decode cX11_allSeenIsSo 27 = .ok (.iload_n 1, 1) := by decide +kernel
theorem dX11_allSeenIsSo_28 : decode cX11_allSeenIsSo 28 = .ok (.iaload, 1) := by decide +kernel
theorem dX11_allSeenIsSo_29 : decode cX11_allSeenIsSo 29 = .ok (.invokevirtual 252, 3) := by decide +kernel
theorem dX11_allSeenIsSo_32 : decode cX11_allSeenIsSo 32 = .ok (.ifCond .ne 5, 3) := by decide +kernel
theorem dX11_allSeenIsSo_35 : decode cX11_allSeenIsSo 35 = .ok (.iconst 0, 1) := by decide +kernel
theorem dX11_allSeenIsSo_36 : decode cX11_allSeenIsSo 36 = .ok (.ireturn, 1) := by decide +kernel
theorem dX11_allSeenIsSo_37 : decode cX11_allSeenIsSo 37 = .ok (.iinc 1 1, 3) := by decide +kernel
theorem dX11_allSeenIsSo_40 : decode cX11_allSeenIsSo 40 = .ok (.goto (-38), 3) := by decide +kernel
theorem dX11_allSeenIsSo_43 : decode cX11_allSeenIsSo 43 = .ok (.iconst 1, 1) := by decide +kernel
theorem dX11_allSeenIsSo_44 : decode cX11_allSeenIsSo 44 = .ok (.ireturn, 1) := by decide +kernel
set_option maxRecDepth 20000 in
theorem ggX11_isSoWithCobble_X11_isHeight : GoodIn wsX11_isSoWithCobble wsX11_isHeight := goodIn_r _ [6] (by decide +kernel) (by decide +kernel)
set_option maxRecDepth 20000 in
theorem gX11_isSoWithCobble_X11_isHeight : GoodIn wsX11_isSoWithCobble (va_wsS RX11 184 yX11_isHeight wsX11_isHeight) := goodIn_app (goodIn_of _ (by decide +kernel)) ggX11_isSoWithCobble_X11_isHeight
set_option maxRecDepth 20000 in
theorem ggX11_isSoWithCobble_X11_allSeenIsSo : GoodIn wsX11_isSoWithCobble wsX11_allSeenIsSo := goodIn_r _ [10, 11, 12, 13, 14, 15, 16, 17, 5, 18, 19, 20, 1, 21, 22, 23, 24, 25, 26, 27, 28, 29, 30, 31, 32, 33, 34, 35, 36, 37, 38, 39, 40, 41, 42, 43, 44, 45, 46, 47, 48, 49, 50, 51, 52, 53, 54, 55, 56, 57, 58, 59, 60, 61, 62, 63, 64, 65, 66, 67, 68, 69, 70, 71, 72, 73, 86, 87, 88, 89, 90, 91, 92, 93, 94, 95, 96, 97, 98, 99, 100, 101, 102, 74, 75, 76, 77, 78, 79, 80, 81, 82, 83, 84, 85] (by decide +kernel) (by decide +kernel)
set_option maxRecDepth 20000 in
theorem gX11_isSoWithCobble_X11_allSeenIsSo : GoodIn wsX11_isSoWithCobble (wsV RX11 200 RX11 yX11_allSeenIsSo wsX11_allSeenIsSo) := goodIn_app (goodIn_of _ (by decide +kernel)) ggX11_isSoWithCobble_X11_allSeenIsSo
theorem dX11_isSoWithCobble_0 : decode cX11_isSoWithCobble 0 = .ok (.aload_n 0, 1) := by decide +kernel
theorem dX11_isSoWithCobble_1 : decode cX11_isSoWithCobble 1 = .ok (.getfield 33, 3) := by decide +kernel
theorem dX11_isSoWithCobble_4 : decode cX11_isSoWithCobble 4 = .ok (.getfield 113, 3) := by decide +kernel
theorem dX11_isSoWithCobble_7 : decode cX11_isSoWithCobble 7 = .ok (.iload_n 1, 1) := by decide +kernel
theorem dX11_isSoWithCobble_8 : decode cX11_isSoWithCobble 8 = .ok (.iaload, 1) := by decide +kernel
theorem dX11_isSoWithCobble_9 : decode cX11_isSoWithCobble 9 = .ok (.iload_n 2, 1) := by decide +kernel
theorem dX11_isSoWithCobble_10 : decode cX11_isSoWithCobble 10 = .ok (.iadd, 1) := by decide +kernel
theorem dX11_isSoWithCobble_11 : decode cX11_isSoWithCobble 11 = .ok (.invokestatic 184, 3) := by decide +kernel
theorem dX11_isSoWithCobble_14 : decode cX11_isSoWithCobble 14 = .ok (.ifCond .ne 5, 3) := by decide +kernel
theorem dX11_isSoWithCobble_17 : decode cX11_isSoWithCobble 17 = .ok (.iconst 0, 1) := by decide +kernel
theorem dX11_isSoWithCobble_18 : decode cX11_isSoWithCobble 18 = .ok (.ireturn, 1) := by decide +kernel
theorem dX11_isSoWithCobble_19 : decode cX11_isSoWithCobble 19 = .ok (.aload_n 0, 1) := by decide +kernel
theorem dX11_isSoWithCobble_20 : decode cX11_isSoWithCobble 20 = .ok (.getfield 33, 3) := by decide +kernel
theorem dX11_isSoWithCobble_23 : decode cX11_isSoWithCobble 23 = .ok (.getfield 113, 3) := by decide +kernel
theorem dX11_isSoWithCobble_26 : decode cX11_isSoWithCobble 26 = .ok (.iload_n 1, 1) := by decide +kernel
theorem dX11_isSoWithCobble_27 : decode cX11_isSoWithCobble 27 = .ok (.dup2, 1) := by decide +kernel
theorem dX11_isSoWithCobble_28 : decode cX11_isSoWithCobble 28 = .ok (.iaload, 1) := by decide +kernel
theorem dX11_isSoWithCobble_29 : decode cX11_isSoWithCobble 29 = .ok (.iload_n 2, 1) := by decide +kernel
theorem dX11_isSoWithCobble_30 : decode cX11_isSoWithCobble 30 = .ok (.iadd, 1) := by decide +kernel
theorem dX11_isSoWithCobble_31 : decode cX11_isSoWithCobble 31 = .ok (.iastore, 1) := by decide +kernel
theorem dX11_isSoWithCobble_32 : decode cX11_isSoWithCobble 32 = .ok (.aload_n 0, 1) := by decide +kernel
theorem dX11_isSoWithCobble_33 : decode cX11_isSoWithCobble 33 = .ok (.invokevirtual 200, 3) := by decide +kernel
theorem dX11_isSoWithCobble_36 : decode cX11_isSoWithCobble 36 = .ok (.istore_n 3, 1) := by decide +kernel
theorem dX11_isSoWithCobble_37 : decode cX11_isSoWithCobble 37 = .ok (.aload_n 0, 1) := by decide +kernel
theorem dX11_isSoWithCobble_38 : decode cX11_isSoWithCobble 38 = .ok (.getfield 33, 3) := by decide +kernel
theorem dX11_isSoWithCobble_41 : decode cX11_isSoWithCobble 41 = .ok (.getfield 113, 3) := by decide +kernel
theorem dX11_isSoWithCobble_44 : decode cX11_isSoWithCobble 44 = .ok (.iload_n 1, 1) := by decide +kernel
theorem dX11_isSoWithCobble_45 : decode cX11_isSoWithCobble 45 = .ok (.dup2, 1) := by decide +kernel
theorem dX11_isSoWithCobble_46 : decode cX11_isSoWithCobble 46 = .ok (.iaload, 1) := by decide +kernel
theorem dX11_isSoWithCobble_47 : decode cX11_isSoWithCobble 47 = .ok (.iload_n 2, 1) := by decide +kernel
theorem dX11_isSoWithCobble_48 : decode cX11_isSoWithCobble 48 = .ok (.isub, 1) := by decide +kernel
theorem dX11_isSoWithCobble_49 : decode cX11_isSoWithCobble 49 = .ok (.iastore, 1) := by decide +kernel
theorem dX11_isSoWithCobble_50 : decode cX11_isSoWithCobble 50 = .ok (.iload_n 3, 1) := by decide +kernel
theorem dX11_isSoWithCobble_51 : decode cX11_isSoWithCobble 51 = .ok (.ireturn, 1) := by decide +kernel
theorem dX12_init_0 : decode cX12_init 0 = .ok (.aload_n 0, 1) := by decide +kernel
theorem dX12_init_1 : decode cX12_init 1 = .ok (.invokespecial 1, 3) := by decide +kernel
theorem dX12_init_4 : decode cX12_init 4 = .ok (.aload_n 0, 1) := by decide +kernel
theorem dX12_init_5 : decode cX12_init 5 = .ok (.sipush 5019, 3) := by decide +kernel
theorem dX12_init_8 : decode cX12_init 8 = .ok (.newarray .int, 2) := by decide +kernel
theorem dX12_init_10 : decode cX12_init 10 = .ok (.putfield 7, 3) := by decide +kernel
theorem dX12_init_13 : decode cX12_init 13 = .ok (.aload_n 0, 1) := by decide +kernel
theorem dX12_init_14 : decode cX12_init 14 = .ok (.iconst 2, 1) := by decide +kernel
theorem dX12_init_15 : decode cX12_init 15 = .ok (.newarray .boolean, 2) := by decide +kernel
theorem dX12_init_17 : decode cX12_init 17 = .ok (.putfield 13, 3) := by decide +kernel
theorem dX12_init_20 : decode cX12_init 20 = .ok (.aload_n 0, 1) := by decide +kernel
theorem dX12_init_21 : decode cX12_init 21 = .ok (.sipush 200, 3) := by decide +kernel
theorem dX12_init_24 : decode cX12_init 24 = .ok (.newarray .int, 2) := by decide +kernel
theorem dX12_init_26 : decode cX12_init 26 = .ok (.putfield 17, 3) := by decide +kernel
theorem dX12_init_29 : decode cX12_init 29 = .ok (.aload_n 0, 1) := by decide +kernel
theorem dX12_init_30 : decode cX12_init 30 = .ok (.bipush 30, 2) := by decide +kernel
theorem dX12_init_32 : decode cX12_init 32 = .ok (.newarray .int, 2) := by decide +kernel
theorem dX12_init_34 : decode cX12_init 34 = .ok (.putfield 20, 3) := by decide +kernel
theorem dX12_init_37 : decode cX12_init 37 = .ok (.aload_n 0, 1) := by decide +kernel
theorem dX12_init_38 : decode cX12_init 38 = .ok (.bipush 30, 2) := by decide +kernel
theorem dX12_init_40 : decode cX12_init 40 = .ok (.newarray .int, 2) := by decide +kernel
theorem dX12_init_42 : decode cX12_init 42 = .ok (.putfield 23, 3) := by decide +kernel
theorem dX12_init_45 : decode cX12_init 45 = .ok (.aload_n 0, 1) := by decide +kernel
theorem dX12_init_46 : decode cX12_init 46 = .ok (.iconst 2, 1) := by decide +kernel
theorem dX12_init_47 : decode cX12_init 47 = .ok (.newarray .int, 2) := by decide +kernel
theorem dX12_init_49 : decode cX12_init 49 = .ok (.putfield 26, 3) := by decide +kernel
theorem dX12_init_52 : decode cX12_init 52 = .ok (.aload_n 0, 1) := by decide +kernel
theorem dX12_init_53 : decode cX12_init 53 = .ok (.iconst 5, 1) := by decide +kernel
theorem dX12_init_54 : decode cX12_init 54 = .ok (.newarray .int, 2) := by decide +kernel
theorem dX12_init_56 : decode cX12_init 56 = .ok (.putfield 29, 3) := by decide +kernel
theorem dX12_init_59 : decode cX12_init 59 = .ok (.aload_n 0, 1) := by decide +kernel
theorem dX12_init_60 : decode cX12_init 60 = .ok (.iconst 5, 1) := by decide +kernel
theorem dX12_init_61 : decode cX12_init 61 = .ok (.newarray .int, 2) := by decide +kernel
theorem dX12_init_63 : decode cX12_init 63 = .ok (.putfield 32, 3) := by decide +kernel
theorem dX12_init_66 : decode cX12_init 66 = .ok (.aload_n 0, 1) := by decide +kernel
theorem dX12_init_67 : decode cX12_init 67 = .ok (.iconst 5, 1) := by decide +kernel
theorem dX12_init_68 : decode cX12_init 68 = .ok (.newarray .int, 2) := by decide +kernel
theorem dX12_init_70 : decode cX12_init 70 = .ok (.putfield 35, 3) := by decide +kernel
theorem dX12_init_73 : decode cX12_init 73 = .ok (.aload_n 0, 1) := by decide +kernel
theorem dX12_init_74 : decode cX12_init 74 = .ok (.bipush 18, 2) := by decide +kernel
theorem dX12_init_76 : decode cX12_init 76 = .ok (.newarray .int, 2) := by decide +kernel
theorem dX12_init_78 : decode cX12_init 78 = .ok (.putfield 38, 3) := by decide +kernel
theorem dX12_init_81 : decode cX12_init 81 = .ok (.aload_n 0, 1) := by decide +kernel
theorem dX12_init_82 : decode cX12_init 82 = .ok (.bipush 30, 2) := by decide +kernel
theorem dX12_init_84 : decode cX12_init 84 = .ok (.newarray .int, 2) := by decide +kernel
theorem dX12_init_86 : decode cX12_init 86 = .ok (.putfield 41, 3) := by decide +kernel
theorem dX12_init_89 : decode cX12_init 89 = .ok (.aload_n 0, 1) := by decide +kernel
theorem dX12_init_90 : decode cX12_init 90 = .ok (.iconst 2, 1) := by decide +kernel
theorem dX12_init_91 : decode cX12_init 91 = .ok (.newarray .int, 2) := by decide +kernel
theorem dX12_init_93 : decode cX12_init 93 = .ok (.putfield 44, 3) := by decide +kernel
theorem dX12_init_96 : decode cX12_init 96 = .ok (.aload_n 0, 1) := by decide +kernel
theorem dX12_init_97 : decode cX12_init 97 = .ok (.bipush 30, 2) := by decide +kernel
theorem dX12_init_99 : decode cX12_init 99 = .ok (.newarray .int, 2) := by decide +kernel
theorem dX12_init_101 : decode cX12_init 101 = .ok (.putfield 47, 3) := by decide +kernel
theorem dX12_init_104 : decode cX12_init 104 = .ok (.aload_n 0, 1) := by decide +kernel
theorem dX12_init_105 : decode cX12_init 105 = .ok (.bipush 15, 2) := by decide +kernel
theorem dX12_init_107 : decode cX12_init 107 = .ok (.newarray .int, 2) := by decide +kernel
theorem dX12_init_109 : decode cX12_init 109 = .ok (.putfield 50, 3) := by decide +kernel
theorem dX12_init_112 : decode cX12_init 112 = .ok (.aload_n 0, 1) := by decide +kernel
theorem dX12_init_113 : decode cX12_init 113 = .ok (.iconst 3, 1) := by decide +kernel
theorem dX12_init_114 : decode cX12_init 114 = .ok (.newarray .int, 2) := by decide +kernel
theorem dX12_init_116 : decode cX12_init 116 = .ok (.putfield 53, 3) := by decide +kernel
theorem dX12_init_119 : decode cX12_init 119 = .ok (.aload_n 0, 1) := by decide +kernel
theorem dX12_init_120 : decode cX12_init 120 = .ok (.bipush (-9), 2) := by decide +kernel
theorem dX12_init_122 : decode cX12_init 122 = .ok (.putfield 56, 3) := by decide +kernel
theorem dX12_init_125 : decode cX12_init 125 = .ok (.aload_n 0, 1) := by decide +kernel
theorem dX12_init_126 : decode cX12_init 126 = .ok (.bipush (-9), 2) := by decide +kernel
theorem dX12_init_128 : decode cX12_init 128 = .ok (.putfield 60, 3) := by decide +kernel
theorem dX12_init_131 : decode cX12_init 131 = .ok (.aload_n 0, 1) := by decide +kernel
theorem dX12_init_132 : decode cX12_init 132 = .ok (.bipush 10, 2) := by decide +kernel
theorem dX12_init_134 : decode cX12_init 134 = .ok (.newarray .int, 2) := by decide +kernel
theorem dX12_init_136 : decode cX12_init 136 = .ok (.putfield 63, 3) := by decide +kernel
theorem dX12_init_139 : decode cX12_init 139 = .ok (.return_, 1) := by decide +kernel
theorem dX12_in_0 : decode cX12_in 0 = .ok (.lload_n 0, 1) := by decide +kernel
theorem dX12_in_1 : decode cX12_in 1 = .ok (.lload_n 2, 1) := by decide +kernel
theorem dX12_in_2 : decode cX12_in 2 = .ok (.lcmp, 1) := by decide +kernel
theorem dX12_in_3 : decode cX12_in 3 = .ok (.ifCond .lt 14, 3) := by decide +kernel
theorem dX12_in_6 : decode cX12_in 6 = .ok (.lload_n 0, 1) := by decide +kernel
theorem dX12_in_7 : decode cX12_in 7 = .ok (.lload 4, 2) := by decide +kernel
theorem dX12_in_9 : decode cX12_in 9 = .ok (.lcmp, 1) := by decide +kernel
theorem dX12_in_10 : decode cX12_in 10 = .ok (.ifCond .gt 7, 3) := by decide +kernel
theorem dX12_in_13 : decode cX12_in 13 = .ok (.iconst 1, 1) := by decide +kernel
theorem dX12_in_14 : decode cX12_in 14 = .ok (.goto 4, 3) := by decide +kernel
theorem dX12_in_17 : decode cX12_in 17 = .ok (.iconst 0, 1) := by decide +kernel
theorem dX12_in_18 : decode cX12_in 18 = .ok (.ireturn, 1) := by decide +kernel
theorem dX12_has_0 : decode cX12_has 0 = .ok (.iload_n 0, 1) := by decide +kernel
theorem dX12_has_1 : decode cX12_has 1 = .ok (.iload_n 1, 1) := by decide +kernel
theorem dX12_has_2 : decode cX12_has 2 = .ok (.ishr, 1) := by decide +kernel
theorem dX12_has_3 : decode cX12_has 3 = .ok (.iconst 1, 1) := by decide +kernel
theorem dX12_has_4 : decode cX12_has 4 = .ok (.iand, 1) := by decide +kernel
theorem dX12_has_5 : decode cX12_has 5 = .ok (.iconst 1, 1) := by decide +kernel
theorem dX12_has_6 : decode cX12_has 6 = .ok (.if_icmp .ne 7, 3) := by decide +kernel
theorem dX12_has_9 : decode cX12_has 9 = .ok (.iconst 1, 1) := by decide +kernel
theorem dX12_has_10 : decode cX12_has 10 = .ok (.goto 4, 3) := by decide +kernel
theorem dX12_has_13 : decode cX12_has 13 = .ok (.iconst 0, 1) := by decide +kernel
theorem dX12_has_14 : decode cX12_has 14 = .ok (.ireturn, 1) := by decide +kernel
theorem dX12_bits_0 : decode cX12_bits 0 = .ok (.iconst 0, 1) := by decide +kernel
theorem dX12_bits_1 : decode cX12_bits 1 = .ok (.istore_n 1, 1) := by decide +kernel
theorem dX12_bits_2 : decode cX12_bits 2 = .ok (.iconst 0, 1) := by decide +kernel
theorem dX12_bits_3 : decode cX12_bits 3 = .ok (.istore_n 2, 1) := by decide +kernel
theorem dX12_bits_4 : decode cX12_bits 4 = .ok (.iload_n 2, 1) := by decide +kernel
theorem dX12_bits_5 : decode cX12_bits 5 = .ok (.bipush 30, 2) := by decide +kernel
theorem dX12_bits_7 : decode cX12_bits 7 = .ok (.if_icmp .ge 17, 3) := by decide +kernel
theorem dX12_bits_10 : decode cX12_bits 10 = .ok (.iload_n 1, 1) := by decide +kernel
theorem dX12_bits_11 : decode cX12_bits 11 = .ok (.iload_n 0, 1) := by decide +kernel
theorem dX12_bits_12 : decode cX12_bits 12 = .ok (.iload_n 2, 1) := by decide +kernel
theorem dX12_bits_13 : decode cX12_bits 13 = .ok (.ishr, 1) := by decide +kernel
theorem dX12_bits_14 : decode cX12_bits 14 = .ok (.iconst 1, 1) := by decide +kernel
theorem dX12_bits_15 : decode cX12_bits 15 = .ok (.iand, 1) := by decide +kernel
theorem dX12_bits_16 : decode cX12_bits 16 = .ok (.iadd, 1) := by decide +kernel
theorem dX12_bits_17 : decode cX12_bits 17 = .ok (.istore_n 1, 1) := by decide +kernel
theorem dX12_bits_18 : decode cX12_bits 18 = .ok (.iinc 2 1, 3) := by decide +kernel
theorem dX12_bits_21 : decode cX12_bits 21 = .ok (.goto (-17), 3) := by decide +kernel
theorem dX12_bits_24 : decode cX12_bits 24 = .ok (.iload_n 1, 1) := by decide +kernel
theorem dX12_bits_25 : decode cX12_bits 25 = .ok (.ireturn, 1) := by decide +kernel
set_option maxRecDepth 20000 in
theorem ggX12_type_X12_in : GoodIn wsX12_type wsX12_in := goodIn_r _ [7] (by decide +kernel) (by decide +kernel)
set_option maxRecDepth 20000 in
theorem gX12_type_X12_in : GoodIn wsX12_type (va_wsS RX12 68 yX12_in wsX12_in) := goodIn_app (goodIn_of _ (by decide +kernel)) ggX12_type_X12_in
theorem dX12_type_0 : decode cX12_type 0 = .ok (.iload_n 1, 1) := by decide +kernel
theorem dX12_type_1 : decode cX12_type 1 = .ok (.i2l, 1) := by decide +kernel
theorem dX12_type_2 : decode cX12_type 2 = .ok (.lconst 0, 1) := by decide +kernel
theorem dX12_type_3 : decode cX12_type 3 = .ok (.ldc2_w 66, 3) := by decide +kernel
theorem dX12_type_6 : decode cX12_type 6 = .ok (.invokestatic 68, 3) := by decide +kernel
theorem dX12_type_9 : decode cX12_type 9 = .ok (.ifCond .ne 5, 3) := by decide +kernel
theorem dX12_type_12 : decode cX12_type 12 = .ok (.iconst (-1), 1) := by decide +kernel
theorem dX12_type_13 : decode cX12_type 13 = .ok (.ireturn, 1) := by decide +kernel
theorem dX12_type_14 : decode cX12_type 14 = .ok (.aload_n 0, 1) := by decide +kernel
theorem dX12_type_15 : decode cX12_type 15 = .ok (.getfield 72, 3) := by decide +kernel
theorem dX12_type_18 : decode cX12_type 18 = .ok (.sipush 200, 3) := by decide +kernel
theorem dX12_type_21 : decode cX12_type 21 = .ok (.if_icmp .ne 6, 3) := by decide +kernel
theorem dX12_type_24 : decode cX12_type 24 = .ok (.bipush (-3), 2) := by decide +kernel
theorem dX12_type_26 : decode cX12_type 26 = .ok (.ireturn, 1) := by decide +kernel
theorem dX12_type_27 : decode cX12_type 27 = .ok (.aload_n 0, 1) := by decide +kernel
theorem dX12_type_28 : decode cX12_type 28 = .ok (.getfield 17, 3) := by decide +kernel
theorem dX12_type_31 : decode cX12_type 31 = .ok (.aload_n 0, 1) := by decide +kernel
theorem dX12_type_32 : decode cX12_type 32 = .ok (.getfield 72, 3) := by decide +kernel
theorem dX12_type_35 : decode cX12_type 35 = .ok (.iload_n 1, 1) := by decide +kernel
theorem dX12_type_36 : decode cX12_type 36 = .ok (.iastore, 1) := by decide +kernel
theorem dX12_type_37 : decode cX12_type 37 = .ok (.aload_n 0, 1) := by decide +kernel
theorem dX12_type_38 : decode cX12_type 38 = .ok (.dup, 1) := by decide +kernel
theorem dX12_type_39 : decode cX12_type 39 = .ok (.getfield 72, 3) := by decide +kernel
theorem dX12_type_42 : decode cX12_type 42 = .ok (.iconst 1, 1) := by decide +kernel
theorem dX12_type_43 : decode cX12_type 43 = .ok (.iadd, 1) := by decide +kernel
theorem dX12_type_44 : decode cX12_type 44 = .ok (.putfield 72, 3) := by decide +kernel
theorem dX12_type_47 : decode cX12_type 47 = .ok (.aload_n 0, 1) := by decide +kernel
theorem dX12_type_48 : decode cX12_type 48 = .ok (.getfield 72, 3) := by decide +kernel
theorem dX12_type_51 : decode cX12_type 51 = .ok (.ireturn, 1) := by decide +kernel
theorem dX12_clear_0 : decode cX12_clear 0 = .ok (.aload_n 0, 1) := by decide +kernel
theorem dX12_clear_1 : decode cX12_clear 1 = .ok (.getfield 72, 3) := by decide +kernel
theorem dX12_clear_4 : decode cX12_clear 4 = .ok (.istore_n 1, 1) := by decide +kernel
theorem dX12_clear_5 : decode cX12_clear 5 = .ok (.aload_n 0, 1) := by decide +kernel
theorem dX12_clear_6 : decode cX12_clear 6 = .ok (.iconst 0, 1) := by decide +kernel
theorem dX12_clear_7 : decode cX12_clear 7 = .ok (.putfield 72, 3) := by decide +kernel
theorem dX12_clear_10 : decode cX12_clear 10 = .ok (.iload_n 1, 1) := by decide +kernel
theorem dX12_clear_11 : decode cX12_clear 11 = .ok (.ireturn, 1) := by decide +kernel
theorem dX12_sort_0 : decode cX12_sort 0 = .ok (.iload_n 0, 1) := by decide +kernel
theorem dX12_sort_1 : decode cX12_sort 1 = .ok (.bipush 97, 2) := by decide +kernel
theorem dX12_sort_3 : decode cX12_sort 3 = .ok (.if_icmp .lt 13, 3) := by decide +kernel
theorem dX12_sort_6 : decode cX12_sort 6 = .ok (.iload_n 0, 1) := by decide +kernel
theorem dX12_sort_7 : decode cX12_sort 7 = .ok (.bipush 122, 2) := by decide +kernel
theorem dX12_sort_9 : decode cX12_sort 9 = .ok (.if_icmp .gt 7, 3) := by decide +kernel
theorem dX12_sort_12 : decode cX12_sort 12 = .ok (.iconst 1, 1) := by decide +kernel
theorem dX12_sort_13 : decode cX12_sort 13 = .ok (.goto 20, 3) := by decide +kernel
theorem dX12_sort_16 : decode cX12_sort 16 = .ok (.iload_n 0, 1) := by decide +kernel
theorem dX12_sort_17 : decode cX12_sort 17 = .ok (.bipush 48, 2) := by decide +kernel
theorem dX12_sort_19 : decode cX12_sort 19 = .ok (.if_icmp .lt 13, 3) := by decide +kernel
theorem dX12_sort_22 : decode cX12_sort 22 = .ok (.iload_n 0, 1) := by decide +kernel
theorem dX12_sort_23 : decode cX12_sort 23 = .ok (.bipush 57, 2) := by decide +kernel
theorem dX12_sort_25 : decode cX12_sort 25 = .ok (.if_icmp .gt 7, 3) := by decide +kernel
theorem dX12_sort_28 : decode cX12_sort 28 = .ok (.iconst 2, 1) := by decide +kernel
theorem dX12_sort_29 : decode cX12_sort 29 = .ok (.goto 4, 3) := by decide +kernel
theorem dX12_sort_32 : decode cX12_sort 32 = .ok (.iconst 0, 1) := by decide +kernel
theorem dX12_sort_33 : decode cX12_sort 33 = .ok (.ireturn, 1) := by decide +kernel
theorem dX12_skip_0 : decode cX12_skip 0 = .ok (.aload_n 0, 1) := by decide +kernel
theorem dX12_skip_1 : decode cX12_skip 1 = .ok (.getfield 75, 3) := by decide +kernel
theorem dX12_skip_4 : decode cX12_skip 4 = .ok (.aload_n 0, 1) := by decide +kernel
theorem dX12_skip_5 : decode cX12_skip 5 = .ok (.getfield 72, 3) := by decide +kernel
theorem dX12_skip_8 : decode cX12_skip 8 = .ok (.if_icmp .ge 30, 3) := by decide +kernel
theorem dX12_skip_11 : decode cX12_skip 11 = .ok (.aload_n 0, 1) := by decide +kernel
theorem dX12_skip_12 : decode cX12_skip 12 = .ok (.getfield 17, 3) := by decide +kernel
theorem dX12_skip_15 : decode cX12_skip 15 = .ok (.aload_n 0, 1) := by decide +kernel
theorem dX12_skip_16 : decode cX12_skip 16 = .ok (.getfield 75, 3) := by decide +kernel
theorem dX12_skip_19 : decode cX12_skip 19 = .ok (.iaload, 1) := by decide +kernel
theorem dX12_skip_20 : decode cX12_skip 20 = .ok (.bipush 32, 2) := by decide +kernel
theorem dX12_skip_22 : decode cX12_skip 22 = .ok (.if_icmp .ne 16, 3) := by decide +kernel
theorem dX12_skip_25 : decode cX12_skip 25 = .ok (.aload_n 0, 1) := by decide +kernel
theorem dX12_skip_26 : decode cX12_skip 26 = .ok (.dup, 1) := by decide +kernel
theorem dX12_skip_27 : decode cX12_skip 27 = .ok (.getfield 75, 3) := by decide +kernel
theorem dX12_skip_30 : decode cX12_skip 30 = .ok (.iconst 1, 1) := by decide +kernel
theorem dX12_skip_31 : decode cX12_skip 31 = .ok (.iadd, 1) := by decide +kernel
theorem dX12_skip_32 : decode cX12_skip 32 = .ok (.putfield 75, 3) := by decide +kernel
theorem dX12_skip_35 : decode cX12_skip 35 = .ok (.goto (-35), 3) := by decide +kernel
theorem dX12_skip_38 : decode cX12_skip 38 = .ok (.return_, 1) := by decide +kernel
set_option maxRecDepth 20000 in
theorem ggX12_token_X12_skip : GoodIn wsX12_token wsX12_skip := goodIn_r _ [10, 1, 3, 4, 14, 15, 16, 17, 18, 19, 20, 21, 22, 23, 24, 25, 26, 27, 28, 29, 30, 31, 32, 33, 34, 35, 36, 37, 38, 39, 40, 41, 42, 43, 44, 45, 46, 47, 48, 49] (by decide +kernel) (by decide +kernel)
set_option maxRecDepth 20000 in
theorem gX12_token_X12_skip : GoodIn wsX12_token (wsV RX12 78 RX12 yX12_skip wsX12_skip) := goodIn_app (goodIn_of _ (by decide +kernel)) ggX12_token_X12_skip
set_option maxRecDepth 20000 in
theorem ggX12_token_X12_sort : GoodIn wsX12_token wsX12_sort := goodIn_r _ [13] (by decide +kernel) (by decide +kernel)
set_option maxRecDepth 20000 in
theorem gX12_token_X12_sort : GoodIn wsX12_token (va_wsS RX12 84 yX12_sort wsX12_sort) := goodIn_app (goodIn_of _ (by decide +kernel)) ggX12_token_X12_sort
theorem dX12_token_0 : decode cX12_token 0 = .ok (.aload_n 0, 1) := by decide +kernel
theorem dX12_token_1 : decode cX12_token 1 = .ok (.invokevirtual 78, 3) := by decide +kernel
theorem dX12_token_4 : decode cX12_token 4 = .ok (.aload_n 0, 1) := by decide +kernel
theorem dX12_token_5 : decode cX12_token 5 = .ok (.aload_n 0, 1) := by decide +kernel
theorem dX12_token_6 : decode cX12_token 6 = .ok (.getfield 75, 3) := by decide +kernel
theorem dX12_token_9 : decode cX12_token 9 = .ok (.putfield 81, 3) := by decide +kernel
theorem dX12_token_12 : decode cX12_token 12 = .ok (.aload_n 0, 1) := by decide +kernel
theorem dX12_token_13 : decode cX12_token 13 = .ok (.dup, 1) := by decide +kernel
theorem dX12_token_14 : decode cX12_token 14 = .ok (.getfield 75, 3) := by decide +kernel
theorem dX12_token_17 : decode cX12_token 17 = .ok (.aload_n 0, 1) := by decide +kernel
theorem dX12_token_18 : decode cX12_token 18 = .ok (.getfield 75, 3) := by decide +kernel
theorem dX12_token_21 : decode cX12_token 21 = .ok (.aload_n 0, 1) := by decide +kernel
theorem dX12_token_22 : decode cX12_token 22 = .ok (.getfield 72, 3) := by decide +kernel
theorem dX12_token_25 : decode cX12_token 25 = .ok (.if_icmp .ge 7, 3) := by decide +kernel
theorem dX12_token_28 : decode cX12_token 28 = .ok (.iconst 1, 1) := by decide +kernel
theorem dX12_token_29 : decode cX12_token 29 = .ok (.goto 4, 3) := by decide +kernel
theorem dX12_token_32 : decode cX12_token 32 = .ok (.iconst 0, 1) := by decide +kernel
theorem dX12_token_33 : decode cX12_token 33 = .ok (.iadd, 1) := by decide +kernel
theorem dX12_token_34 : decode cX12_token 34 = .ok (.putfield 75, 3) := by decide +kernel
theorem dX12_token_37 : decode cX12_token 37 = .ok (.aload_n 0, 1) := by decide +kernel
theorem dX12_token_38 : decode cX12_token 38 = .ok (.getfield 75, 3) := by decide +kernel
theorem dX12_token_41 : decode cX12_token 41 = .ok (.aload_n 0, 1) := by decide +kernel
theorem dX12_token_42 : decode cX12_token 42 = .ok (.getfield 72, 3) := by decide +kernel
theorem dX12_token_45 : decode cX12_token 45 = .ok (.if_icmp .ge 58, 3) := by decide +kernel
theorem dX12_token_48 : decode cX12_token 48 = .ok (.aload_n 0, 1) := by decide +kernel
theorem dX12_token_49 : decode cX12_token 49 = .ok (.getfield 17, 3) := by decide +kernel
theorem dX12_token_52 : decode cX12_token 52 = .ok (.aload_n 0, 1) := by decide +kernel
theorem dX12_token_53 : decode cX12_token 53 = .ok (.getfield 81, 3) := by decide +kernel
theorem dX12_token_56 : decode cX12_token 56 = .ok (.iaload, 1) := by decide +kernel
theorem dX12_token_57 : decode cX12_token 57 = .ok (.invokestatic 84, 3) := by decide +kernel
theorem dX12_token_60 : decode cX12_token 60 = .ok (.ifCond .le 43, 3) := by decide +kernel
theorem dX12_token_63 : decode cX12_token 63 = .ok (.aload_n 0, 1) := by decide +kernel
theorem dX12_token_64 : decode cX12_token 64 = .ok (.getfield 17, 3) := by decide +kernel
theorem dX12_token_67 : decode cX12_token 67 = .ok (.aload_n 0, 1) := by decide +kernel
theorem dX12_token_68 : decode cX12_token 68 = .ok (.getfield 75, 3) := by decide +kernel
theorem dX12_token_71 : decode cX12_token 71 = .ok (.iaload, 1) := by decide +kernel
theorem dX12_token_72 : decode cX12_token 72 = .ok (.invokestatic 84, 3) := by decide +kernel
theorem dX12_token_75 : decode cX12_token 75 = .ok (.aload_n 0, 1) := by decide +kernel
theorem dX12_token_76 : decode cX12_token 76 = .ok (.getfield 17, 3) := by decide +kernel
theorem dX12_token_79 : decode cX12_token 79 = .ok (.aload_n 0, 1) := by decide +kernel
theorem dX12_token_80 : decode cX12_token 80 = .ok (.getfield 81, 3) := by decide +kernel
theorem dX12_token_83 : decode cX12_token 83 = .ok (.iaload, 1) := by decide +kernel
theorem dX12_token_84 : decode cX12_token 84 = .ok (.invokestatic 84, 3) := by decide +kernel
theorem dX12_token_87 : decode cX12_token 87 = .ok (.if_icmp .ne 16, 3) := by decide +kernel
theorem dX12_token_90 : decode cX12_token 90 = .ok (.aload_n 0, 1) := by decide +kernel
theorem dX12_token_91 : decode cX12_token 91 = .ok (.dup, 1) := by decide +kernel
theorem dX12_token_92 : decode cX12_token 92 = .ok (.getfield 75, 3) := by decide +kernel
theorem dX12_token_95 : decode cX12_token 95 = .ok (.iconst 1, 1) := by decide +kernel
theorem dX12_token_96 : decode cX12_token 96 = .ok (.iadd, 1) := by decide +kernel
theorem dX12_token_97 : decode cX12_token 97 = .ok (.putfield 75, 3) := by decide +kernel
theorem dX12_token_100 : decode cX12_token 100 = .ok (.goto (-63), 3) := by decide +kernel
theorem dX12_token_103 : decode cX12_token 103 = .ok (.aload_n 0, 1) := by decide +kernel
theorem dX12_token_104 : decode cX12_token 104 = .ok (.aload_n 0, 1) := by decide +kernel
theorem dX12_token_105 : decode cX12_token 105 = .ok (.getfield 75, 3) := by decide +kernel
theorem dX12_token_108 : decode cX12_token 108 = .ok (.putfield 88, 3) := by decide +kernel
theorem dX12_token_111 : decode cX12_token 111 = .ok (.return_, 1) := by decide +kernel
set_option maxRecDepth 20000 in
theorem ggX12_number_X12_sort : GoodIn wsX12_number wsX12_sort := goodIn_r _ [8] (by decide +kernel) (by decide +kernel)
set_option maxRecDepth 20000 in
theorem gX12_number_X12_sort : GoodIn wsX12_number (va_wsS RX12 84 yX12_sort wsX12_sort) := goodIn_app (goodIn_of _ (by decide +kernel)) ggX12_number_X12_sort
set_option maxRecDepth 20000 in
theorem ggX12_number_X12_in : GoodIn wsX12_number wsX12_in := goodIn_r _ [11] (by decide +kernel) (by decide +kernel)
set_option maxRecDepth 20000 in
theorem gX12_number_X12_in : GoodIn wsX12_number (va_wsS RX12 68 yX12_in wsX12_in) := goodIn_app (goodIn_of _ (by decide +kernel)) ggX12_number_X12_in
theorem dX12_number_0 : decode cX12_number 0 = .ok (.aload_n 0, 1) := by decide +kernel
theorem dX12_number_1 : decode cX12_number 1 = .ok (.getfield 81, 3) := by decide +kernel
theorem dX12_number_4 : decode cX12_number 4 = .ok (.aload_n 0, 1) := by decide +kernel
theorem dX12_number_5 : decode cX12_number 5 = .ok (.getfield 72, 3) := by decide +kernel
theorem dX12_number_8 : decode cX12_number 8 = .ok (.if_icmp .eq 59, 3) := by decide +kernel
theorem dX12_number_11 : decode cX12_number 11 = .ok (.aload_n 0, 1) := by decide +kernel
theorem dX12_number_12 : decode cX12_number 12 = .ok (.getfield 17, 3) := by decide +kernel
theorem dX12_number_15 : decode cX12_number 15 = .ok (.aload_n 0, 1) := by decide +kernel
theorem dX12_number_16 : decode cX12_number 16 = .ok (.getfield 81, 3) := by decide +kernel
theorem dX12_number_19 : decode cX12_number 19 = .ok (.iaload, 1) := by decide +kernel
theorem dX12_number_20 : decode cX12_number 20 = .ok (.invokestatic 84, 3) := by decide +kernel
theorem dX12_number_23 : decode cX12_number 23 = .ok (.iconst 2, 1) := by decide +kernel
theorem dX12_number_24 : decode cX12_number 24 = .ok (.if_icmp .ne 43, 3) := by decide +kernel
theorem dX12_number_27 : decode cX12_number 27 = .ok (.aload_n 0, 1) := by decide +kernel
theorem dX12_number_28 : decode cX12_number 28 = .ok (.getfield 88, 3) := by decide +kernel
theorem dX12_number_31 : decode cX12_number 31 = .ok (.aload_n 0, 1) := by decide +kernel
theorem dX12_number_32 : decode cX12_number 32 = .ok (.getfield 81, 3) := by decide +kernel
theorem dX12_number_35 : decode cX12_number 35 = .ok (.isub, 1) := by decide +kernel
theorem dX12_number_36 : decode cX12_number 36 = .ok (.iconst 2, 1) := by decide +kernel
theorem dX12_number_37 : decode cX12_number 37 = .ok (.if_icmp .gt 30, 3) := by decide +kernel
theorem dX12_number_40 : decode cX12_number 40 = .ok (.aload_n 0, 1) := by decide +kernel
theorem dX12_number_41 : decode cX12_number 41 = .ok (.getfield 88, 3) := by decide +kernel
theorem dX12_number_44 : decode cX12_number 44 = .ok (.aload_n 0, 1) := by decide +kernel
theorem dX12_number_45 : decode cX12_number 45 = .ok (.getfield 81, 3) := by decide +kernel
theorem dX12_number_48 : decode cX12_number 48 = .ok (.isub, 1) := by decide +kernel
theorem dX12_number_49 : decode cX12_number 49 = .ok (.iconst 2, 1) := by decide +kernel
theorem dX12_number_50 : decode cX12_number 50 = .ok (.if_icmp .ne 20, 3) := by decide +kernel
theorem dX12_number_53 : decode cX12_number 53 = .ok (.aload_n 0, 1) := by decide +kernel
theorem dX12_number_54 : decode cX12_number 54 = .ok (.getfield 17, 3) := by decide +kernel
theorem dX12_number_57 : decode cX12_number 57 = .ok (.aload_n 0, 1) := by decide +kernel
theorem dX12_number_58 : decode cX12_number 58 = .ok (.getfield 81, 3) := by decide +kernel
theorem dX12_number_61 : decode cX12_number 61 = .ok (.iaload, 1) := by decide +kernel
theorem dX12_number_62 : decode cX12_number 62 = .ok (.bipush 48, 2) := by decide +kernel
theorem dX12_number_64 : decode cX12_number 64 = .ok (.if_icmp .ne 6, 3) := by decide +kernel
theorem dX12_number_67 : decode cX12_number 67 = .ok (.bipush (-9), 2) := by decide +kernel
theorem dX12_number_69 : decode cX12_number 69 = .ok (.ireturn, 1) := by decide +kernel
theorem dX12_number_70 : decode cX12_number 70 = .ok (.iconst 0, 1) := by decide +kernel
theorem dX12_number_71 : decode cX12_number 71 = .ok (.istore_n 3, 1) := by decide +kernel
theorem dX12_number_72 : decode cX12_number 72 = .ok (.aload_n 0, 1) := by decide +kernel
theorem dX12_number_73 : decode cX12_number 73 = .ok (.getfield 81, 3) := by decide +kernel
theorem dX12_number_76 : decode cX12_number 76 = .ok (.istore 4, 2) := by decide +kernel
theorem dX12_number_78 : decode cX12_number 78 = .ok (.iload 4, 2) := by decide +kernel
theorem dX12_number_80 : decode cX12_number 80 = .ok (.aload_n 0, 1) := by decide +kernel
theorem dX12_number_81 : decode cX12_number 81 = .ok (.getfield 88, 3) := by decide +kernel
theorem dX12_number_84 : decode cX12_number 84 = .ok (.if_icmp .ge 25, 3) := by decide +kernel
theorem dX12_number_87 : decode cX12_number 87 = .ok (.bipush 10, 2) := by decide +kernel
theorem dX12_number_89 : decode cX12_number 89 = .ok (.iload_n 3, 1) := by decide +kernel
theorem dX12_number_90 : decode cX12_number 90 = .ok (.imul, 1) := by decide +kernel
theorem dX12_number_91 : decode cX12_number 91 = .ok (.aload_n 0, 1) := by decide +kernel
theorem dX12_number_92 : decode cX12_number 92 = .ok (.getfield 17, 3) := by decide +kernel
theorem dX12_number_95 : decode cX12_number 95 = .ok (.iload 4, 2) := by decide +kernel
theorem dX12_number_97 : decode cX12_number 97 = .ok (.iaload, 1) := by decide +kernel
theorem dX12_number_98 : decode cX12_number 98 = .ok (.iadd, 1) := by decide +kernel
theorem dX12_number_99 : decode cX12_number 99 = .ok (.bipush 48, 2) := by decide +kernel
theorem dX12_number_101 : decode cX12_number 101 = .ok (.isub, 1) := by decide +kernel
theorem dX12_number_102 : decode cX12_number 102 = .ok (.istore_n 3, 1) := by decide +kernel
theorem dX12_number_103 : decode cX12_number 103 = .ok (.iinc 4 1, 3) := by decide +kernel
theorem dX12_number_106 : decode cX12_number 106 = .ok (.goto (-28), 3) := by decide +kernel
theorem dX12_number_109 : decode cX12_number 109 = .ok (.iload_n 3, 1) := by decide +kernel
theorem dX12_number_110 : decode cX12_number 110 = .ok (.i2l, 1) := by decide +kernel
theorem dX12_number_111 : decode cX12_number 111 = .ok (.iload_n 1, 1) := by decide +kernel
theorem dX12_number_112 : decode cX12_number 112 = .ok (.i2l, 1) := by decide +kernel
theorem dX12_number_113 : decode cX12_number 113 = .ok (.iload_n 2, 1) := by decide +kernel
theorem dX12_number_114 : decode cX12_number 114 = .ok (.i2l, 1) := by decide +kernel
theorem dX12_number_115 : decode cX12_number 115 = .ok (.invokestatic 68, 3) := by decide +kernel
theorem dX12_number_118 : decode cX12_number 118 = .ok (.ifCond .eq 7, 3) := by decide +kernel
theorem dX12_number_121 : decode cX12_number 121 = .ok (.iload_n 3, 1) := by decide +kernel
theorem dX12_number_122 : decode cX12_number 122 = .ok (.goto 5, 3) := by decide +kernel
theorem dX12_number_125 : decode cX12_number 125 = .ok (.bipush (-9), 2) := by decide +kernel
theorem dX12_number_127 : decode cX12_number 127 = .ok (.ireturn, 1) := by decide +kernel
set_option maxRecDepth 20000 in
theorem ggX12_reads_X12_number : GoodIn wsX12_reads wsX12_number := goodIn_r _ [6, 7, 8, 9, 10, 11, 12, 5, 13, 14, 15, 16, 26, 27, 28, 29, 30, 31, 32, 33, 34, 35, 36, 37, 38, 39, 40, 41, 42, 43, 44, 45, 46, 47, 48, 49, 50, 51, 52, 53, 54, 55, 56, 57, 58, 59, 60, 61] (by decide +kernel) (by decide +kernel)
set_option maxRecDepth 20000 in
theorem gX12_reads_X12_number : GoodIn wsX12_reads (wsV RX12 91 RX12 yX12_number wsX12_number) := goodIn_app (goodIn_of _ (by decide +kernel)) ggX12_reads_X12_number
set_option maxRecDepth 20000 in
theorem ggX12_reads_X12_token : GoodIn wsX12_reads wsX12_token := goodIn_r _ [20, 21, 7, 8, 9, 10, 22, 23, 24, 5, 25, 11, 12, 13, 26, 27, 28, 29, 30, 31, 32, 33, 34, 35, 36, 37, 38, 39, 40, 41, 42, 43, 44, 45, 46, 47, 48, 49, 50, 51, 52, 53, 54, 55, 56, 57, 58, 59, 60, 61] (by decide +kernel) (by decide +kernel)
set_option maxRecDepth 20000 in
theorem gX12_reads_X12_token : GoodIn wsX12_reads (wsV RX12 95 RX12 yX12_token wsX12_token) := goodIn_app (goodIn_of _ (by decide +kernel)) ggX12_reads_X12_token
theorem dX12_reads_0 : decode cX12_reads 0 = .ok (.aload_n 0, 1) := by decide +kernel
theorem dX12_reads_1 : decode cX12_reads 1 = .ok (.getfield 53, 3) := by decide +kernel
theorem dX12_reads_4 : decode cX12_reads 4 = .ok (.iload_n 1, 1) := by decide +kernel
theorem dX12_reads_5 : decode cX12_reads 5 = .ok (.aload_n 0, 1) := by decide +kernel
theorem dX12_reads_6 : decode cX12_reads 6 = .ok (.iload_n 2, 1) := by decide +kernel
theorem dX12_reads_7 : decode cX12_reads 7 = .ok (.iload_n 3, 1) := by decide +kernel
theorem dX12_reads_8 : decode cX12_reads 8 = .ok (.invokevirtual 91, 3) := by decide +kernel
theorem dX12_reads_11 : decode cX12_reads 11 = .ok (.iastore, 1) := by decide +kernel
theorem dX12_reads_12 : decode cX12_reads 12 = .ok (.aload_n 0, 1) := by decide +kernel
theorem dX12_reads_13 : decode cX12_reads 13 = .ok (.getfield 53, 3) := by decide +kernel
theorem dX12_reads_16 : decode cX12_reads 16 = .ok (.iload_n 1, 1) := by decide +kernel
theorem dX12_reads_17 : decode cX12_reads 17 = .ok (.iaload, 1) := by decide +kernel
theorem dX12_reads_18 : decode cX12_reads 18 = .ok (.bipush (-9), 2) := by decide +kernel
theorem dX12_reads_20 : decode cX12_reads 20 = .ok (.if_icmp .ne 5, 3) := by decide +kernel
theorem dX12_reads_23 : decode cX12_reads 23 = .ok (.iconst 0, 1) := by decide +kernel
theorem dX12_reads_24 : decode cX12_reads 24 = .ok (.ireturn, 1) := by decide +kernel
theorem dX12_reads_25 : decode cX12_reads 25 = .ok (.aload_n 0, 1) := by decide +kernel
theorem dX12_reads_26 : decode cX12_reads 26 = .ok (.invokevirtual 95, 3) := by decide +kernel
theorem dX12_reads_29 : decode cX12_reads 29 = .ok (.iconst 1, 1) := by decide +kernel
theorem dX12_reads_30 : decode cX12_reads 30 = .ok (.ireturn, 1) := by decide +kernel
set_option maxRecDepth 20000 in
theorem ggX12_readsHeights_X12_number : GoodIn wsX12_readsHeights wsX12_number := goodIn_r _ [13, 5, 6, 7, 14, 15, 16, 12, 17, 18, 19, 20, 29, 30, 31, 32, 33, 34, 35, 36, 37, 38, 39, 40, 41, 42, 43, 44, 45, 46, 47, 48, 49, 50, 51, 52, 53, 54, 55, 56, 57, 58, 59, 60, 61, 62, 63, 64] (by decide +kernel) (by decide +kernel)
set_option maxRecDepth 20000 in
theorem gX12_readsHeights_X12_number : GoodIn wsX12_readsHeights (wsV RX12 91 RX12 yX12_number wsX12_number) := goodIn_app (goodIn_of _ (by decide +kernel)) ggX12_readsHeights_X12_number
set_option maxRecDepth 20000 in
theorem ggX12_readsHeights_X12_token : GoodIn wsX12_readsHeights wsX12_token := goodIn_r _ [24, 4, 5, 6, 7, 14, 25, 26, 27, 12, 28, 15, 16, 17, 29, 30, 31, 32, 33, 34, 35, 36, 37, 38, 39, 40, 41, 42, 43, 44, 45, 46, 47, 48, 49, 50, 51, 52, 53, 54, 55, 56, 57, 58, 59, 60, 61, 62, 63, 64] (by decide +kernel) (by decide +kernel)
set_option maxRecDepth 20000 in
theorem gX12_readsHeights_X12_token : GoodIn wsX12_readsHeights (wsV RX12 95 RX12 yX12_token wsX12_token) := goodIn_app (goodIn_of _ (by decide +kernel)) ggX12_readsHeights_X12_token
set_option maxRecDepth 20000 in
theorem ggX12_readsHeights_X12_skip : GoodIn wsX12_readsHeights wsX12_skip := goodIn_r _ [28, 4, 6, 7, 29, 30, 31, 32, 33, 34, 35, 36, 37, 38, 39, 40, 41, 42, 43, 44, 45, 46, 47, 48, 49, 50, 51, 52, 53, 54, 55, 56, 57, 58, 59, 60, 61, 62, 63, 64] (by decide +kernel) (by decide +kernel)
set_option maxRecDepth 20000 in
theorem gX12_readsHeights_X12_skip : GoodIn wsX12_readsHeights (wsV RX12 78 RX12 yX12_skip wsX12_skip) := goodIn_app (goodIn_of _ (by decide +kernel)) ggX12_readsHeights_X12_skip
set_option maxRecDepth 20000 in
theorem ggX12_readsHeights_X12_sort : GoodIn wsX12_readsHeights wsX12_sort := goodIn_r _ [17] (by decide +kernel) (by decide +kernel)
set_option maxRecDepth 20000 in
theorem gX12_readsHeights_X12_sort : GoodIn wsX12_readsHeights (va_wsS RX12 84 yX12_sort wsX12_sort) := goodIn_app (goodIn_of _ (by decide +kernel)) ggX12_readsHeights_X12_sort
theorem dX12_readsHeights_0 : decode cX12_readsHeights 0 = .ok (.aload_n 0, 1) := by decide +kernel
theorem dX12_readsHeights_1 : decode cX12_readsHeights 1 = .ok (.getfield 53, 3) := by decide +kernel
theorem dX12_readsHeights_4 : decode cX12_readsHeights 4 = .ok (.iconst 0, 1) := by decide +kernel
theorem dX12_readsHeights_5 : decode cX12_readsHeights 5 = .ok (.aload_n 0, 1) := by decide +kernel
theorem dX12_readsHeights_6 : decode cX12_readsHeights 6 = .ok (.iconst 1, 1) := by decide +kernel
theorem dX12_readsHeights_7 : decode cX12_readsHeights 7 = .ok (.bipush 6, 2) := by decide +kernel
theorem dX12_readsHeights_9 : decode cX12_readsHeights 9 = .ok (.invokevirtual 91, 3) := by decide +kernel
theorem dX12_readsHeights_12 : decode cX12_readsHeights 12 = .ok (.iastore, 1) := by decide +kernel
theorem dX12_readsHeights_13 : decode cX12_readsHeights 13 = .ok (.aload_n 0, 1) := by decide +kernel
theorem dX12_readsHeights_14 : decode cX12_readsHeights 14 = .ok (.getfield 53, 3) := by decide +kernel
theorem dX12_readsHeights_17 : decode cX12_readsHeights 17 = .ok (.iconst 0, 1) := by decide +kernel
theorem dX12_readsHeights_18 : decode cX12_readsHeights 18 = .ok (.iaload, 1) := by decide +kernel
theorem dX12_readsHeights_19 : decode cX12_readsHeights 19 = .ok (.bipush (-9), 2) := by decide +kernel
theorem dX12_readsHeights_21 : decode cX12_readsHeights 21 = .ok (.if_icmp .ne 5, 3) := by decide +kernel
theorem dX12_readsHeights_24 : decode cX12_readsHeights 24 = .ok (.iconst 0, 1) := by decide +kernel
theorem dX12_readsHeights_25 : decode cX12_readsHeights 25 = .ok (.ireturn, 1) := by decide +kernel
theorem dX12_readsHeights_26 : decode cX12_readsHeights 26 = .ok (.aload_n 0, 1) := by decide +kernel
theorem dX12_readsHeights_27 : decode cX12_readsHeights 27 = .ok (.invokevirtual 95, 3) := by decide +kernel
theorem dX12_readsHeights_30 : decode cX12_readsHeights 30 = .ok (.aload_n 0, 1) := by decide +kernel
theorem dX12_readsHeights_31 : decode cX12_readsHeights 31 = .ok (.getfield 53, 3) := by decide +kernel
theorem dX12_readsHeights_34 : decode cX12_readsHeights 34 = .ok (.iconst 1, 1) := by decide +kernel
theorem dX12_readsHeights_35 : decode cX12_readsHeights 35 = .ok (.aload_n 0, 1) := by decide +kernel
theorem dX12_readsHeights_36 : decode cX12_readsHeights 36 = .ok (.iconst 1, 1) := by decide +kernel
theorem dX12_readsHeights_37 : decode cX12_readsHeights 37 = .ok (.iconst 5, 1) := by decide +kernel
theorem dX12_readsHeights_38 : decode cX12_readsHeights 38 = .ok (.invokevirtual 91, 3) := by decide +kernel
theorem dX12_readsHeights_41 : decode cX12_readsHeights 41 = .ok (.iastore, 1) := by decide +kernel
theorem dX12_readsHeights_42 : decode cX12_readsHeights 42 = .ok (.aload_n 0, 1) := by decide +kernel
theorem dX12_readsHeights_43 : decode cX12_readsHeights 43 = .ok (.getfield 53, 3) := by decide +kernel
theorem dX12_readsHeights_46 : decode cX12_readsHeights 46 = .ok (.iconst 1, 1) := by decide +kernel
theorem dX12_readsHeights_47 : decode cX12_readsHeights 47 = .ok (.iaload, 1) := by decide +kernel
theorem dX12_readsHeights_48 : decode cX12_readsHeights 48 = .ok (.bipush (-9), 2) := by decide +kernel
theorem dX12_readsHeights_50 : decode cX12_readsHeights 50 = .ok (.if_icmp .ne 5, 3) := by decide +kernel
theorem dX12_readsHeights_53 : decode cX12_readsHeights 53 = .ok (.iconst 0, 1) := by decide +kernel
theorem dX12_readsHeights_54 : decode cX12_readsHeights 54 = .ok (.ireturn, 1) := by decide +kernel
theorem dX12_readsHeights_55 : decode cX12_readsHeights 55 = .ok (.aload_n 0, 1) := by decide +kernel
theorem dX12_readsHeights_56 : decode cX12_readsHeights 56 = .ok (.aload_n 0, 1) := by decide +kernel
theorem dX12_readsHeights_57 : decode cX12_readsHeights 57 = .ok (.getfield 53, 3) := by decide +kernel
theorem dX12_readsHeights_60 : decode cX12_readsHeights 60 = .ok (.iconst 0, 1) := by decide +kernel
theorem dX12_readsHeights_61 : decode cX12_readsHeights 61 = .ok (.iaload, 1) := by decide +kernel
theorem dX12_readsHeights_62 : decode cX12_readsHeights 62 = .ok (.putfield 98, 3) := by decide +kernel
theorem dX12_readsHeights_65 : decode cX12_readsHeights 65 = .ok (.aload_n 0, 1) := by decide +kernel
theorem dX12_readsHeights_66 : decode cX12_readsHeights 66 = .ok (.aload_n 0, 1) := by decide +kernel
theorem dX12_readsHeights_67 : decode cX12_readsHeights 67 = .ok (.getfield 53, 3) := by decide +kernel
theorem dX12_readsHeights_70 : decode cX12_readsHeights 70 = .ok (.iconst 1, 1) := by decide +kernel
theorem dX12_readsHeights_71 : decode cX12_readsHeights 71 = .ok (.iaload, 1) := by decide +kernel
theorem dX12_readsHeights_72 : decode cX12_readsHeights 72 = .ok (.putfield 101, 3) := by decide +kernel
theorem dX12_readsHeights_75 : decode cX12_readsHeights 75 = .ok (.iconst 0, 1) := by decide +kernel
theorem dX12_readsHeights_76 : decode cX12_readsHeights 76 = .ok (.istore_n 1, 1) := by decide +kernel
theorem dX12_readsHeights_77 : decode cX12_readsHeights 77 = .ok (.iload_n 1, 1) := by decide +kernel
theorem dX12_readsHeights_78 : decode cX12_readsHeights 78 = .ok (.aload_n 0, 1) := by decide +kernel
theorem dX12_readsHeights_79 : decode cX12_readsHeights 79 = .ok (.getfield 98, 3) := by decide +kernel
theorem dX12_readsHeights_82 : decode cX12_readsHeights 82 = .ok (.aload_n 0, 1) := by decide +kernel
theorem dX12_readsHeights_83 : decode cX12_readsHeights 83 = .ok (.getfield 101, 3) := by decide +kernel
theorem dX12_readsHeights_86 : decode cX12_readsHeights 86 = .ok (.imul, 1) := by decide +kernel
theorem dX12_readsHeights_87 : decode cX12_readsHeights 87 = .ok (.if_icmp .ge 78, 3) := by decide +kernel
theorem dX12_readsHeights_90 : decode cX12_readsHeights 90 = .ok (.aload_n 0, 1) := by decide +kernel
theorem dX12_readsHeights_91 : decode cX12_readsHeights 91 = .ok (.invokevirtual 78, 3) := by decide +kernel
theorem dX12_readsHeights_94 : decode cX12_readsHeights 94 = .ok (.aload_n 0, 1) := by decide +kernel
theorem dX12_readsHeights_95 : decode cX12_readsHeights 95 = .ok (.aload_n 0, 1) := by decide +kernel
theorem dX12_readsHeights_96 : decode cX12_readsHeights 96 = .ok (.getfield 75, 3) := by decide +kernel
theorem dX12_readsHeights_99 : decode cX12_readsHeights 99 = .ok (.putfield 81, 3) := by decide +kernel
theorem dX12_readsHeights_102 : decode cX12_readsHeights 102 = .ok (.aload_n 0, 1) := by decide +kernel
theorem dX12_readsHeights_103 : decode cX12_readsHeights 103 = .ok (.getfield 75, 3) := by decide +kernel
theorem dX12_readsHeights_106 : decode cX12_readsHeights 106 = .ok (.aload_n 0, 1) := by decide +kernel
theorem dX12_readsHeights_107 : decode cX12_readsHeights 107 = .ok (.getfield 72, 3) := by decide +kernel
theorem dX12_readsHeights_110 : decode cX12_readsHeights 110 = .ok (.if_icmp .eq 19, 3) := by decide +kernel
theorem dX12_readsHeights_113 : decode cX12_readsHeights 113 = .ok (.aload_n 0, 1) := by decide +kernel
theorem dX12_readsHeights_114 : decode cX12_readsHeights 114 = .ok (.getfield 17, 3) := by decide +kernel
theorem dX12_readsHeights_117 : decode cX12_readsHeights 117 = .ok (.aload_n 0, 1) := by decide +kernel
theorem dX12_readsHeights_118 : decode cX12_readsHeights 118 = .ok (.getfield 75, 3) := by decide +kernel
theorem dX12_readsHeights_121 : decode cX12_readsHeights 121 = .ok (.iaload, 1) := by decide +kernel
theorem dX12_readsHeights_122 : decode cX12_readsHeights 122 = .ok (.invokestatic 84, 3) := by decide +kernel
theorem dX12_readsHeights_125 : decode cX12_readsHeights 125 = .ok (.iconst 2, 1) := by decide +kernel
theorem dX12_readsHeights_126 : decode cX12_readsHeights 126 = .ok (.if_icmp .eq 5, 3) := by decide +kernel
theorem dX12_readsHeights_129 : decode cX12_readsHeights 129 = .ok (.iconst 0, 1) := by decide +kernel
theorem dX12_readsHeights_130 : decode cX12_readsHeights 130 = .ok (.ireturn, 1) := by decide +kernel
theorem dX12_readsHeights_131 : decode cX12_readsHeights 131 = .ok (.aload_n 0, 1) := by decide +kernel
theorem dX12_readsHeights_132 : decode cX12_readsHeights 132 = .ok (.getfield 41, 3) := by decide +kernel
theorem dX12_readsHeights_135 : decode cX12_readsHeights 135 = .ok (.iload_n 1, 1) := by decide +kernel
theorem dX12_readsHeights_136 : decode cX12_readsHeights 136 = .ok (.aload_n 0, 1) := by decide +kernel
theorem dX12_readsHeights_137 : decode cX12_readsHeights 137 = .ok (.getfield 17, 3) := by decide +kernel
theorem dX12_readsHeights_140 : decode cX12_readsHeights 140 = .ok (.aload_n 0, 1) := by decide +kernel
theorem dX12_readsHeights_141 : decode cX12_readsHeights 141 = .ok (.getfield 75, 3) := by decide +kernel
theorem dX12_readsHeights_144 : decode cX12_readsHeights 144 = .ok (.iaload, 1) := by decide +kernel
theorem dX12_readsHeights_145 : decode cX12_readsHeights 145 = .ok (.bipush 48, 2) := by decide +kernel
theorem dX12_readsHeights_147 : decode cX12_readsHeights 147 = .ok (.isub, 1) := by decide +kernel
theorem dX12_readsHeights_148 : decode cX12_readsHeights 148 = .ok (.iastore, 1) := by decide +kernel
theorem dX12_readsHeights_149 : decode cX12_readsHeights 149 = .ok (.aload_n 0, 1) := by decide +kernel
theorem dX12_readsHeights_150 : decode cX12_readsHeights 150 = .ok (.dup, 1) := by decide +kernel
theorem dX12_readsHeights_151 : decode cX12_readsHeights 151 = .ok (.getfield 75, 3) := by decide +kernel
theorem dX12_readsHeights_154 : decode cX12_readsHeights 154 = .ok (.iconst 1, 1) := by decide +kernel
theorem dX12_readsHeights_155 : decode cX12_readsHeights 155 = .ok (.iadd, 1) := by decide +kernel
theorem dX12_readsHeights_156 : decode cX12_readsHeights 156 = .ok (.putfield 75, 3) := by decide +kernel
theorem dX12_readsHeights_159 : decode cX12_readsHeights 159 = .ok (.iinc 1 1, 3) := by decide +kernel
theorem dX12_readsHeights_162 : decode cX12_readsHeights 162 = .ok (.goto (-85), 3) := by decide +kernel
theorem dX12_readsHeights_165 : decode cX12_readsHeights 165 = .ok (.aload_n 0, 1) := by decide +kernel
theorem dX12_readsHeights_166 : decode cX12_readsHeights 166 = .ok (.invokevirtual 95, 3) := by decide +kernel
theorem dX12_readsHeights_169 : decode cX12_readsHeights 169 = .ok (.iconst 1, 1) := by decide +kernel
theorem dX12_readsHeights_170 : decode cX12_readsHeights 170 = .ok (.ireturn, 1) := by decide +kernel
theorem dX12_readBit_0 : decode cX12_readBit 0 = .ok (.aload_n 0, 1) := by decide +kernel
theorem dX12_readBit_1 : decode cX12_readBit 1 = .ok (.getfield 98, 3) := by decide +kernel
theorem dX12_readBit_4 : decode cX12_readBit 4 = .ok (.aload_n 0, 1) := by decide +kernel
theorem dX12_readBit_5 : decode cX12_readBit 5 = .ok (.getfield 53, 3) := by decide +kernel
theorem dX12_readBit_8 : decode cX12_readBit 8 = .ok (.iconst 1, 1) := by decide +kernel
theorem dX12_readBit_9 : decode cX12_readBit 9 = .ok (.iaload, 1) := by decide +kernel
theorem dX12_readBit_10 : decode cX12_readBit 10 = .ok (.imul, 1) := by decide +kernel
theorem dX12_readBit_11 : decode cX12_readBit 11 = .ok (.aload_n 0, 1) := by decide +kernel
theorem dX12_readBit_12 : decode cX12_readBit 12 = .ok (.getfield 53, 3) := by decide +kernel
theorem dX12_readBit_15 : decode cX12_readBit 15 = .ok (.iconst 0, 1) := by decide +kernel
theorem dX12_readBit_16 : decode cX12_readBit 16 = .ok (.iaload, 1) := by decide +kernel
theorem dX12_readBit_17 : decode cX12_readBit 17 = .ok (.iadd, 1) := by decide +kernel
theorem dX12_readBit_18 : decode cX12_readBit 18 = .ok (.ireturn, 1) := by decide +kernel
set_option maxRecDepth 20000 in
theorem ggX12_readsCell_X12_reads : GoodIn wsX12_readsCell wsX12_reads := goodIn_r _ [6, 7, 8, 9, 10, 5, 11, 12, 13, 14, 15, 16, 17, 18, 19, 20, 21, 22, 23, 24, 25, 26, 27, 28, 29, 30, 31, 32, 33, 34, 35, 36, 37, 38, 39, 40, 41, 42, 43, 44, 45, 46, 47, 48, 49, 50, 51, 52, 53, 54, 55, 56, 57, 58, 59, 60, 61, 62, 63, 64, 65, 66] (by decide +kernel) (by decide +kernel)
set_option maxRecDepth 20000 in
theorem gX12_readsCell_X12_reads : GoodIn wsX12_readsCell (wsV RX12 104 RX12 yX12_reads wsX12_reads) := goodIn_app (goodIn_of _ (by decide +kernel)) ggX12_readsCell_X12_reads
theorem dX12_readsCell_0 : decode cX12_readsCell 0 = .ok (.aload_n 0, 1) := by decide +kernel
theorem dX12_readsCell_1 : decode cX12_readsCell 1 = .ok (.iconst 0, 1) := by decide +kernel
theorem dX12_readsCell_2 : decode cX12_readsCell 2 = .ok (.iconst 0, 1) := by decide +kernel
theorem dX12_readsCell_3 : decode cX12_readsCell 3 = .ok (.aload_n 0, 1) := by decide +kernel
theorem dX12_readsCell_4 : decode cX12_readsCell 4 = .ok (.getfield 98, 3) := by decide +kernel
theorem dX12_readsCell_7 : decode cX12_readsCell 7 = .ok (.iconst 1, 1) := by decide +kernel
theorem dX12_readsCell_8 : decode cX12_readsCell 8 = .ok (.isub, 1) := by decide +kernel
theorem dX12_readsCell_9 : decode cX12_readsCell 9 = .ok (.invokevirtual 104, 3) := by decide +kernel
theorem dX12_readsCell_12 : decode cX12_readsCell 12 = .ok (.ireturn, 1) := by decide +kernel
set_option maxRecDepth 20000 in
theorem ggX12_readsKerb_X12_readsCell : GoodIn wsX12_readsKerb wsX12_readsCell := goodIn_r _ [9, 4, 10, 11, 12, 8, 13, 2, 14, 15, 16, 17, 18, 19, 20, 21, 22, 23, 24, 25, 26, 27, 28, 29, 30, 31, 32, 33, 34, 35, 36, 37, 38, 39, 40, 41, 42, 43, 44, 45, 46, 47, 48, 49, 50, 51, 52, 53, 54, 55, 56, 57, 58, 59, 60, 61, 62, 63, 64, 65, 66, 67, 68, 69, 70, 71, 72] (by decide +kernel) (by decide +kernel)
set_option maxRecDepth 20000 in
theorem gX12_readsKerb_X12_readsCell : GoodIn wsX12_readsKerb (wsV RX12 108 RX12 yX12_readsCell wsX12_readsCell) := goodIn_app (goodIn_of _ (by decide +kernel)) ggX12_readsKerb_X12_readsCell
set_option maxRecDepth 20000 in
theorem ggX12_readsKerb_X12_reads : GoodIn wsX12_readsKerb wsX12_reads := goodIn_r _ [13, 2, 14, 15, 16, 8, 17, 18, 19, 20, 21, 22, 23, 24, 25, 26, 27, 28, 29, 30, 31, 32, 33, 34, 35, 36, 37, 38, 39, 40, 41, 42, 43, 44, 45, 46, 47, 48, 49, 50, 51, 52, 53, 54, 55, 56, 57, 58, 59, 60, 61, 62, 63, 64, 65, 66, 67, 68, 69, 70, 71, 72] (by decide +kernel) (by decide +kernel)
set_option maxRecDepth 20000 in
theorem gX12_readsKerb_X12_reads : GoodIn wsX12_readsKerb (wsV RX12 104 RX12 yX12_reads wsX12_reads) := goodIn_app (goodIn_of _ (by decide +kernel)) ggX12_readsKerb_X12_reads
theorem dX12_readsKerb_0 : decode cX12_readsKerb 0 = .ok (.aload_n 0, 1) := by decide +kernel
theorem dX12_readsKerb_1 : decode cX12_readsKerb 1 = .ok (.invokevirtual 108, 3) := by decide +kernel
theorem dX12_readsKerb_4 : decode cX12_readsKerb 4 = .ok (.ifCond .eq 28, 3) := by decide +kernel
theorem dX12_readsKerb_7 : decode cX12_readsKerb 7 = .ok (.aload_n 0, 1) := by decide +kernel
theorem dX12_readsKerb_8 : decode cX12_readsKerb 8 = .ok (.iconst 1, 1) := by decide +kernel
theorem dX12_readsKerb_9 : decode cX12_readsKerb 9 = .ok (.iconst 0, 1) := by decide +kernel
theorem dX12_readsKerb_10 : decode cX12_readsKerb 10 = .ok (.aload_n 0, 1) := by decide +kernel
theorem dX12_readsKerb_11 : decode cX12_readsKerb 11 = .ok (.getfield 101, 3) := by decide +kernel
theorem dX12_readsKerb_14 : decode cX12_readsKerb 14 = .ok (.iconst 1, 1) := by decide +kernel
theorem dX12_readsKerb_15 : decode cX12_readsKerb 15 = .ok (.isub, 1) := by decide +kernel
theorem dX12_readsKerb_16 : decode cX12_readsKerb 16 = .ok (.invokevirtual 104, 3) := by decide +kernel
theorem dX12_readsKerb_19 : decode cX12_readsKerb 19 = .ok (.ifCond .eq 13, 3) := by decide +kernel
theorem dX12_readsKerb_22 : decode cX12_readsKerb 22 = .ok (.aload_n 0, 1) := by decide +kernel
theorem dX12_readsKerb_23 : decode cX12_readsKerb 23 = .ok (.iconst 2, 1) := by decide +kernel
theorem dX12_readsKerb_24 : decode cX12_readsKerb 24 = .ok (.iconst 0, 1) := by decide +kernel
theorem dX12_readsKerb_25 : decode cX12_readsKerb 25 = .ok (.iconst 3, 1) := by decide +kernel
theorem dX12_readsKerb_26 : decode cX12_readsKerb 26 = .ok (.invokevirtual 104, 3) := by decide +kernel
theorem dX12_readsKerb_29 : decode cX12_readsKerb 29 = .ok (.ifCond .ne 5, 3) := by decide +kernel
theorem dX12_readsKerb_32 : decode cX12_readsKerb 32 = .ok (.iconst 0, 1) := by decide +kernel
theorem dX12_readsKerb_33 : decode cX12_readsKerb 33 = .ok (.ireturn, 1) := by decide +kernel
theorem dX12_readsKerb_34 : decode cX12_readsKerb 34 = .ok (.aload_n 0, 1) := by decide +kernel
theorem dX12_readsKerb_35 : decode cX12_readsKerb 35 = .ok (.getfield 53, 3) := by decide +kernel
theorem dX12_readsKerb_38 : decode cX12_readsKerb 38 = .ok (.iconst 0, 1) := by decide +kernel
theorem dX12_readsKerb_39 : decode cX12_readsKerb 39 = .ok (.iaload, 1) := by decide +kernel
theorem dX12_readsKerb_40 : decode cX12_readsKerb 40 = .ok (.aload_n 0, 1) := by decide +kernel
theorem dX12_readsKerb_41 : decode cX12_readsKerb 41 = .ok (.getfield 53, 3) := by decide +kernel
theorem dX12_readsKerb_44 : decode cX12_readsKerb 44 = .ok (.iconst 2, 1) := by decide +kernel
theorem dX12_readsKerb_45 : decode cX12_readsKerb 45 = .ok (.iaload, 1) := by decide +kernel
theorem dX12_readsKerb_46 : decode cX12_readsKerb 46 = .ok (.iconst 3, 1) := by decide +kernel
theorem dX12_readsKerb_47 : decode cX12_readsKerb 47 = .ok (.if_icmp .ne 7, 3) := by decide +kernel
theorem dX12_readsKerb_50 : decode cX12_readsKerb 50 = .ok (.iconst 1, 1) := by decide +kernel
theorem dX12_readsKerb_51 : decode cX12_readsKerb 51 = .ok (.goto 4, 3) := by decide +kernel
theorem dX12_readsKerb_54 : decode cX12_readsKerb 54 = .ok (.iconst 0, 1) := by decide +kernel
theorem dX12_readsKerb_55 : decode cX12_readsKerb 55 = .ok (.isub, 1) := by decide +kernel
theorem dX12_readsKerb_56 : decode cX12_readsKerb 56 = .ok (.istore_n 1, 1) := by decide +kernel
theorem dX12_readsKerb_57 : decode cX12_readsKerb 57 = .ok (.aload_n 0, 1) := by decide +kernel
theorem dX12_readsKerb_58 : decode cX12_readsKerb 58 = .ok (.getfield 53, 3) := by decide +kernel
theorem dX12_readsKerb_61 : decode cX12_readsKerb 61 = .ok (.iconst 1, 1) := by decide +kernel
theorem dX12_readsKerb_62 : decode cX12_readsKerb 62 = .ok (.iaload, 1) := by decide +kernel
theorem dX12_readsKerb_63 : decode cX12_readsKerb 63 = .ok (.aload_n 0, 1) := by decide +kernel
theorem dX12_readsKerb_64 : decode cX12_readsKerb 64 = .ok (.getfield 53, 3) := by decide +kernel
theorem dX12_readsKerb_67 : decode cX12_readsKerb 67 = .ok (.iconst 2, 1) := by decide +kernel
theorem dX12_readsKerb_68 : decode cX12_readsKerb 68 = .ok (.iaload, 1) := by decide +kernel
theorem dX12_readsKerb_69 : decode cX12_readsKerb 69 = .ok (.ifCond .ne 7, 3) := by decide +kernel
theorem dX12_readsKerb_72 : decode cX12_readsKerb 72 = .ok (.iconst 1, 1) := by decide +kernel
theorem dX12_readsKerb_73 : decode cX12_readsKerb 73 = .ok (.goto 4, 3) := by decide +kernel
theorem dX12_readsKerb_76 : decode cX12_readsKerb 76 = .ok (.iconst 0, 1) := by decide +kernel
theorem dX12_readsKerb_77 : decode cX12_readsKerb 77 = .ok (.isub, 1) := by decide +kernel
theorem dX12_readsKerb_78 : decode cX12_readsKerb 78 = .ok (.istore_n 2, 1) := by decide +kernel
theorem dX12_readsKerb_79 : decode cX12_readsKerb 79 = .ok (.iload_n 1, 1) := by decide +kernel
theorem dX12_readsKerb_80 : decode cX12_readsKerb 80 = .ok (.ifCond .lt 42, 3) := by decide +kernel
theorem dX12_readsKerb_83 : decode cX12_readsKerb 83 = .ok (.iload_n 2, 1) := by decide +kernel
theorem dX12_readsKerb_84 : decode cX12_readsKerb 84 = .ok (.ifCond .lt 38, 3) := by decide +kernel
theorem dX12_readsKerb_87 : decode cX12_readsKerb 87 = .ok (.aload_n 0, 1) := by decide +kernel
theorem dX12_readsKerb_88 : decode cX12_readsKerb 88 = .ok (.getfield 44, 3) := by decide +kernel
theorem dX12_readsKerb_91 : decode cX12_readsKerb 91 = .ok (.aload_n 0, 1) := by decide +kernel
theorem dX12_readsKerb_92 : decode cX12_readsKerb 92 = .ok (.getfield 53, 3) := by decide +kernel
theorem dX12_readsKerb_95 : decode cX12_readsKerb 95 = .ok (.iconst 2, 1) := by decide +kernel
theorem dX12_readsKerb_96 : decode cX12_readsKerb 96 = .ok (.iaload, 1) := by decide +kernel
theorem dX12_readsKerb_97 : decode cX12_readsKerb 97 = .ok (.iconst 2, 1) := by decide +kernel
theorem dX12_readsKerb_98 : decode cX12_readsKerb 98 = .ok (.irem, 1) := by decide +kernel
theorem dX12_readsKerb_99 : decode cX12_readsKerb 99 = .ok (.iconst 1, 1) := by decide +kernel
theorem dX12_readsKerb_100 : decode cX12_readsKerb 100 = .ok (.if_icmp .ne 7, 3) := by decide +kernel
theorem dX12_readsKerb_103 : decode cX12_readsKerb 103 = .ok (.iconst 0, 1) := by decide +kernel
theorem dX12_readsKerb_104 : decode cX12_readsKerb 104 = .ok (.goto 4, 3) := by decide +kernel
theorem dX12_readsKerb_107 : decode cX12_readsKerb 107 = .ok (.iconst 1, 1) := by decide +kernel
theorem dX12_readsKerb_108 : decode cX12_readsKerb 108 = .ok (.dup2, 1) := by decide +kernel
theorem dX12_readsKerb_109 : decode cX12_readsKerb 109 = .ok (.iaload, 1) := by decide +kernel
theorem dX12_readsKerb_110 : decode cX12_readsKerb 110 = .ok (.iconst 1, 1) := by decide +kernel
theorem dX12_readsKerb_111 : decode cX12_readsKerb 111 = .ok (.aload_n 0, 1) := by decide +kernel
theorem dX12_readsKerb_112 : decode cX12_readsKerb 112 = .ok (.getfield 98, 3) := by decide +kernel
theorem dX12_readsKerb_115 : decode cX12_readsKerb 115 = .ok (.iload_n 2, 1) := by decide +kernel
theorem dX12_readsKerb_116 : decode cX12_readsKerb 116 = .ok (.imul, 1) := by decide +kernel
theorem dX12_readsKerb_117 : decode cX12_readsKerb 117 = .ok (.iload_n 1, 1) := by decide +kernel
theorem dX12_readsKerb_118 : decode cX12_readsKerb 118 = .ok (.iadd, 1) := by decide +kernel
theorem dX12_readsKerb_119 : decode cX12_readsKerb 119 = .ok (.ishl, 1) := by decide +kernel
theorem dX12_readsKerb_120 : decode cX12_readsKerb 120 = .ok (.ior, 1) := by decide +kernel
theorem dX12_readsKerb_121 : decode cX12_readsKerb 121 = .ok (.iastore, 1) := by decide +kernel
theorem dX12_readsKerb_122 : decode cX12_readsKerb 122 = .ok (.iconst 1, 1) := by decide +kernel
theorem dX12_readsKerb_123 : decode cX12_readsKerb 123 = .ok (.ireturn, 1) := by decide +kernel
set_option maxRecDepth 20000 in
theorem ggX12_readsGrating_X12_readsCell : GoodIn wsX12_readsGrating wsX12_readsCell := goodIn_r _ [9, 10, 11, 12, 13, 8, 14, 1, 15, 16, 17, 18, 19, 20, 21, 22, 23, 24, 25, 26, 27, 28, 29, 30, 31, 32, 33, 34, 35, 36, 37, 42, 43, 44, 45, 46, 47, 48, 49, 50, 51, 52, 53, 54, 55, 56, 57, 58, 59, 60, 61, 62, 63, 64, 65, 66, 67, 68, 69, 70, 71, 72, 73, 74, 75, 76, 77] (by decide +kernel) (by decide +kernel)
set_option maxRecDepth 20000 in
theorem gX12_readsGrating_X12_readsCell : GoodIn wsX12_readsGrating (wsV RX12 108 RX12 yX12_readsCell wsX12_readsCell) := goodIn_app (goodIn_of _ (by decide +kernel)) ggX12_readsGrating_X12_readsCell
set_option maxRecDepth 20000 in
theorem ggX12_readsGrating_X12_number : GoodIn wsX12_readsGrating wsX12_number := goodIn_r _ [18, 19, 20, 21, 22, 23, 24, 8, 25, 26, 27, 28, 42, 43, 44, 45, 46, 47, 48, 49, 50, 51, 52, 53, 54, 55, 56, 57, 58, 59, 60, 61, 62, 63, 64, 65, 66, 67, 68, 69, 70, 71, 72, 73, 74, 75, 76, 77] (by decide +kernel) (by decide +kernel)
set_option maxRecDepth 20000 in
theorem gX12_readsGrating_X12_number : GoodIn wsX12_readsGrating (wsV RX12 91 RX12 yX12_number wsX12_number) := goodIn_app (goodIn_of _ (by decide +kernel)) ggX12_readsGrating_X12_number
set_option maxRecDepth 20000 in
theorem ggX12_readsGrating_X12_readBit : GoodIn wsX12_readsGrating wsX12_readBit := goodIn_r _ [41, 10, 1, 42, 43, 44, 45, 46, 47, 48, 49, 50, 51, 52, 53, 54, 55, 56, 57, 58, 59, 60, 61, 62, 63, 64, 65, 66, 67, 68, 69, 70, 71, 72, 73, 74, 75, 76, 77] (by decide +kernel) (by decide +kernel)
set_option maxRecDepth 20000 in
theorem gX12_readsGrating_X12_readBit : GoodIn wsX12_readsGrating (wsV RX12 112 RX12 yX12_readBit wsX12_readBit) := goodIn_app (goodIn_of _ (by decide +kernel)) ggX12_readsGrating_X12_readBit
set_option maxRecDepth 20000 in
theorem ggX12_readsGrating_X12_token : GoodIn wsX12_readsGrating wsX12_token := goodIn_r _ [32, 33, 19, 20, 21, 22, 34, 35, 36, 8, 37, 23, 24, 25, 42, 43, 44, 45, 46, 47, 48, 49, 50, 51, 52, 53, 54, 55, 56, 57, 58, 59, 60, 61, 62, 63, 64, 65, 66, 67, 68, 69, 70, 71, 72, 73, 74, 75, 76, 77] (by decide +kernel) (by decide +kernel)
set_option maxRecDepth 20000 in
theorem gX12_readsGrating_X12_token : GoodIn wsX12_readsGrating (wsV RX12 95 RX12 yX12_token wsX12_token) := goodIn_app (goodIn_of _ (by decide +kernel)) ggX12_readsGrating_X12_token
set_option maxRecDepth 20000 in
theorem ggX12_readsGrating_X12_reads : GoodIn wsX12_readsGrating wsX12_reads := goodIn_r _ [14, 1, 15, 16, 17, 8, 18, 19, 20, 21, 22, 23, 24, 25, 26, 27, 28, 29, 30, 31, 32, 33, 34, 35, 36, 37, 42, 43, 44, 45, 46, 47, 48, 49, 50, 51, 52, 53, 54, 55, 56, 57, 58, 59, 60, 61, 62, 63, 64, 65, 66, 67, 68, 69, 70, 71, 72, 73, 74, 75, 76, 77] (by decide +kernel) (by decide +kernel)
set_option maxRecDepth 20000 in
theorem gX12_readsGrating_X12_reads : GoodIn wsX12_readsGrating (wsV RX12 104 RX12 yX12_reads wsX12_reads) := goodIn_app (goodIn_of _ (by decide +kernel)) ggX12_readsGrating_X12_reads
theorem dX12_readsGrating_0 : decode cX12_readsGrating 0 = .ok (.aload_n 0, 1) := by decide +kernel
theorem dX12_readsGrating_1 : decode cX12_readsGrating 1 = .ok (.invokevirtual 108, 3) := by decide +kernel
theorem dX12_readsGrating_4 : decode cX12_readsGrating 4 = .ok (.ifCond .ne 5, 3) := by decide +kernel
theorem dX12_readsGrating_7 : decode cX12_readsGrating 7 = .ok (.iconst 0, 1) := by decide +kernel
theorem dX12_readsGrating_8 : decode cX12_readsGrating 8 = .ok (.ireturn, 1) := by decide +kernel
theorem dX12_readsGrating_9 : decode cX12_readsGrating 9 = .ok (.aload_n 0, 1) := by decide +kernel
theorem dX12_readsGrating_10 : decode cX12_readsGrating 10 = .ok (.getfield 53, 3) := by decide +kernel
theorem dX12_readsGrating_13 : decode cX12_readsGrating 13 = .ok (.iconst 1, 1) := by decide +kernel
theorem dX12_readsGrating_14 : decode cX12_readsGrating 14 = .ok (.aload_n 0, 1) := by decide +kernel
theorem dX12_readsGrating_15 : decode cX12_readsGrating 15 = .ok (.iconst 0, 1) := by decide +kernel
theorem dX12_readsGrating_16 : decode cX12_readsGrating 16 = .ok (.aload_n 0, 1) := by decide +kernel
theorem dX12_readsGrating_17 : decode cX12_readsGrating 17 = .ok (.getfield 101, 3) := by decide +kernel
theorem dX12_readsGrating_20 : decode cX12_readsGrating 20 = .ok (.iconst 1, 1) := by decide +kernel
theorem dX12_readsGrating_21 : decode cX12_readsGrating 21 = .ok (.isub, 1) := by decide +kernel
theorem dX12_readsGrating_22 : decode cX12_readsGrating 22 = .ok (.invokevirtual 91, 3) := by decide +kernel
theorem dX12_readsGrating_25 : decode cX12_readsGrating 25 = .ok (.iastore, 1) := by decide +kernel
theorem dX12_readsGrating_26 : decode cX12_readsGrating 26 = .ok (.aload_n 0, 1) := by decide +kernel
theorem dX12_readsGrating_27 : decode cX12_readsGrating 27 = .ok (.getfield 53, 3) := by decide +kernel
theorem dX12_readsGrating_30 : decode cX12_readsGrating 30 = .ok (.iconst 1, 1) := by decide +kernel
theorem dX12_readsGrating_31 : decode cX12_readsGrating 31 = .ok (.iaload, 1) := by decide +kernel
theorem dX12_readsGrating_32 : decode cX12_readsGrating 32 = .ok (.bipush (-9), 2) := by decide +kernel
theorem dX12_readsGrating_34 : decode cX12_readsGrating 34 = .ok (.if_icmp .eq 15, 3) := by decide +kernel
theorem dX12_readsGrating_37 : decode cX12_readsGrating 37 = .ok (.aload_n 0, 1) := by decide +kernel
theorem dX12_readsGrating_38 : decode cX12_readsGrating 38 = .ok (.getfield 47, 3) := by decide +kernel
theorem dX12_readsGrating_41 : decode cX12_readsGrating 41 = .ok (.aload_n 0, 1) := by decide +kernel
theorem dX12_readsGrating_42 : decode cX12_readsGrating 42 = .ok (.invokevirtual 112, 3) := by decide +kernel
theorem dX12_readsGrating_45 : decode cX12_readsGrating 45 = .ok (.iaload, 1) := by decide +kernel
theorem dX12_readsGrating_46 : decode cX12_readsGrating 46 = .ok (.ifCond .le 5, 3) := by decide +kernel
theorem dX12_readsGrating_49 : decode cX12_readsGrating 49 = .ok (.iconst 0, 1) := by decide +kernel
theorem dX12_readsGrating_50 : decode cX12_readsGrating 50 = .ok (.ireturn, 1) := by decide +kernel
theorem dX12_readsGrating_51 : decode cX12_readsGrating 51 = .ok (.aload_n 0, 1) := by decide +kernel
theorem dX12_readsGrating_52 : decode cX12_readsGrating 52 = .ok (.invokevirtual 95, 3) := by decide +kernel
theorem dX12_readsGrating_55 : decode cX12_readsGrating 55 = .ok (.aload_n 0, 1) := by decide +kernel
theorem dX12_readsGrating_56 : decode cX12_readsGrating 56 = .ok (.iconst 2, 1) := by decide +kernel
theorem dX12_readsGrating_57 : decode cX12_readsGrating 57 = .ok (.iconst 1, 1) := by decide +kernel
theorem dX12_readsGrating_58 : decode cX12_readsGrating 58 = .ok (.bipush 9, 2) := by decide +kernel
theorem dX12_readsGrating_60 : decode cX12_readsGrating 60 = .ok (.invokevirtual 104, 3) := by decide +kernel
theorem dX12_readsGrating_63 : decode cX12_readsGrating 63 = .ok (.ifCond .ne 5, 3) := by decide +kernel
theorem dX12_readsGrating_66 : decode cX12_readsGrating 66 = .ok (.iconst 0, 1) := by decide +kernel
theorem dX12_readsGrating_67 : decode cX12_readsGrating 67 = .ok (.ireturn, 1) := by decide +kernel
theorem dX12_readsGrating_68 : decode cX12_readsGrating 68 = .ok (.aload_n 0, 1) := by decide +kernel
theorem dX12_readsGrating_69 : decode cX12_readsGrating 69 = .ok (.getfield 47, 3) := by decide +kernel
theorem dX12_readsGrating_72 : decode cX12_readsGrating 72 = .ok (.aload_n 0, 1) := by decide +kernel
theorem dX12_readsGrating_73 : decode cX12_readsGrating 73 = .ok (.invokevirtual 112, 3) := by decide +kernel
theorem dX12_readsGrating_76 : decode cX12_readsGrating 76 = .ok (.aload_n 0, 1) := by decide +kernel
theorem dX12_readsGrating_77 : decode cX12_readsGrating 77 = .ok (.getfield 53, 3) := by decide +kernel
theorem dX12_readsGrating_80 : decode cX12_readsGrating 80 = .ok (.iconst 2, 1) := by decide +kernel
theorem dX12_readsGrating_81 : decode cX12_readsGrating 81 = .ok (.iaload, 1) := by decide +kernel
theorem dX12_readsGrating_82 : decode cX12_readsGrating 82 = .ok (.iastore, 1) := by decide +kernel
theorem dX12_readsGrating_83 : decode cX12_readsGrating 83 = .ok (.aload_n 0, 1) := by decide +kernel
theorem dX12_readsGrating_84 : decode cX12_readsGrating 84 = .ok (.dup, 1) := by decide +kernel
theorem dX12_readsGrating_85 : decode cX12_readsGrating 85 = .ok (.getfield 116, 3) := by decide +kernel
theorem dX12_readsGrating_88 : decode cX12_readsGrating 88 = .ok (.iconst 1, 1) := by decide +kernel
theorem dX12_readsGrating_89 : decode cX12_readsGrating 89 = .ok (.iadd, 1) := by decide +kernel
theorem dX12_readsGrating_90 : decode cX12_readsGrating 90 = .ok (.putfield 116, 3) := by decide +kernel
theorem dX12_readsGrating_93 : decode cX12_readsGrating 93 = .ok (.iconst 1, 1) := by decide +kernel
theorem dX12_readsGrating_94 : decode cX12_readsGrating 94 = .ok (.ireturn, 1) := by decide +kernel
set_option maxRecDepth 20000 in
theorem ggX12_readsKind_X12_reads : GoodIn wsX12_readsKind wsX12_reads := goodIn_r _ [8, 3, 9, 10, 11, 7, 12, 13, 14, 15, 16, 17, 18, 19, 20, 21, 22, 23, 24, 25, 26, 27, 28, 29, 30, 31, 32, 33, 34, 35, 36, 37, 38, 39, 40, 41, 42, 43, 44, 45, 46, 47, 48, 49, 50, 51, 52, 53, 54, 55, 56, 57, 58, 59, 60, 61, 62, 63, 64, 65, 66, 67] (by decide +kernel) (by decide +kernel)
set_option maxRecDepth 20000 in
theorem gX12_readsKind_X12_reads : GoodIn wsX12_readsKind (wsV RX12 104 RX12 yX12_reads wsX12_reads) := goodIn_app (goodIn_of _ (by decide +kernel)) ggX12_readsKind_X12_reads
theorem dX12_readsKind_0 : decode cX12_readsKind 0 = .ok (.aload_n 0, 1) := by decide +kernel
theorem dX12_readsKind_1 : decode cX12_readsKind 1 = .ok (.iconst 0, 1) := by decide +kernel
theorem dX12_readsKind_2 : decode cX12_readsKind 2 = .ok (.iconst 1, 1) := by decide +kernel
theorem dX12_readsKind_3 : decode cX12_readsKind 3 = .ok (.bipush 9, 2) := by decide +kernel
theorem dX12_readsKind_5 : decode cX12_readsKind 5 = .ok (.invokevirtual 104, 3) := by decide +kernel
theorem dX12_readsKind_8 : decode cX12_readsKind 8 = .ok (.ifCond .eq 24, 3) := by decide +kernel
theorem dX12_readsKind_11 : decode cX12_readsKind 11 = .ok (.aload_n 0, 1) := by decide +kernel
theorem dX12_readsKind_12 : decode cX12_readsKind 12 = .ok (.iconst 1, 1) := by decide +kernel
theorem dX12_readsKind_13 : decode cX12_readsKind 13 = .ok (.iconst 1, 1) := by decide +kernel
theorem dX12_readsKind_14 : decode cX12_readsKind 14 = .ok (.bipush 99, 2) := by decide +kernel
theorem dX12_readsKind_16 : decode cX12_readsKind 16 = .ok (.invokevirtual 104, 3) := by decide +kernel
theorem dX12_readsKind_19 : decode cX12_readsKind 19 = .ok (.ifCond .eq 13, 3) := by decide +kernel
theorem dX12_readsKind_22 : decode cX12_readsKind 22 = .ok (.aload_n 0, 1) := by decide +kernel
theorem dX12_readsKind_23 : decode cX12_readsKind 23 = .ok (.iconst 2, 1) := by decide +kernel
theorem dX12_readsKind_24 : decode cX12_readsKind 24 = .ok (.iconst 0, 1) := by decide +kernel
theorem dX12_readsKind_25 : decode cX12_readsKind 25 = .ok (.iconst 1, 1) := by decide +kernel
theorem dX12_readsKind_26 : decode cX12_readsKind 26 = .ok (.invokevirtual 104, 3) := by decide +kernel
theorem dX12_readsKind_29 : decode cX12_readsKind 29 = .ok (.ifCond .ne 5, 3) := by decide +kernel
theorem dX12_readsKind_32 : decode cX12_readsKind 32 = .ok (.iconst 0, 1) := by decide +kernel
theorem dX12_readsKind_33 : decode cX12_readsKind 33 = .ok (.ireturn, 1) := by decide +kernel
theorem dX12_readsKind_34 : decode cX12_readsKind 34 = .ok (.iconst 0, 1) := by decide +kernel
theorem dX12_readsKind_35 : decode cX12_readsKind 35 = .ok (.istore_n 1, 1) := by decide +kernel
theorem dX12_readsKind_36 : decode cX12_readsKind 36 = .ok (.iload_n 1, 1) := by decide +kernel
theorem dX12_readsKind_37 : decode cX12_readsKind 37 = .ok (.iconst 3, 1) := by decide +kernel
theorem dX12_readsKind_38 : decode cX12_readsKind 38 = .ok (.if_icmp .ge 28, 3) := by decide +kernel
theorem dX12_readsKind_41 : decode cX12_readsKind 41 = .ok (.aload_n 0, 1) := by decide +kernel
theorem dX12_readsKind_42 : decode cX12_readsKind 42 = .ok (.getfield 50, 3) := by decide +kernel
theorem dX12_readsKind_45 : decode cX12_readsKind 45 = .ok (.iconst 3, 1) := by decide +kernel
theorem dX12_readsKind_46 : decode cX12_readsKind 46 = .ok (.aload_n 0, 1) := by decide +kernel
theorem dX12_readsKind_47 : decode cX12_readsKind 47 = .ok (.getfield 119, 3) := by decide +kernel
theorem dX12_readsKind_50 : decode cX12_readsKind 50 = .ok (.imul, 1) := by decide +kernel
theorem dX12_readsKind_51 : decode cX12_readsKind 51 = .ok (.iload_n 1, 1) := by decide +kernel
theorem dX12_readsKind_52 : decode cX12_readsKind 52 = .ok (.iadd, 1) := by decide +kernel
theorem dX12_readsKind_53 : decode cX12_readsKind 53 = .ok (.aload_n 0, 1) := by decide +kernel
theorem dX12_readsKind_54 : decode cX12_readsKind 54 = .ok (.getfield 53, 3) := by decide +kernel
theorem dX12_readsKind_57 : decode cX12_readsKind 57 = .ok (.iload_n 1, 1) := by decide +kernel
theorem dX12_readsKind_58 : decode cX12_readsKind 58 = .ok (.iaload, 1) := by decide +kernel
theorem dX12_readsKind_59 : decode cX12_readsKind 59 = .ok (.iastore, 1) := by decide +kernel
theorem dX12_readsKind_60 : decode cX12_readsKind 60 = .ok (.iinc 1 1, 3) := by decide +kernel
theorem dX12_readsKind_63 : decode cX12_readsKind 63 = .ok (.goto (-27), 3) := by decide +kernel
theorem dX12_readsKind_66 : decode cX12_readsKind 66 = .ok (.aload_n 0, 1) := by decide +kernel
theorem dX12_readsKind_67 : decode cX12_readsKind 67 = .ok (.dup, 1) := by decide +kernel
theorem dX12_readsKind_68 : decode cX12_readsKind 68 = .ok (.getfield 119, 3) := by decide +kernel
theorem dX12_readsKind_71 : decode cX12_readsKind 71 = .ok (.iconst 1, 1) := by decide +kernel
theorem dX12_readsKind_72 : decode cX12_readsKind 72 = .ok (.iadd, 1) := by decide +kernel
theorem dX12_readsKind_73 : decode cX12_readsKind 73 = .ok (.putfield 119, 3) := by decide +kernel
theorem dX12_readsKind_76 : decode cX12_readsKind 76 = .ok (.iconst 1, 1) := by decide +kernel
theorem dX12_readsKind_77 : decode cX12_readsKind 77 = .ok (.ireturn, 1) := by decide +kernel
set_option maxRecDepth 20000 in
theorem ggX12_readsItem_X12_token : GoodIn wsX12_readsItem wsX12_token := goodIn_r _ [12, 13, 2, 7, 3, 1, 14, 15, 16, 11, 17, 18, 19, 20, 63, 64, 65, 66, 67, 68, 69, 70, 71, 72, 73, 74, 75, 76, 77, 78, 79, 80, 81, 82, 83, 84, 85, 86, 87, 88, 89, 90, 91, 92, 93, 94, 95, 96, 97, 98] (by decide +kernel) (by decide +kernel)
set_option maxRecDepth 20000 in
theorem gX12_readsItem_X12_token : GoodIn wsX12_readsItem (wsV RX12 95 RX12 yX12_token wsX12_token) := goodIn_app (goodIn_of _ (by decide +kernel)) ggX12_readsItem_X12_token
set_option maxRecDepth 20000 in
theorem ggX12_readsItem_X12_readsHeights : GoodIn wsX12_readsItem wsX12_readsHeights := goodIn_r _ [24, 25, 26, 27, 13, 2, 7, 3, 28, 29, 30, 31, 11, 32, 1, 18, 19, 20, 33, 34, 35, 8, 9, 10, 12, 14, 15, 16, 17, 63, 64, 65, 66, 67, 68, 69, 70, 71, 72, 73, 74, 75, 76, 77, 78, 79, 80, 81, 82, 83, 84, 85, 86, 87, 88, 89, 90, 91, 92, 93, 94, 95, 96, 97, 98] (by decide +kernel) (by decide +kernel)
set_option maxRecDepth 20000 in
theorem gX12_readsItem_X12_readsHeights : GoodIn wsX12_readsItem (wsV RX12 125 RX12 yX12_readsHeights wsX12_readsHeights) := goodIn_app (goodIn_of _ (by decide +kernel)) ggX12_readsItem_X12_readsHeights
set_option maxRecDepth 20000 in
theorem ggX12_readsItem_X12_readsKerb : GoodIn wsX12_readsItem wsX12_readsKerb := goodIn_r _ [39, 27, 25, 40, 26, 41, 42, 43, 11, 44, 45, 46, 47, 48, 29, 30, 31, 32, 2, 7, 3, 1, 18, 19, 20, 33, 34, 35, 8, 9, 10, 12, 13, 14, 15, 16, 17, 63, 64, 65, 66, 67, 68, 69, 70, 71, 72, 73, 74, 75, 76, 77, 78, 79, 80, 81, 82, 83, 84, 85, 86, 87, 88, 89, 90, 91, 92, 93, 94, 95, 96, 97, 98] (by decide +kernel) (by decide +kernel)
set_option maxRecDepth 20000 in
theorem gX12_readsItem_X12_readsKerb : GoodIn wsX12_readsItem (wsV RX12 128 RX12 yX12_readsKerb wsX12_readsKerb) := goodIn_app (goodIn_of _ (by decide +kernel)) ggX12_readsItem_X12_readsKerb

set_option maxRecDepth 20000 in
theorem gX11_film_X11_cut : GoodIn wsX11_film (va_wsS RX11 257 yX11_cut wsX11_cut) := goodIn_app (goodIn_of _ (by decide +kernel)) ggX11_film_X11_cut
theorem dX11_film_0 : decode cX11_film 0 = .ok (.iload_n 1, 1) := by decide +kernel
theorem dX11_film_1 : decode cX11_film 1 = .ok (.i2l, 1) := by decide +kernel
theorem dX11_film_2 : decode cX11_film 2 = .ok (.lconst 1, 1) := by decide +kernel
theorem dX11_film_3 : decode cX11_film 3 = .ok (.ldc2_w 263, 3) := by decide +kernel
theorem dX11_film_6 : decode cX11_film 6 = .ok (.invokestatic 60, 3) := by decide +kernel
theorem dX11_film_9 : decode cX11_film 9 = .ok (.ifCond .eq 22, 3) := by decide +kernel
theorem dX11_film_12 : decode cX11_film 12 = .ok (.iload_n 2, 1) := by decide +kernel
theorem dX11_film_13 : decode cX11_film 13 = .ok (.invokestatic 246, 3) := by decide +kernel
theorem dX11_film_16 : decode cX11_film 16 = .ok (.ifCond .eq 15, 3) := by decide +kernel
theorem dX11_film_19 : decode cX11_film 19 = .ok (.iload_n 3, 1) := by decide +kernel
theorem dX11_film_20 : decode cX11_film 20 = .ok (.i2l, 1) := by decide +kernel
theorem dX11_film_21 : decode cX11_film 21 = .ok (.lconst 0, 1) := by decide +kernel
theorem dX11_film_22 : decode cX11_film 22 = .ok (.ldc2_w 150, 3) := by decide +kernel
theorem dX11_film_25 : decode cX11_film 25 = .ok (.invokestatic 60, 3) := by decide +kernel
theorem dX11_film_28 : decode cX11_film 28 = .ok (.ifCond .ne 6, 3) := by decide +kernel
theorem dX11_film_31 : decode cX11_film 31 = .ok (.ldc 107, 2) := by decide +kernel
theorem dX11_film_33 : decode cX11_film 33 = .ok (.ireturn, 1) := by decide +kernel
theorem dX11_film_34 : decode cX11_film 34 = .ok (.aload_n 0, 1) := by decide +kernel
theorem dX11_film_35 : decode cX11_film 35 = .ok (.iload_n 2, 1) := by decide +kernel
theorem dX11_film_36 : decode cX11_film 36 = .ok (.iload_n 3, 1) := by decide +kernel
theorem dX11_film_37 : decode cX11_film 37 = .ok (.iload 4, 2) := by decide +kernel
theorem dX11_film_39 : decode cX11_film 39 = .ok (.iload_n 1, 1) := by decide +kernel
theorem dX11_film_40 : decode cX11_film 40 = .ok (.invokevirtual 253, 3) := by decide +kernel
theorem dX11_film_43 : decode cX11_film 43 = .ok (.istore 5, 2) := by decide +kernel
theorem dX11_film_45 : decode cX11_film 45 = .ok (.iload 5, 2) := by decide +kernel
theorem dX11_film_47 : decode cX11_film 47 = .ok (.ifCond .ge 6, 3) := by decide +kernel
theorem dX11_film_50 : decode cX11_film 50 = .ok (.iload 5, 2) := by decide +kernel
theorem dX11_film_52 : decode cX11_film 52 = .ok (.ireturn, 1) := by decide +kernel
theorem dX11_film_53 : decode cX11_film 53 = .ok (.aload_n 0, 1) := by decide +kernel
theorem dX11_film_54 : decode cX11_film 54 = .ok (.invokevirtual 88, 3) := by decide +kernel
theorem dX11_film_57 : decode cX11_film 57 = .ok (.iconst 0, 1) := by decide +kernel
theorem dX11_film_58 : decode cX11_film 58 = .ok (.istore 6, 2) := by decide +kernel
theorem dX11_film_60 : decode cX11_film 60 = .ok (.iconst 0, 1) := by decide +kernel
theorem dX11_film_61 : decode cX11_film 61 = .ok (.istore 7, 2) := by decide +kernel
theorem dX11_film_63 : decode cX11_film 63 = .ok (.iload 7, 2) := by decide +kernel
theorem dX11_film_65 : decode cX11_film 65 = .ok (.aload_n 0, 1) := by decide +kernel
theorem dX11_film_66 : decode cX11_film 66 = .ok (.getfield 77, 3) := by decide +kernel
theorem dX11_film_69 : decode cX11_film 69 = .ok (.if_icmp .ge 59, 3) := by decide +kernel
theorem dX11_film_72 : decode cX11_film 72 = .ok (.iload 6, 2) := by decide +kernel
theorem dX11_film_74 : decode cX11_film 74 = .ok (.iload_n 1, 1) := by decide +kernel
theorem dX11_film_75 : decode cX11_film 75 = .ok (.if_icmp .ge 53, 3) := by decide +kernel
theorem dX11_film_78 : decode cX11_film 78 = .ok (.aload_n 0, 1) := by decide +kernel
theorem dX11_film_79 : decode cX11_film 79 = .ok (.getfield 16, 3) := by decide +kernel
theorem dX11_film_82 : decode cX11_film 82 = .ok (.iload 7, 2) := by decide +kernel
theorem dX11_film_84 : decode cX11_film 84 = .ok (.iaload, 1) := by decide +kernel
theorem dX11_film_85 : decode cX11_film 85 = .ok (.aload_n 0, 1) := by decide +kernel
theorem dX11_film_86 : decode cX11_film 86 = .ok (.invokevirtual 91, 3) := by decide +kernel
theorem dX11_film_89 : decode cX11_film 89 = .ok (.if_icmp .ne 33, 3) := by decide +kernel
theorem dX11_film_92 : decode cX11_film 92 = .ok (.aload_n 0, 1) := by decide +kernel
theorem dX11_film_93 : decode cX11_film 93 = .ok (.getfield 53, 3) := by decide +kernel
theorem dX11_film_96 : decode cX11_film 96 = .ok (.bipush 24, 2) := by decide +kernel
theorem dX11_film_98 : decode cX11_film 98 = .ok (.iload_n 2, 1) := by decide +kernel
theorem dX11_film_99 : decode cX11_film 99 = .ok (.imul, 1) := by decide +kernel
theorem dX11_film_100 : decode cX11_film 100 = .ok (.iload 4, 2) := by decide +kernel
theorem dX11_film_102 : decode cX11_film 102 = .ok (.iadd, 1) := by decide +kernel
theorem dX11_film_103 : decode cX11_film 103 = .ok (.iload 6, 2) := by decide +kernel
theorem dX11_film_105 : decode cX11_film 105 = .ok (.iadd, 1) := by decide +kernel
theorem dX11_film_106 : decode cX11_film 106 = .ok (.aload_n 0, 1) := by decide +kernel
theorem dX11_film_107 : decode cX11_film 107 = .ok (.getfield 13, 3) := by decide +kernel
theorem dX11_film_110 : decode cX11_film 110 = .ok (.iload 7, 2) := by decide +kernel
theorem dX11_film_112 : decode cX11_film 112 = .ok (.iaload, 1) := by decide +kernel
theorem dX11_film_113 : decode cX11_film 113 = .ok (.i2l, 1) := by decide +kernel
theorem dX11_film_114 : decode cX11_film 114 = .ok (.iload_n 3, 1) := by decide +kernel
theorem dX11_film_115 : decode cX11_film 115 = .ok (.invokestatic 257, 3) := by decide +kernel
theorem dX11_film_118 : decode cX11_film 118 = .ok (.lastore, 1) := by decide +kernel
theorem dX11_film_119 : decode cX11_film 119 = .ok (.iinc 6 1, 3) := by decide +kernel
theorem dX11_film_122 : decode cX11_film 122 = .ok (.iinc 7 1, 3) := by decide +kernel
theorem dX11_film_125 : decode cX11_film 125 = .ok (.goto (-62), 3) := by decide +kernel
theorem dX11_film_128 : decode cX11_film 128 = .ok (.iload 6, 2) := by decide +kernel
theorem dX11_film_130 : decode cX11_film 130 = .ok (.istore 7, 2) := by decide +kernel
theorem dX11_film_132 : decode cX11_film 132 = .ok (.iload 7, 2) := by decide +kernel
theorem dX11_film_134 : decode cX11_film 134 = .ok (.iload_n 1, 1) := by decide +kernel
theorem dX11_film_135 : decode cX11_film 135 = .ok (.if_icmp .ge 27, 3) := by decide +kernel
theorem dX11_film_138 : decode cX11_film 138 = .ok (.aload_n 0, 1) := by decide +kernel
theorem dX11_film_139 : decode cX11_film 139 = .ok (.getfield 53, 3) := by decide +kernel
theorem dX11_film_142 : decode cX11_film 142 = .ok (.bipush 24, 2) := by decide +kernel
theorem dX11_film_144 : decode cX11_film 144 = .ok (.iload_n 2, 1) := by decide +kernel
theorem dX11_film_145 : decode cX11_film 145 = .ok (.imul, 1) := by decide +kernel
theorem dX11_film_146 : decode cX11_film 146 = .ok (.iload 4, 2) := by decide +kernel
theorem dX11_film_148 : decode cX11_film 148 = .ok (.iadd, 1) := by decide +kernel
theorem dX11_film_149 : decode cX11_film 149 = .ok (.iload 7, 2) := by decide +kernel
theorem dX11_film_151 : decode cX11_film 151 = .ok (.iadd, 1) := by decide +kernel
theorem dX11_film_152 : decode cX11_film 152 = .ok (.ldc2_w 265, 3) := by decide +kernel
theorem dX11_film_155 : decode cX11_film 155 = .ok (.lastore, 1) := by decide +kernel
theorem dX11_film_156 : decode cX11_film 156 = .ok (.iinc 7 1, 3) := by decide +kernel
theorem dX11_film_159 : decode cX11_film 159 = .ok (.goto (-27), 3) := by decide +kernel
theorem dX11_film_162 : decode cX11_film 162 = .ok (.iload_n 1, 1) := by decide +kernel
theorem dX11_film_163 : decode cX11_film 163 = .ok (.ireturn, 1) := by decide +kernel
theorem dJ6_bitCount_0f7a4_0 : decode cJ6_bitCount_0f7a4 0 = .ok (.iload_n 0, 1) := by decide +kernel
theorem dJ6_bitCount_0f7a4_1 : decode cJ6_bitCount_0f7a4 1 = .ok (.iload_n 0, 1) := by decide +kernel
theorem dJ6_bitCount_0f7a4_2 : decode cJ6_bitCount_0f7a4 2 = .ok (.iconst 1, 1) := by decide +kernel
theorem dJ6_bitCount_0f7a4_3 : decode cJ6_bitCount_0f7a4 3 = .ok (.iushr, 1) := by decide +kernel
theorem dJ6_bitCount_0f7a4_4 : decode cJ6_bitCount_0f7a4 4 = .ok (.ldc_w 265, 3) := by decide +kernel
theorem dJ6_bitCount_0f7a4_7 : decode cJ6_bitCount_0f7a4 7 = .ok (.iand, 1) := by decide +kernel
theorem dJ6_bitCount_0f7a4_8 : decode cJ6_bitCount_0f7a4 8 = .ok (.isub, 1) := by decide +kernel
theorem dJ6_bitCount_0f7a4_9 : decode cJ6_bitCount_0f7a4 9 = .ok (.istore_n 0, 1) := by decide +kernel
theorem dJ6_bitCount_0f7a4_10 : decode cJ6_bitCount_0f7a4 10 = .ok (.iload_n 0, 1) := by decide +kernel
theorem dJ6_bitCount_0f7a4_11 : decode cJ6_bitCount_0f7a4 11 = .ok (.ldc_w 266, 3) := by decide +kernel
theorem dJ6_bitCount_0f7a4_14 : decode cJ6_bitCount_0f7a4 14 = .ok (.iand, 1) := by decide +kernel
theorem dJ6_bitCount_0f7a4_15 : decode cJ6_bitCount_0f7a4 15 = .ok (.iload_n 0, 1) := by decide +kernel
theorem dJ6_bitCount_0f7a4_16 : decode cJ6_bitCount_0f7a4 16 = .ok (.iconst 2, 1) := by decide +kernel
theorem dJ6_bitCount_0f7a4_17 : decode cJ6_bitCount_0f7a4 17 = .ok (.iushr, 1) := by decide +kernel
theorem dJ6_bitCount_0f7a4_18 : decode cJ6_bitCount_0f7a4 18 = .ok (.ldc_w 266, 3) := by decide +kernel
theorem dJ6_bitCount_0f7a4_21 : decode cJ6_bitCount_0f7a4 21 = .ok (.iand, 1) := by decide +kernel
theorem dJ6_bitCount_0f7a4_22 : decode cJ6_bitCount_0f7a4 22 = .ok (.iadd, 1) := by decide +kernel
theorem dJ6_bitCount_0f7a4_23 : decode cJ6_bitCount_0f7a4 23 = .ok (.istore_n 0, 1) := by decide +kernel
theorem dJ6_bitCount_0f7a4_24 : decode cJ6_bitCount_0f7a4 24 = .ok (.iload_n 0, 1) := by decide +kernel
theorem dJ6_bitCount_0f7a4_25 : decode cJ6_bitCount_0f7a4 25 = .ok (.iload_n 0, 1) := by decide +kernel
theorem dJ6_bitCount_0f7a4_26 : decode cJ6_bitCount_0f7a4 26 = .ok (.iconst 4, 1) := by decide +kernel
theorem dJ6_bitCount_0f7a4_27 : decode cJ6_bitCount_0f7a4 27 = .ok (.iushr, 1) := by decide +kernel
theorem dJ6_bitCount_0f7a4_28 : decode cJ6_bitCount_0f7a4 28 = .ok (.iadd, 1) := by decide +kernel
theorem dJ6_bitCount_0f7a4_29 : decode cJ6_bitCount_0f7a4 29 = .ok (.ldc_w 267, 3) := by decide +kernel
theorem dJ6_bitCount_0f7a4_32 : decode cJ6_bitCount_0f7a4 32 = .ok (.iand, 1) := by decide +kernel
theorem dJ6_bitCount_0f7a4_33 : decode cJ6_bitCount_0f7a4 33 = .ok (.istore_n 0, 1) := by decide +kernel
theorem dJ6_bitCount_0f7a4_34 : decode cJ6_bitCount_0f7a4 34 = .ok (.iload_n 0, 1) := by decide +kernel
theorem dJ6_bitCount_0f7a4_35 : decode cJ6_bitCount_0f7a4 35 = .ok (.iload_n 0, 1) := by decide +kernel
theorem dJ6_bitCount_0f7a4_36 : decode cJ6_bitCount_0f7a4 36 = .ok (.bipush 8, 2) := by decide +kernel
theorem dJ6_bitCount_0f7a4_38 : decode cJ6_bitCount_0f7a4 38 = .ok (.iushr, 1) := by decide +kernel
theorem dJ6_bitCount_0f7a4_39 : decode cJ6_bitCount_0f7a4 39 = .ok (.iadd, 1) := by decide +kernel
theorem dJ6_bitCount_0f7a4_40 : decode cJ6_bitCount_0f7a4 40 = .ok (.istore_n 0, 1) := by decide +kernel
theorem dJ6_bitCount_0f7a4_41 : decode cJ6_bitCount_0f7a4 41 = .ok (.iload_n 0, 1) := by decide +kernel
theorem dJ6_bitCount_0f7a4_42 : decode cJ6_bitCount_0f7a4 42 = .ok (.iload_n 0, 1) := by decide +kernel
theorem dJ6_bitCount_0f7a4_43 : decode cJ6_bitCount_0f7a4 43 = .ok (.bipush 16, 2) := by decide +kernel
theorem dJ6_bitCount_0f7a4_45 : decode cJ6_bitCount_0f7a4 45 = .ok (.iushr, 1) := by decide +kernel
theorem dJ6_bitCount_0f7a4_46 : decode cJ6_bitCount_0f7a4 46 = .ok (.iadd, 1) := by decide +kernel
theorem dJ6_bitCount_0f7a4_47 : decode cJ6_bitCount_0f7a4 47 = .ok (.istore_n 0, 1) := by decide +kernel
theorem dJ6_bitCount_0f7a4_48 : decode cJ6_bitCount_0f7a4 48 = .ok (.iload_n 0, 1) := by decide +kernel
theorem dJ6_bitCount_0f7a4_49 : decode cJ6_bitCount_0f7a4 49 = .ok (.bipush 63, 2) := by decide +kernel
theorem dJ6_bitCount_0f7a4_51 : decode cJ6_bitCount_0f7a4 51 = .ok (.iand, 1) := by decide +kernel
theorem dJ6_bitCount_0f7a4_52 : decode cJ6_bitCount_0f7a4 52 = .ok (.ireturn, 1) := by decide +kernel
theorem dJ9_floorDiv_7cf53_0 : decode cJ9_floorDiv_7cf53 0 = .ok (.iload_n 0, 1) := by decide +kernel
theorem dJ9_floorDiv_7cf53_1 : decode cJ9_floorDiv_7cf53 1 = .ok (.iload_n 1, 1) := by decide +kernel
theorem dJ9_floorDiv_7cf53_2 : decode cJ9_floorDiv_7cf53 2 = .ok (.idiv, 1) := by decide +kernel
theorem dJ9_floorDiv_7cf53_3 : decode cJ9_floorDiv_7cf53 3 = .ok (.istore_n 2, 1) := by decide +kernel
theorem dJ9_floorDiv_7cf53_4 : decode cJ9_floorDiv_7cf53 4 = .ok (.iload_n 0, 1) := by decide +kernel
theorem dJ9_floorDiv_7cf53_5 : decode cJ9_floorDiv_7cf53 5 = .ok (.iload_n 1, 1) := by decide +kernel
theorem dJ9_floorDiv_7cf53_6 : decode cJ9_floorDiv_7cf53 6 = .ok (.ixor, 1) := by decide +kernel
theorem dJ9_floorDiv_7cf53_7 : decode cJ9_floorDiv_7cf53 7 = .ok (.ifCond .ge 14, 3) := by decide +kernel
theorem dJ9_floorDiv_7cf53_10 : decode cJ9_floorDiv_7cf53 10 = .ok (.iload_n 2, 1) := by decide +kernel
theorem dJ9_floorDiv_7cf53_11 : decode cJ9_floorDiv_7cf53 11 = .ok (.iload_n 1, 1) := by decide +kernel
theorem dJ9_floorDiv_7cf53_12 : decode cJ9_floorDiv_7cf53 12 = .ok (.imul, 1) := by decide +kernel
theorem dJ9_floorDiv_7cf53_13 : decode cJ9_floorDiv_7cf53 13 = .ok (.iload_n 0, 1) := by decide +kernel
theorem dJ9_floorDiv_7cf53_14 : decode cJ9_floorDiv_7cf53 14 = .ok (.if_icmp .eq 7, 3) := by decide +kernel
theorem dJ9_floorDiv_7cf53_17 : decode cJ9_floorDiv_7cf53 17 = .ok (.iload_n 2, 1) := by decide +kernel
theorem dJ9_floorDiv_7cf53_18 : decode cJ9_floorDiv_7cf53 18 = .ok (.iconst 1, 1) := by decide +kernel
theorem dJ9_floorDiv_7cf53_19 : decode cJ9_floorDiv_7cf53 19 = .ok (.isub, 1) := by decide +kernel
theorem dJ9_floorDiv_7cf53_20 : decode cJ9_floorDiv_7cf53 20 = .ok (.ireturn, 1) := by decide +kernel
theorem dJ9_floorDiv_7cf53_21 : decode cJ9_floorDiv_7cf53 21 = .ok (.iload_n 2, 1) := by decide +kernel
theorem dJ9_floorDiv_7cf53_22 : decode cJ9_floorDiv_7cf53 22 = .ok (.ireturn, 1) := by decide +kernel
theorem dJ9_abs_0f7a4_0 : decode cJ9_abs_0f7a4 0 = .ok (.iload_n 0, 1) := by decide +kernel
theorem dJ9_abs_0f7a4_1 : decode cJ9_abs_0f7a4 1 = .ok (.ifCond .ge 8, 3) := by decide +kernel
theorem dJ9_abs_0f7a4_4 : decode cJ9_abs_0f7a4 4 = .ok (.iload_n 0, 1) := by decide +kernel
theorem dJ9_abs_0f7a4_5 : decode cJ9_abs_0f7a4 5 = .ok (.ineg, 1) := by decide +kernel
theorem dJ9_abs_0f7a4_6 : decode cJ9_abs_0f7a4 6 = .ok (.goto 4, 3) := by decide +kernel
theorem dJ9_abs_0f7a4_9 : decode cJ9_abs_0f7a4 9 = .ok (.iload_n 0, 1) := by decide +kernel
theorem dJ9_abs_0f7a4_10 : decode cJ9_abs_0f7a4 10 = .ok (.ireturn, 1) := by decide +kernel
theorem dJ9_max_7cf53_0 : decode cJ9_max_7cf53 0 = .ok (.iload_n 0, 1) := by decide +kernel
theorem dJ9_max_7cf53_1 : decode cJ9_max_7cf53 1 = .ok (.iload_n 1, 1) := by decide +kernel
theorem dJ9_max_7cf53_2 : decode cJ9_max_7cf53 2 = .ok (.if_icmp .lt 7, 3) := by decide +kernel
theorem dJ9_max_7cf53_5 : decode cJ9_max_7cf53 5 = .ok (.iload_n 0, 1) := by decide +kernel
theorem dJ9_max_7cf53_6 : decode cJ9_max_7cf53 6 = .ok (.goto 4, 3) := by decide +kernel
theorem dJ9_max_7cf53_9 : decode cJ9_max_7cf53 9 = .ok (.iload_n 1, 1) := by decide +kernel
theorem dJ9_max_7cf53_10 : decode cJ9_max_7cf53 10 = .ok (.ireturn, 1) := by decide +kernel
theorem dJ9_min_7cf53_0 : decode cJ9_min_7cf53 0 = .ok (.iload_n 0, 1) := by decide +kernel
theorem dJ9_min_7cf53_1 : decode cJ9_min_7cf53 1 = .ok (.iload_n 1, 1) := by decide +kernel
theorem dJ9_min_7cf53_2 : decode cJ9_min_7cf53 2 = .ok (.if_icmp .gt 7, 3) := by decide +kernel
theorem dJ9_min_7cf53_5 : decode cJ9_min_7cf53 5 = .ok (.iload_n 0, 1) := by decide +kernel
theorem dJ9_min_7cf53_6 : decode cJ9_min_7cf53 6 = .ok (.goto 4, 3) := by decide +kernel
theorem dJ9_min_7cf53_9 : decode cJ9_min_7cf53 9 = .ok (.iload_n 1, 1) := by decide +kernel
theorem dJ9_min_7cf53_10 : decode cJ9_min_7cf53 10 = .ok (.ireturn, 1) := by decide +kernel

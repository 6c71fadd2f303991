theorem dJ6_bitCount_0f7a4_4 : decode cJ6_bitCount_0f7a4 4 = .ok (.ldc_w 265, 3) := by decide +kernel
theorem dJ6_bitCount_0f7a4_7 : decode cJ6_bitCount_0f7a4 7 = .ok (.iand, 1) := by decide +kernel
theorem dJ6_bitCount_0f7a4_8 : decode cJ6_bitCount_0f7a4 8 = .ok (.isub, 1) := by decide +kernel
theorem dJ6_bitCount_0f7a4_9 : decode cJ6_bitCount_0f7a4 9 = .ok (.istore_n 0, 1) := by decide +kernel
theorem dJ6_bitCount_0f7a4_10 : decode cJ6_bitCount_0f7a4 10 = .ok (.iload_n 0, 1) := by decide +kernel
theorem dJ6_bitCount_0f7a4_11 : decode cJ6_bitCount_0f7a4 11 = .ok (.ldc_w 266, 3) := by decide +kernel
theorem dJ6_bitCount_0f7a4_14 : decode cJ6_bitCount_0f7a4 14 = .ok (.iand, 1) := by decide +kernel
theorem dJ6_bitCount_0f7a4_15 : decode cJ6_bitCount_0f7a4 15 = .ok (.iload_n 0, 1) := by decide +kernel
theorem dJ6_bitCount_0f7a4_16 : decode cJ6_bitCount_0f7a4 16 = .ok (.iconst 2, 1) := by decide +kernel
theorem dJ6_bitCount_0f7a4_17 : decode cJ6_bitCount_0f7a4 17 = .ok (.iushr, 1) := by decide +kernel
theorem dJ6_bitCount_0f7a4_18 : decode cJ6_bitCount_0f7a4 18 = .ok (.ldc_w 266, 3) := by decide +kernel
theorem dJ6_bitCount_0f7a4_21 : decode cJ6_bitCount_0f7a4 21 = .ok (.iand, 1) := by decide +kernel
theorem dJ6_bitCount_0f7a4_22 : decode cJ6_bitCount_0f7a4 22 = .ok (.iadd, 1) := by decide +kernel
theorem dJ6_bitCount_0f7a4_23 : decode cJ6_bitCount_0f7a4 23 = .ok (.istore_n 0, 1) := by decide +kernel
theorem dJ6_bitCount_0f7a4_24 : decode cJ6_bitCount_0f7a4 24 = .ok (.iload_n 0, 1) := by decide +kernel
theorem dJ6_bitCount_0f7a4_25 : decode cJ6_bitCount_0f7a4 25 = .ok (.iload_n 0, 1) := by decide +kernel
theorem dJ6_bitCount_0f7a4_26 : decode cJ6_bitCount_0f7a4 26 = .ok (.iconst 4, 1) := by decide +kernel
theorem dJ6_bitCount_0f7a4_27 : decode cJ6_bitCount_0f7a4 27 = .ok (.iushr, 1) := by decide +kernel
theorem dJ6_bitCount_0f7a4_28 : decode cJ6_bitCount_0f7a4 28 = .ok (.iadd, 1) := by decide +kernel
theorem dJ6_bitCount_0f7a4_29 : decode cJ6_bitCount_0f7a4 29 = .ok (.ldc_w 267, 3) := by decide +kernel
theorem dJ6_bitCount_0f7a4_32 : decode cJ6_bitCount_0f7a4 32 = .ok (.iand, 1) := by decide +kernel
theorem dJ6_bitCount_0f7a4_33 : decode cJ6_bitCount_0f7a4 33 = .ok (.istore_n 0, 1) := by decide +kernel
theorem dJ6_bitCount_0f7a4_34 : decode cJ6_bitCount_0f7a4 34 = .ok (.iload_n 0, 1) := by decide +kernel
theorem dJ6_bitCount_0f7a4_35 : decode cJ6_bitCount_0f7a4 35 = .ok (.iload_n 0, 1) := by decide +kernel
theorem dJ6_bitCount_0f7a4_36 : decode cJ6_bitCount_0f7a4 36 = .ok (.bipush 8, 2) := by decide +kernel
theorem dJ6_bitCount_0f7a4_38 : decode cJ6_bitCount_0f7a4 38 = .ok (.iushr, 1) := by decide +kernel
theorem dJ6_bitCount_0f7a4_39 : decode cJ6_bitCount_0f7a4 39 = .ok (.iadd, 1) := by decide +kernel
theorem dJ6_bitCount_0f7a4_40 : decode cJ6_bitCount_0f7a4 40 = .ok (.istore_n 0, 1) := by decide +kernel
theorem dJ6_bitCount_0f7a4_41 : decode cJ6_bitCount_0f7a4 41 = .ok (.iload_n 0, 1) := by decide +kernel
theorem dJ6_bitCount_0f7a4_42 : decode cJ6_bitCount_0f7a4 42 = .ok (.iload_n 0, 1) := by decide +kernel
theorem dJ6_bitCount_0f7a4_43 : decode cJ6_bitCount_0f7a4 43 = .ok (.bipush 16, 2) := by decide +kernel
theorem dJ6_bitCount_0f7a4_45 : decode cJ6_bitCount_0f7a4 45 = .ok (.iushr, 1) := by decide +kernel
theorem dJ6_bitCount_0f7a4_46 : decode cJ6_bitCount_0f7a4 46 = .ok (.iadd, 1) := by decide +kernel
theorem dJ6_bitCount_0f7a4_47 : decode cJ6_bitCount_0f7a4 47 = .ok (.istore_n 0, 1) := by decide +kernel
theorem dJ6_bitCount_0f7a4_48 : decode cJ6_bitCount_0f7a4 48 = .ok (.iload_n 0, 1) := by decide +kernel
theorem dJ6_bitCount_0f7a4_49 : decode cJ6_bitCount_0f7a4 49 = .ok (.bipush 63, 2) := by decide +kernel
theorem dJ6_bitCount_0f7a4_51 : decode cJ6_bitCount_0f7a4 51 = .ok (.iand, 1) := by decide +kernel
theorem dJ6_bitCount_0f7a4_52 : decode cJ6_bitCount_0f7a4 52 = .ok (.ireturn, 1) := by decide +kernel
theorem dJ9_floorDiv_7cf53_0 : decode cJ9_floorDiv_7cf53 0 = .ok (.iload_n 0, 1) := by decide +kernel
theorem dJ9_floorDiv_7cf53_1 : decode cJ9_floorDiv_7cf53 1 = .ok (.iload_n 1, 1) := by decide +kernel
theorem dJ9_floorDiv_7cf53_2 : decode cJ9_floorDiv_7cf53 2 = .ok (.idiv, 1) := by decide +kernel
theorem dJ9_floorDiv_7cf53_3 : decode cJ9_floorDiv_7cf53 3 = .ok (.istore_n 2, 1) := by decide +kernel
theorem dJ9_floorDiv_7cf53_4 : decode cJ9_floorDiv_7cf53 4 = .ok (.iload_n 0, 1) := by decide +kernel
theorem dJ9_floorDiv_7cf53_5 : decode cJ9_floorDiv_7cf53 5 = .ok (.iload_n 1, 1) := by decide +kernel
theorem dJ9_floorDiv_7cf53_6 : decode cJ9_floorDiv_7cf53 6 = .ok (.ixor, 1) := by decide +kernel
theorem dJ9_floorDiv_7cf53_7 : decode cJ9_floorDiv_7cf53 7 = .ok (.ifCond .ge 14, 3) := by decide +kernel
theorem dJ9_floorDiv_7cf53_10 : decode cJ9_floorDiv_7cf53 10 = .ok (.iload_n 2, 1) := by decide +kernel
theorem dJ9_floorDiv_7cf53_11 : decode cJ9_floorDiv_7cf53 11 = .ok (.iload_n 1, 1) := by decide +kernel
theorem dJ9_floorDiv_7cf53_12 : decode cJ9_floorDiv_7cf53 12 = .ok (.imul, 1) := by decide +kernel
theorem dJ9_floorDiv_7cf53_13 : decode cJ9_floorDiv_7cf53 13 = .ok (.iload_n 0, 1) := by decide +kernel
theorem dJ9_floorDiv_7cf53_14 : decode cJ9_floorDiv_7cf53 14 = .ok (.if_icmp .eq 7, 3) := by decide +kernel
theorem dJ9_floorDiv_7cf53_17 : decode cJ9_floorDiv_7cf53 17 = .ok (.iload_n 2, 1) := by decide +kernel
theorem dJ9_floorDiv_7cf53_18 : decode cJ9_floorDiv_7cf53 18 = .ok (.iconst 1, 1) := by decide +kernel
theorem dJ9_floorDiv_7cf53_19 : decode cJ9_floorDiv_7cf53 19 = .ok (.isub, 1) := by decide +kernel
theorem dJ9_floorDiv_7cf53_20 : decode cJ9_floorDiv_7cf53 20 = .ok (.ireturn, 1) := by decide +kernel
theorem dJ9_floorDiv_7cf53_21 : decode cJ9_floorDiv_7cf53 21 = .ok (.iload_n 2, 1) := by decide +kernel
theorem dJ9_floorDiv_7cf53_22 : decode cJ9_floorDiv_7cf53 22 = .ok (.ireturn, 1) := by decide +kernel
theorem dJ9_abs_0f7a4_0 : decode cJ9_abs_0f7a4 0 = .ok (.iload_n 0, 1) := by decide +kernel
theorem dJ9_abs_0f7a4_1 : decode cJ9_abs_0f7a4 1 = .ok (.ifCond .ge 8, 3) := by decide +kernel
theorem dJ9_abs_0f7a4_4 : decode cJ9_abs_0f7a4 4 = .ok (.iload_n 0, 1) := by decide +kernel
theorem dJ9_abs_0f7a4_5 : decode cJ9_abs_0f7a4 5 = .ok (.ineg, 1) := by decide +kernel
theorem dJ9_abs_0f7a4_6 : decode cJ9_abs_0f7a4 6 = .ok (.goto 4, 3) := by decide +kernel
theorem dJ9_abs_0f7a4_9 : decode cJ9_abs_0f7a4 9 = .ok (.iload_n 0, 1) := by decide +kernel
theorem dJ9_abs_0f7a4_10 : decode cJ9_abs_0f7a4 10 = .ok (.ireturn, 1) := by decide +kernel
theorem dJ9_max_7cf53_0 : decode cJ9_max_7cf53 0 = .ok (.iload_n 0, 1) := by decide +kernel
theorem dJ9_max_7cf53_1 : decode cJ9_max_7cf53 1 = .ok (.iload_n 1, 1) := by decide +kernel
theorem dJ9_max_7cf53_2 : decode cJ9_max_7cf53 2 = .ok (.if_icmp .lt 7, 3) := by decide +kernel
theorem dJ9_max_7cf53_5 : decode cJ9_max_7cf53 5 = .ok (.iload_n 0, 1) := by decide +kernel
theorem dJ9_max_7cf53_6 : decode cJ9_max_7cf53 6 = .ok (.goto 4, 3) := by decide +kernel
theorem dJ9_max_7cf53_9 : decode cJ9_max_7cf53 9 = .ok (.iload_n 1, 1) := by decide +kernel
theorem dJ9_max_7cf53_10 : decode cJ9_max_7cf53 10 = .ok (.ireturn, 1) := by decide +kernel
theorem dJ9_min_7cf53_0 : decode cJ9_min_7cf53 0 = .ok (.iload_n 0, 1) := by decide +kernel
theorem dJ9_min_7cf53_1 : decode cJ9_min_7cf53 1 = .ok (.iload_n 1, 1) := by decide +kernel
theorem dJ9_min_7cf53_2 : decode cJ9_min_7cf53 2 = .ok (.if_icmp .gt 7, 3) := by decide +kernel
theorem dJ9_min_7cf53_5 : decode cJ9_min_7cf53 5 = .ok (.iload_n 0, 1) := by decide +kernel
theorem dJ9_min_7cf53_6 : decode cJ9_min_7cf53 6 = .ok (.goto 4, 3) := by decide +kernel
theorem dJ9_min_7cf53_9 : decode cJ9_min_7cf53 9 = .ok (.iload_n 1, 1) := by decide +kernel
theorem dJ9_min_7cf53_10 : decode cJ9_min_7cf53 10 = .ok (.ireturn, 1) := by decide +kernel
theorem dL_cell_0 : decode cL_cell 0 = .ok (.iload_n 1, 1) := by decide +kernel
theorem dL_cell_1 : decode cL_cell 1 = .ok (.aload_n 0, 1) := by decide +kernel
theorem dL_cell_2 : decode cL_cell 2 = .ok (.arraylength, 1) := by decide +kernel
theorem dL_cell_3 : decode cL_cell 3 = .ok (.if_icmp .ge 9, 3) := by decide +kernel
theorem dL_cell_6 : decode cL_cell 6 = .ok (.aload_n 0, 1) := by decide +kernel
theorem dL_cell_7 : decode cL_cell 7 = .ok (.iload_n 1, 1) := by decide +kernel
theorem dL_cell_8 : decode cL_cell 8 = .ok (.iaload, 1) := by decide +kernel
theorem dL_cell_9 : decode cL_cell 9 = .ok (.goto 10, 3) := by decide +kernel
theorem dL_cell_12 : decode cL_cell 12 = .ok (.ldc 7, 2) := by decide +kernel
theorem dL_cell_14 : decode cL_cell 14 = .ok (.iload_n 1, 1) := by decide +kernel
theorem dL_cell_15 : decode cL_cell 15 = .ok (.imul, 1) := by decide +kernel
theorem dL_cell_16 : decode cL_cell 16 = .ok (.bipush 107, 2) := by decide +kernel
theorem dL_cell_18 : decode cL_cell 18 = .ok (.iadd, 1) := by decide +kernel
theorem dL_cell_19 : decode cL_cell 19 = .ok (.ldc 8, 2) := by decide +kernel
theorem dL_cell_21 : decode cL_cell 21 = .ok (.iand, 1) := by decide +kernel
theorem dL_cell_22 : decode cL_cell 22 = .ok (.ireturn, 1) := by decide +kernel
theorem dL_sign_0 : decode cL_sign 0 = .ok (.iload_n 0, 1) := by decide +kernel
theorem dL_sign_1 : decode cL_sign 1 = .ok (.ifCond .ne 8, 3) := by decide +kernel
theorem dL_sign_4 : decode cL_sign 4 = .ok (.bipush 62, 2) := by decide +kernel
theorem dL_sign_6 : decode cL_sign 6 = .ok (.goto 35, 3) := by decide +kernel
theorem dL_sign_9 : decode cL_sign 9 = .ok (.iload_n 0, 1) := by decide +kernel
theorem dL_sign_10 : decode cL_sign 10 = .ok (.iconst 1, 1) := by decide +kernel
theorem dL_sign_11 : decode cL_sign 11 = .ok (.if_icmp .ne 8, 3) := by decide +kernel
theorem dL_sign_14 : decode cL_sign 14 = .ok (.bipush 60, 2) := by decide +kernel
theorem dL_sign_16 : decode cL_sign 16 = .ok (.goto 25, 3) := by decide +kernel
theorem dL_sign_19 : decode cL_sign 19 = .ok (.iload_n 0, 1) := by decide +kernel
theorem dL_sign_20 : decode cL_sign 20 = .ok (.iconst 2, 1) := by decide +kernel
theorem dL_sign_21 : decode cL_sign 21 = .ok (.if_icmp .ne 8, 3) := by decide +kernel
theorem dL_sign_24 : decode cL_sign 24 = .ok (.bipush 61, 2) := by decide +kernel
theorem dL_sign_26 : decode cL_sign 26 = .ok (.goto 15, 3) := by decide +kernel
theorem dL_sign_29 : decode cL_sign 29 = .ok (.iload_n 0, 1) := by decide +kernel
theorem dL_sign_30 : decode cL_sign 30 = .ok (.iconst 3, 1) := by decide +kernel
theorem dL_sign_31 : decode cL_sign 31 = .ok (.if_icmp .ne 8, 3) := by decide +kernel
theorem dL_sign_34 : decode cL_sign 34 = .ok (.bipush 35, 2) := by decide +kernel
theorem dL_sign_36 : decode cL_sign 36 = .ok (.goto 5, 3) := by decide +kernel
theorem dL_sign_39 : decode cL_sign 39 = .ok (.bipush 37, 2) := by decide +kernel
theorem dL_sign_41 : decode cL_sign 41 = .ok (.ireturn, 1) := by decide +kernel
set_option maxRecDepth 20000 in
theorem ggL_draws_L_cell : GoodIn wsL_draws wsL_cell := goodIn_r _ [4, 5, 6] (by decide +kernel) (by decide +kernel)
set_option maxRecDepth 20000 in
theorem gL_draws_L_cell : GoodIn wsL_draws (va_wsS RL 9 yL_cell wsL_cell) := goodIn_app (goodIn_of _ (by decide +kernel)) ggL_draws_L_cell
theorem dL_draws_0 : decode cL_draws 0 = .ok (.aload_n 0, 1) := by decide +kernel
theorem dL_draws_1 : decode cL_draws 1 = .ok (.iconst 0, 1) := by decide +kernel
theorem dL_draws_2 : decode cL_draws 2 = .ok (.invokestatic 9, 3) := by decide +kernel
theorem dL_draws_5 : decode cL_draws 5 = .ok (.istore_n 2, 1) := by decide +kernel
theorem dL_draws_6 : decode cL_draws 6 = .ok (.aload_n 1, 1) := by decide +kernel
theorem dL_draws_7 : decode cL_draws 7 = .ok (.iconst 0, 1) := by decide +kernel
theorem dL_draws_8 : decode cL_draws 8 = .ok (.iload_n 2, 1) := by decide +kernel
theorem dL_draws_9 : decode cL_draws 9 = .ok (.bipush 7, 2) := by decide +kernel
theorem dL_draws_11 : decode cL_draws 11 = .ok (.iand, 1) := by decide +kernel
theorem dL_draws_12 : decode cL_draws 12 = .ok (.bipush 7, 2) := by decide +kernel
theorem dL_draws_14 : decode cL_draws 14 = .ok (.irem, 1) := by decide +kernel
theorem dL_draws_15 : decode cL_draws 15 = .ok (.iastore, 1) := by decide +kernel
theorem dL_draws_16 : decode cL_draws 16 = .ok (.aload_n 1, 1) := by decide +kernel
theorem dL_draws_17 : decode cL_draws 17 = .ok (.iconst 1, 1) := by decide +kernel
theorem dL_draws_18 : decode cL_draws 18 = .ok (.iconst 1, 1) := by decide +kernel
theorem dL_draws_19 : decode cL_draws 19 = .ok (.iload_n 2, 1) := by decide +kernel
theorem dL_draws_20 : decode cL_draws 20 = .ok (.iconst 3, 1) := by decide +kernel
theorem dL_draws_21 : decode cL_draws 21 = .ok (.ishr, 1) := by decide +kernel
theorem dL_draws_22 : decode cL_draws 22 = .ok (.iconst 3, 1) := by decide +kernel
theorem dL_draws_23 : decode cL_draws 23 = .ok (.iand, 1) := by decide +kernel
theorem dL_draws_24 : decode cL_draws 24 = .ok (.iadd, 1) := by decide +kernel
theorem dL_draws_25 : decode cL_draws 25 = .ok (.iload_n 2, 1) := by decide +kernel
theorem dL_draws_26 : decode cL_draws 26 = .ok (.iconst 5, 1) := by decide +kernel
theorem dL_draws_27 : decode cL_draws 27 = .ok (.ishr, 1) := by decide +kernel
theorem dL_draws_28 : decode cL_draws 28 = .ok (.iconst 1, 1) := by decide +kernel
theorem dL_draws_29 : decode cL_draws 29 = .ok (.iand, 1) := by decide +kernel
theorem dL_draws_30 : decode cL_draws 30 = .ok (.iadd, 1) := by decide +kernel
theorem dL_draws_31 : decode cL_draws 31 = .ok (.iastore, 1) := by decide +kernel
theorem dL_draws_32 : decode cL_draws 32 = .ok (.aload_n 1, 1) := by decide +kernel
theorem dL_draws_33 : decode cL_draws 33 = .ok (.iconst 2, 1) := by decide +kernel
theorem dL_draws_34 : decode cL_draws 34 = .ok (.iconst 1, 1) := by decide +kernel
theorem dL_draws_35 : decode cL_draws 35 = .ok (.iastore, 1) := by decide +kernel
theorem dL_draws_36 : decode cL_draws 36 = .ok (.iconst 0, 1) := by decide +kernel
theorem dL_draws_37 : decode cL_draws 37 = .ok (.istore_n 3, 1) := by decide +kernel
theorem dL_draws_38 : decode cL_draws 38 = .ok (.iload_n 3, 1) := by decide +kernel
theorem dL_draws_39 : decode cL_draws 39 = .ok (.aload_n 1, 1) := by decide +kernel
theorem dL_draws_40 : decode cL_draws 40 = .ok (.iconst 0, 1) := by decide +kernel
theorem dL_draws_41 : decode cL_draws 41 = .ok (.iaload, 1) := by decide +kernel
theorem dL_draws_42 : decode cL_draws 42 = .ok (.if_icmp .ge 143, 3) := by decide +kernel
theorem dL_draws_45 : decode cL_draws 45 = .ok (.aload_n 0, 1) := by decide +kernel
theorem dL_draws_46 : decode cL_draws 46 = .ok (.iconst 1, 1) := by decide +kernel
theorem dL_draws_47 : decode cL_draws 47 = .ok (.iload_n 3, 1) := by decide +kernel
theorem dL_draws_48 : decode cL_draws 48 = .ok (.iadd, 1) := by decide +kernel
theorem dL_draws_49 : decode cL_draws 49 = .ok (.invokestatic 9, 3) := by decide +kernel
theorem dL_draws_52 : decode cL_draws 52 = .ok (.istore 4, 2) := by decide +kernel
theorem dL_draws_54 : decode cL_draws 54 = .ok (.iconst 0, 1) := by decide +kernel
theorem dL_draws_55 : decode cL_draws 55 = .ok (.istore 5, 2) := by decide +kernel
theorem dL_draws_57 : decode cL_draws 57 = .ok (.iload 5, 2) := by decide +kernel
theorem dL_draws_59 : decode cL_draws 59 = .ok (.iconst 4, 1) := by decide +kernel
theorem dL_draws_60 : decode cL_draws 60 = .ok (.if_icmp .ge 80, 3) := by decide +kernel
theorem dL_draws_63 : decode cL_draws 63 = .ok (.iload 4, 2) := by decide +kernel
theorem dL_draws_65 : decode cL_draws 65 = .ok (.iconst 5, 1) := by decide +kernel
theorem dL_draws_66 : decode cL_draws 66 = .ok (.iload 5, 2) := by decide +kernel
theorem dL_draws_68 : decode cL_draws 68 = .ok (.imul, 1) := by decide +kernel
theorem dL_draws_69 : decode cL_draws 69 = .ok (.ishr, 1) := by decide +kernel
theorem dL_draws_70 : decode cL_draws 70 = .ok (.bipush 31, 2) := by decide +kernel
theorem dL_draws_72 : decode cL_draws 72 = .ok (.iand, 1) := by decide +kernel
theorem dL_draws_73 : decode cL_draws 73 = .ok (.bipush 7, 2) := by decide +kernel
theorem dL_draws_75 : decode cL_draws 75 = .ok (.irem, 1) := by decide +kernel
theorem dL_draws_76 : decode cL_draws 76 = .ok (.iconst 3, 1) := by decide +kernel
theorem dL_draws_77 : decode cL_draws 77 = .ok (.isub, 1) := by decide +kernel
theorem dL_draws_78 : decode cL_draws 78 = .ok (.istore 6, 2) := by decide +kernel
theorem dL_draws_80 : decode cL_draws 80 = .ok (.aload_n 1, 1) := by decide +kernel
theorem dL_draws_81 : decode cL_draws 81 = .ok (.iconst 3, 1) := by decide +kernel
theorem dL_draws_82 : decode cL_draws 82 = .ok (.bipush 6, 2) := by decide +kernel
theorem dL_draws_84 : decode cL_draws 84 = .ok (.iload_n 3, 1) := by decide +kernel
theorem dL_draws_85 : decode cL_draws 85 = .ok (.imul, 1) := by decide +kernel
theorem dL_draws_86 : decode cL_draws 86 = .ok (.iadd, 1) := by decide +kernel
theorem dL_draws_87 : decode cL_draws 87 = .ok (.iload 5, 2) := by decide +kernel
theorem dL_draws_89 : decode cL_draws 89 = .ok (.iadd, 1) := by decide +kernel
theorem dL_draws_90 : decode cL_draws 90 = .ok (.iload 4, 2) := by decide +kernel
theorem dL_draws_92 : decode cL_draws 92 = .ok (.bipush 25, 2) := by decide +kernel
theorem dL_draws_94 : decode cL_draws 94 = .ok (.iload 5, 2) := by decide +kernel
theorem dL_draws_96 : decode cL_draws 96 = .ok (.iadd, 1) := by decide +kernel
theorem dL_draws_97 : decode cL_draws 97 = .ok (.ishr, 1) := by decide +kernel
theorem dL_draws_98 : decode cL_draws 98 = .ok (.iconst 1, 1) := by decide +kernel
theorem dL_draws_99 : decode cL_draws 99 = .ok (.iand, 1) := by decide +kernel
theorem dL_draws_100 : decode cL_draws 100 = .ok (.ifCond .ne 16, 3) := by decide +kernel
theorem dL_draws_103 : decode cL_draws 103 = .ok (.iload_n 2, 1) := by decide +kernel
theorem dL_draws_104 : decode cL_draws 104 = .ok (.bipush 6, 2) := by decide +kernel
theorem dL_draws_106 : decode cL_draws 106 = .ok (.ishr, 1) := by decide +kernel
theorem dL_draws_107 : decode cL_draws 107 = .ok (.iconst 1, 1) := by decide +kernel
theorem dL_draws_108 : decode cL_draws 108 = .ok (.iand, 1) := by decide +kernel
theorem dL_draws_109 : decode cL_draws 109 = .ok (.ifCond .ne 7, 3) := by decide +kernel
theorem dL_draws_112 : decode cL_draws 112 = .ok (.iconst 0, 1) := by decide +kernel
theorem dL_draws_113 : decode cL_draws 113 = .ok (.goto 20, 3) := by decide +kernel
theorem dL_draws_116 : decode cL_draws 116 = .ok (.iload 6, 2) := by decide +kernel
theorem dL_draws_118 : decode cL_draws 118 = .ok (.iload_n 2, 1) := by decide +kernel
theorem dL_draws_119 : decode cL_draws 119 = .ok (.bipush 7, 2) := by decide +kernel
theorem dL_draws_121 : decode cL_draws 121 = .ok (.ishr, 1) := by decide +kernel
theorem dL_draws_122 : decode cL_draws 122 = .ok (.iconst 3, 1) := by decide +kernel
theorem dL_draws_123 : decode cL_draws 123 = .ok (.iand, 1) := by decide +kernel
theorem dL_draws_124 : decode cL_draws 124 = .ok (.ifCond .ne 7, 3) := by decide +kernel
theorem dL_draws_127 : decode cL_draws 127 = .ok (.iconst 2, 1) := by decide +kernel
theorem dL_draws_128 : decode cL_draws 128 = .ok (.goto 4, 3) := by decide +kernel
theorem dL_draws_131 : decode cL_draws 131 = .ok (.iconst 1, 1) := by decide +kernel
theorem dL_draws_132 : decode cL_draws 132 = .ok (.imul, 1) := by decide +kernel
theorem dL_draws_133 : decode cL_draws 133 = .ok (.iastore, 1) := by decide +kernel
theorem dL_draws_134 : decode cL_draws 134 = .ok (.iinc 5 1, 3) := by decide +kernel
theorem dL_draws_137 : decode cL_draws 137 = .ok (.goto (-80), 3) := by decide +kernel
theorem dL_draws_140 : decode cL_draws 140 = .ok (.aload_n 1, 1) := by decide +kernel
theorem dL_draws_141 : decode cL_draws 141 = .ok (.bipush 7, 2) := by decide +kernel
theorem dL_draws_143 : decode cL_draws 143 = .ok (.bipush 6, 2) := by decide +kernel
theorem dL_draws_145 : decode cL_draws 145 = .ok (.iload_n 3, 1) := by decide +kernel
theorem dL_draws_146 : decode cL_draws 146 = .ok (.imul, 1) := by decide +kernel
theorem dL_draws_147 : decode cL_draws 147 = .ok (.iadd, 1) := by decide +kernel
theorem dL_draws_148 : decode cL_draws 148 = .ok (.iload 4, 2) := by decide +kernel
theorem dL_draws_150 : decode cL_draws 150 = .ok (.bipush 20, 2) := by decide +kernel
theorem dL_draws_152 : decode cL_draws 152 = .ok (.ishr, 1) := by decide +kernel
theorem dL_draws_153 : decode cL_draws 153 = .ok (.bipush 31, 2) := by decide +kernel
theorem dL_draws_155 : decode cL_draws 155 = .ok (.iand, 1) := by decide +kernel
theorem dL_draws_156 : decode cL_draws 156 = .ok (.bipush 14, 2) := by decide +kernel
theorem dL_draws_158 : decode cL_draws 158 = .ok (.isub, 1) := by decide +kernel
theorem dL_draws_159 : decode cL_draws 159 = .ok (.iastore, 1) := by decide +kernel
theorem dL_draws_160 : decode cL_draws 160 = .ok (.aload_n 1, 1) := by decide +kernel
theorem dL_draws_161 : decode cL_draws 161 = .ok (.bipush 8, 2) := by decide +kernel
theorem dL_draws_163 : decode cL_draws 163 = .ok (.bipush 6, 2) := by decide +kernel
theorem dL_draws_165 : decode cL_draws 165 = .ok (.iload_n 3, 1) := by decide +kernel
theorem dL_draws_166 : decode cL_draws 166 = .ok (.imul, 1) := by decide +kernel
theorem dL_draws_167 : decode cL_draws 167 = .ok (.iadd, 1) := by decide +kernel
theorem dL_draws_168 : decode cL_draws 168 = .ok (.iload 4, 2) := by decide +kernel
theorem dL_draws_170 : decode cL_draws 170 = .ok (.bipush 8, 2) := by decide +kernel
theorem dL_draws_172 : decode cL_draws 172 = .ok (.ishr, 1) := by decide +kernel
theorem dL_draws_173 : decode cL_draws 173 = .ok (.bipush 7, 2) := by decide +kernel
theorem dL_draws_175 : decode cL_draws 175 = .ok (.iand, 1) := by decide +kernel
theorem dL_draws_176 : decode cL_draws 176 = .ok (.iconst 5, 1) := by decide +kernel
theorem dL_draws_177 : decode cL_draws 177 = .ok (.irem, 1) := by decide +kernel
theorem dL_draws_178 : decode cL_draws 178 = .ok (.iastore, 1) := by decide +kernel
theorem dL_draws_179 : decode cL_draws 179 = .ok (.iinc 3 1, 3) := by decide +kernel
theorem dL_draws_182 : decode cL_draws 182 = .ok (.goto (-144), 3) := by decide +kernel
theorem dL_draws_185 : decode cL_draws 185 = .ok (.return_, 1) := by decide +kernel
set_option maxRecDepth 20000 in
theorem ggL_says_X10_type : GoodIn wsL_says wsX10_type := goodIn_r _ [5, 6, 7, 8, 9, 10, 11, 4, 12, 13, 14, 15, 16, 17, 18, 19, 20, 21, 22, 23, 28, 29, 30, 31, 32, 33, 34, 35, 36, 37, 38, 39, 40] (by decide +kernel) (by decide +kernel)
set_option maxRecDepth 20000 in
theorem gL_says_X10_type : GoodIn wsL_says (wsV RL 15 RX10 yX10_type wsX10_type) := goodIn_app (goodIn_of _ (by decide +kernel)) ggL_says_X10_type
set_option maxRecDepth 20000 in
theorem ggL_says_L_sign : GoodIn wsL_says wsL_sign := goodIn_r _ [27] (by decide +kernel) (by decide +kernel)
set_option maxRecDepth 20000 in
theorem gL_says_L_sign : GoodIn wsL_says (va_wsS RL 21 yL_sign wsL_sign) := goodIn_app (goodIn_of _ (by decide +kernel)) ggL_says_L_sign
theorem dL_says_0 : decode cL_says 0 = .ok (.iconst 1, 1) := by decide +kernel
theorem dL_says_1 : decode cL_says 1 = .ok (.istore_n 3, 1) := by decide +kernel
theorem dL_says_2 : decode cL_says 2 = .ok (.iconst 0, 1) := by decide +kernel
theorem dL_says_3 : decode cL_says 3 = .ok (.istore 4, 2) := by decide +kernel
theorem dL_says_5 : decode cL_says 5 = .ok (.iload 4, 2) := by decide +kernel
theorem dL_says_7 : decode cL_says 7 = .ok (.iconst 5, 1) := by decide +kernel
theorem dL_says_8 : decode cL_says 8 = .ok (.if_icmp .ge 144, 3) := by decide +kernel
theorem dL_says_11 : decode cL_says 11 = .ok (.iload_n 3, 1) := by decide +kernel
theorem dL_says_12 : decode cL_says 12 = .ok (.ifCond .eq 140, 3) := by decide +kernel
theorem dL_says_15 : decode cL_says 15 = .ok (.aload_n 1, 1) := by decide +kernel
theorem dL_says_16 : decode cL_says 16 = .ok (.iconst 3, 1) := by decide +kernel
theorem dL_says_17 : decode cL_says 17 = .ok (.bipush 6, 2) := by decide +kernel
theorem dL_says_19 : decode cL_says 19 = .ok (.iload_n 2, 1) := by decide +kernel
theorem dL_says_20 : decode cL_says 20 = .ok (.imul, 1) := by decide +kernel
theorem dL_says_21 : decode cL_says 21 = .ok (.iadd, 1) := by decide +kernel
theorem dL_says_22 : decode cL_says 22 = .ok (.iload 4, 2) := by decide +kernel
theorem dL_says_24 : decode cL_says 24 = .ok (.iadd, 1) := by decide +kernel
theorem dL_says_25 : decode cL_says 25 = .ok (.iaload, 1) := by decide +kernel
theorem dL_says_26 : decode cL_says 26 = .ok (.istore 5, 2) := by decide +kernel
theorem dL_says_28 : decode cL_says 28 = .ok (.iload 5, 2) := by decide +kernel
theorem dL_says_30 : decode cL_says 30 = .ok (.ifCond .ge 9, 3) := by decide +kernel
theorem dL_says_33 : decode cL_says 33 = .ok (.iload 5, 2) := by decide +kernel
theorem dL_says_35 : decode cL_says 35 = .ok (.ineg, 1) := by decide +kernel
theorem dL_says_36 : decode cL_says 36 = .ok (.goto 5, 3) := by decide +kernel
theorem dL_says_39 : decode cL_says 39 = .ok (.iload 5, 2) := by decide +kernel
theorem dL_says_41 : decode cL_says 41 = .ok (.istore 6, 2) := by decide +kernel
theorem dL_says_43 : decode cL_says 43 = .ok (.iload 5, 2) := by decide +kernel
theorem dL_says_45 : decode cL_says 45 = .ok (.ifCond .ne 9, 3) := by decide +kernel
theorem dL_says_48 : decode cL_says 48 = .ok (.iload 4, 2) := by decide +kernel
theorem dL_says_50 : decode cL_says 50 = .ok (.iconst 4, 1) := by decide +kernel
theorem dL_says_51 : decode cL_says 51 = .ok (.if_icmp .ne 95, 3) := by decide +kernel
theorem dL_says_54 : decode cL_says 54 = .ok (.aload_n 0, 1) := by decide +kernel
theorem dL_says_55 : decode cL_says 55 = .ok (.iload 5, 2) := by decide +kernel
theorem dL_says_57 : decode cL_says 57 = .ok (.ifCond .ge 8, 3) := by decide +kernel
theorem dL_says_60 : decode cL_says 60 = .ok (.bipush 45, 2) := by decide +kernel
theorem dL_says_62 : decode cL_says 62 = .ok (.goto 5, 3) := by decide +kernel
theorem dL_says_65 : decode cL_says 65 = .ok (.bipush 43, 2) := by decide +kernel
theorem dL_says_67 : decode cL_says 67 = .ok (.invokevirtual 15, 3) := by decide +kernel
theorem dL_says_70 : decode cL_says 70 = .ok (.ifCond .le 74, 3) := by decide +kernel
theorem dL_says_73 : decode cL_says 73 = .ok (.iload 6, 2) := by decide +kernel
theorem dL_says_75 : decode cL_says 75 = .ok (.bipush 10, 2) := by decide +kernel
theorem dL_says_77 : decode cL_says 77 = .ok (.if_icmp .lt 18, 3) := by decide +kernel
theorem dL_says_80 : decode cL_says 80 = .ok (.aload_n 0, 1) := by decide +kernel
theorem dL_says_81 : decode cL_says 81 = .ok (.bipush 48, 2) := by decide +kernel
theorem dL_says_83 : decode cL_says 83 = .ok (.iload 6, 2) := by decide +kernel
theorem dL_says_85 : decode cL_says 85 = .ok (.bipush 10, 2) := by decide +kernel
theorem dL_says_87 : decode cL_says 87 = .ok (.idiv, 1) := by decide +kernel
theorem dL_says_88 : decode cL_says 88 = .ok (.iadd, 1) := by decide +kernel
theorem dL_says_89 : decode cL_says 89 = .ok (.invokevirtual 15, 3) := by decide +kernel
theorem dL_says_92 : decode cL_says 92 = .ok (.ifCond .le 52, 3) := by decide +kernel
theorem dL_says_95 : decode cL_says 95 = .ok (.iload 4, 2) := by decide +kernel
theorem dL_says_97 : decode cL_says 97 = .ok (.iconst 4, 1) := by decide +kernel
theorem dL_says_98 : decode cL_says 98 = .ok (.if_icmp .ge 9, 3) := by decide +kernel
theorem dL_says_101 : decode cL_says 101 = .ok (.iload 6, 2) := by decide +kernel
theorem dL_says_103 : decode cL_says 103 = .ok (.iconst 1, 1) := by decide +kernel
theorem dL_says_104 : decode cL_says 104 = .ok (.if_icmp .eq 18, 3) := by decide +kernel
theorem dL_says_107 : decode cL_says 107 = .ok (.aload_n 0, 1) := by decide +kernel
theorem dL_says_108 : decode cL_says 108 = .ok (.bipush 48, 2) := by decide +kernel
theorem dL_says_110 : decode cL_says 110 = .ok (.iload 6, 2) := by decide +kernel
theorem dL_says_112 : decode cL_says 112 = .ok (.bipush 10, 2) := by decide +kernel
theorem dL_says_114 : decode cL_says 114 = .ok (.irem, 1) := by decide +kernel
theorem dL_says_115 : decode cL_says 115 = .ok (.iadd, 1) := by decide +kernel
theorem dL_says_116 : decode cL_says 116 = .ok (.invokevirtual 15, 3) := by decide +kernel
theorem dL_says_119 : decode cL_says 119 = .ok (.ifCond .le 25, 3) := by decide +kernel
theorem dL_says_122 : decode cL_says 122 = .ok (.iload 4, 2) := by decide +kernel
theorem dL_says_124 : decode cL_says 124 = .ok (.iconst 4, 1) := by decide +kernel
theorem dL_says_125 : decode cL_says 125 = .ok (.if_icmp .eq 15, 3) := by decide +kernel
theorem dL_says_128 : decode cL_says 128 = .ok (.aload_n 0, 1) := by decide +kernel
theorem dL_says_129 : decode cL_says 129 = .ok (.bipush 97, 2) := by decide +kernel
theorem dL_says_131 : decode cL_says 131 = .ok (.iload 4, 2) := by decide +kernel
theorem dL_says_133 : decode cL_says 133 = .ok (.iadd, 1) := by decide +kernel
theorem dL_says_134 : decode cL_says 134 = .ok (.invokevirtual 15, 3) := by decide +kernel
theorem dL_says_137 : decode cL_says 137 = .ok (.ifCond .le 7, 3) := by decide +kernel
theorem dL_says_140 : decode cL_says 140 = .ok (.iconst 1, 1) := by decide +kernel
theorem dL_says_141 : decode cL_says 141 = .ok (.goto 4, 3) := by decide +kernel
theorem dL_says_144 : decode cL_says 144 = .ok (.iconst 0, 1) := by decide +kernel
theorem dL_says_145 : decode cL_says 145 = .ok (.istore_n 3, 1) := by decide +kernel
theorem dL_says_146 : decode cL_says 146 = .ok (.iinc 4 1, 3) := by decide +kernel
theorem dL_says_149 : decode cL_says 149 = .ok (.goto (-144), 3) := by decide +kernel
theorem dL_says_152 : decode cL_says 152 = .ok (.iload_n 3, 1) := by decide +kernel
theorem dL_says_153 : decode cL_says 153 = .ok (.ifCond .eq 26, 3) := by decide +kernel
theorem dL_says_156 : decode cL_says 156 = .ok (.aload_n 0, 1) := by decide +kernel
theorem dL_says_157 : decode cL_says 157 = .ok (.aload_n 1, 1) := by decide +kernel
theorem dL_says_158 : decode cL_says 158 = .ok (.bipush 8, 2) := by decide +kernel
theorem dL_says_160 : decode cL_says 160 = .ok (.bipush 6, 2) := by decide +kernel
theorem dL_says_162 : decode cL_says 162 = .ok (.iload_n 2, 1) := by decide +kernel
theorem dL_says_163 : decode cL_says 163 = .ok (.imul, 1) := by decide +kernel
theorem dL_says_164 : decode cL_says 164 = .ok (.iadd, 1) := by decide +kernel
theorem dL_says_165 : decode cL_says 165 = .ok (.iaload, 1) := by decide +kernel
theorem dL_says_166 : decode cL_says 166 = .ok (.invokestatic 21, 3) := by decide +kernel
theorem dL_says_169 : decode cL_says 169 = .ok (.invokevirtual 15, 3) := by decide +kernel
theorem dL_says_172 : decode cL_says 172 = .ok (.ifCond .le 7, 3) := by decide +kernel
theorem dL_says_175 : decode cL_says 175 = .ok (.iconst 1, 1) := by decide +kernel
theorem dL_says_176 : decode cL_says 176 = .ok (.goto 4, 3) := by decide +kernel
theorem dL_says_179 : decode cL_says 179 = .ok (.iconst 0, 1) := by decide +kernel
theorem dL_says_180 : decode cL_says 180 = .ok (.ireturn, 1) := by decide +kernel
set_option maxRecDepth 20000 in
theorem ggL_lays_X10_type : GoodIn wsL_lays wsX10_type := goodIn_r _ [5, 6, 7, 8, 9, 10, 11, 4, 12, 13, 14, 15, 16, 17, 18, 19, 20, 21, 22, 23, 104, 105, 106, 107, 108, 109, 110, 111, 112, 113, 114, 115, 116] (by decide +kernel) (by decide +kernel)
set_option maxRecDepth 20000 in
theorem gL_lays_X10_type : GoodIn wsL_lays (wsV RL 15 RX10 yX10_type wsX10_type) := goodIn_app (goodIn_of _ (by decide +kernel)) ggL_lays_X10_type
set_option maxRecDepth 20000 in
theorem ggL_lays_L_says : GoodIn wsL_lays wsL_says := goodIn_r _ [27, 1, 2, 3, 4, 5, 6, 7, 8, 9, 10, 11, 12, 13, 14, 15, 16, 17, 18, 19, 20, 21, 22, 23, 28, 29, 26, 30, 104, 105, 106, 107, 108, 109, 110, 111, 112, 113, 114, 115, 116] (by decide +kernel) (by decide +kernel)
set_option maxRecDepth 20000 in
theorem gL_lays_L_says : GoodIn wsL_lays (va_wsS RL 24 yL_says wsL_says) := goodIn_app (goodIn_of _ (by decide +kernel)) ggL_lays_L_says
set_option maxRecDepth 20000 in
theorem ggL_lays_X10_system : GoodIn wsL_lays wsX10_system := goodIn_r _ [34, 7, 35, 36, 9, 37, 38, 39, 40, 41, 42, 43, 16, 44, 45, 46, 47, 48, 49, 50, 51, 18, 23, 11, 4, 12, 52, 53, 54, 55, 56, 57, 58, 59, 60, 61, 62, 63, 64, 65, 66, 67, 68, 69, 70, 71, 72, 73, 74, 75, 76, 77, 78, 79, 80, 81, 82, 83, 84, 85, 86, 87, 88, 89, 90, 91, 92, 93, 94, 95, 96, 97, 98, 99, 100, 101, 102, 103, 104, 105, 106, 107, 108, 109, 110, 111, 112, 113, 114, 115, 116, 117, 118, 119, 120, 121, 122, 123, 124] (by decide +kernel) (by decide +kernel)
set_option maxRecDepth 20000 in
theorem gL_lays_X10_system : GoodIn wsL_lays (wsV RL 28 RX10 yX10_system wsX10_system) := goodIn_app (goodIn_of _ (by decide +kernel)) ggL_lays_X10_system
theorem dL_lays_0 : decode cL_lays 0 = .ok (.aload_n 0, 1) := by decide +kernel
theorem dL_lays_1 : decode cL_lays 1 = .ok (.bipush 48, 2) := by decide +kernel
theorem dL_lays_3 : decode cL_lays 3 = .ok (.aload_n 1, 1) := by decide +kernel
theorem dL_lays_4 : decode cL_lays 4 = .ok (.iconst 1, 1) := by decide +kernel
theorem dL_lays_5 : decode cL_lays 5 = .ok (.iaload, 1) := by decide +kernel
theorem dL_lays_6 : decode cL_lays 6 = .ok (.iadd, 1) := by decide +kernel
theorem dL_lays_7 : decode cL_lays 7 = .ok (.invokevirtual 15, 3) := by decide +kernel
theorem dL_lays_10 : decode cL_lays 10 = .ok (.ifCond .le 7, 3) := by decide +kernel
theorem dL_lays_13 : decode cL_lays 13 = .ok (.iconst 1, 1) := by decide +kernel
theorem dL_lays_14 : decode cL_lays 14 = .ok (.goto 4, 3) := by decide +kernel
theorem dL_lays_17 : decode cL_lays 17 = .ok (.iconst 0, 1) := by decide +kernel
theorem dL_lays_18 : decode cL_lays 18 = .ok (.istore_n 2, 1) := by decide +kernel
theorem dL_lays_19 : decode cL_lays 19 = .ok (.iconst 0, 1) := by decide +kernel
theorem dL_lays_20 : decode cL_lays 20 = .ok (.istore_n 3, 1) := by decide +kernel
theorem dL_lays_21 : decode cL_lays 21 = .ok (.iload_n 3, 1) := by decide +kernel
theorem dL_lays_22 : decode cL_lays 22 = .ok (.aload_n 1, 1) := by decide +kernel
theorem dL_lays_23 : decode cL_lays 23 = .ok (.iconst 0, 1) := by decide +kernel
theorem dL_lays_24 : decode cL_lays 24 = .ok (.iaload, 1) := by decide +kernel
theorem dL_lays_25 : decode cL_lays 25 = .ok (.if_icmp .ge 37, 3) := by decide +kernel
theorem dL_lays_28 : decode cL_lays 28 = .ok (.iload_n 2, 1) := by decide +kernel
theorem dL_lays_29 : decode cL_lays 29 = .ok (.ifCond .eq 33, 3) := by decide +kernel
theorem dL_lays_32 : decode cL_lays 32 = .ok (.aload_n 0, 1) := by decide +kernel
theorem dL_lays_33 : decode cL_lays 33 = .ok (.bipush 59, 2) := by decide +kernel
theorem dL_lays_35 : decode cL_lays 35 = .ok (.invokevirtual 15, 3) := by decide +kernel
theorem dL_lays_38 : decode cL_lays 38 = .ok (.ifCond .le 16, 3) := by decide +kernel
theorem dL_lays_41 : decode cL_lays 41 = .ok (.aload_n 0, 1) := by decide +kernel
theorem dL_lays_42 : decode cL_lays 42 = .ok (.aload_n 1, 1) := by decide +kernel
theorem dL_lays_43 : decode cL_lays 43 = .ok (.iload_n 3, 1) := by decide +kernel
theorem dL_lays_44 : decode cL_lays 44 = .ok (.invokestatic 24, 3) := by decide +kernel
theorem dL_lays_47 : decode cL_lays 47 = .ok (.ifCond .eq 7, 3) := by decide +kernel
theorem dL_lays_50 : decode cL_lays 50 = .ok (.iconst 1, 1) := by decide +kernel
theorem dL_lays_51 : decode cL_lays 51 = .ok (.goto 4, 3) := by decide +kernel
theorem dL_lays_54 : decode cL_lays 54 = .ok (.iconst 0, 1) := by decide +kernel
theorem dL_lays_55 : decode cL_lays 55 = .ok (.istore_n 2, 1) := by decide +kernel
theorem dL_lays_56 : decode cL_lays 56 = .ok (.iinc 3 1, 3) := by decide +kernel
theorem dL_lays_59 : decode cL_lays 59 = .ok (.goto (-38), 3) := by decide +kernel
theorem dL_lays_62 : decode cL_lays 62 = .ok (.iload_n 2, 1) := by decide +kernel
theorem dL_lays_63 : decode cL_lays 63 = .ok (.ifCond .eq 17, 3) := by decide +kernel
theorem dL_lays_66 : decode cL_lays 66 = .ok (.aload_n 0, 1) := by decide +kernel
theorem dL_lays_67 : decode cL_lays 67 = .ok (.invokevirtual 28, 3) := by decide +kernel
theorem dL_lays_70 : decode cL_lays 70 = .ok (.aload_n 1, 1) := by decide +kernel
theorem dL_lays_71 : decode cL_lays 71 = .ok (.iconst 0, 1) := by decide +kernel
theorem dL_lays_72 : decode cL_lays 72 = .ok (.iaload, 1) := by decide +kernel
theorem dL_lays_73 : decode cL_lays 73 = .ok (.if_icmp .ne 7, 3) := by decide +kernel
theorem dL_lays_76 : decode cL_lays 76 = .ok (.iconst 1, 1) := by decide +kernel
theorem dL_lays_77 : decode cL_lays 77 = .ok (.goto 4, 3) := by decide +kernel
theorem dL_lays_80 : decode cL_lays 80 = .ok (.iconst 0, 1) := by decide +kernel
theorem dL_lays_81 : decode cL_lays 81 = .ok (.ireturn, 1) := by decide +kernel
theorem dL_value_0 : decode cL_value 0 = .ok (.iload_n 1, 1) := by decide +kernel
theorem dL_value_1 : decode cL_value 1 = .ok (.ifCond .ne 11, 3) := by decide +kernel
theorem dL_value_4 : decode cL_value 4 = .ok (.iload_n 0, 1) := by decide +kernel
theorem dL_value_5 : decode cL_value 5 = .ok (.sipush 512, 3) := by decide +kernel
theorem dL_value_8 : decode cL_value 8 = .ok (.idiv, 1) := by decide +kernel
theorem dL_value_9 : decode cL_value 9 = .ok (.goto 37, 3) := by decide +kernel
theorem dL_value_12 : decode cL_value 12 = .ok (.iload_n 1, 1) := by decide +kernel
theorem dL_value_13 : decode cL_value 13 = .ok (.iconst 1, 1) := by decide +kernel
theorem dL_value_14 : decode cL_value 14 = .ok (.if_icmp .ne 13, 3) := by decide +kernel
theorem dL_value_17 : decode cL_value 17 = .ok (.iload_n 0, 1) := by decide +kernel
theorem dL_value_18 : decode cL_value 18 = .ok (.bipush 64, 2) := by decide +kernel
theorem dL_value_20 : decode cL_value 20 = .ok (.idiv, 1) := by decide +kernel
theorem dL_value_21 : decode cL_value 21 = .ok (.bipush 8, 2) := by decide +kernel
theorem dL_value_23 : decode cL_value 23 = .ok (.irem, 1) := by decide +kernel
theorem dL_value_24 : decode cL_value 24 = .ok (.goto 22, 3) := by decide +kernel
theorem dL_value_27 : decode cL_value 27 = .ok (.iload_n 1, 1) := by decide +kernel
theorem dL_value_28 : decode cL_value 28 = .ok (.iconst 2, 1) := by decide +kernel
theorem dL_value_29 : decode cL_value 29 = .ok (.if_icmp .ne 13, 3) := by decide +kernel
theorem dL_value_32 : decode cL_value 32 = .ok (.iload_n 0, 1) := by decide +kernel
theorem dL_value_33 : decode cL_value 33 = .ok (.bipush 8, 2) := by decide +kernel
theorem dL_value_35 : decode cL_value 35 = .ok (.idiv, 1) := by decide +kernel
theorem dL_value_36 : decode cL_value 36 = .ok (.bipush 8, 2) := by decide +kernel
theorem dL_value_38 : decode cL_value 38 = .ok (.irem, 1) := by decide +kernel
theorem dL_value_39 : decode cL_value 39 = .ok (.goto 7, 3) := by decide +kernel
theorem dL_value_42 : decode cL_value 42 = .ok (.iload_n 0, 1) := by decide +kernel
theorem dL_value_43 : decode cL_value 43 = .ok (.bipush 8, 2) := by decide +kernel
theorem dL_value_45 : decode cL_value 45 = .ok (.irem, 1) := by decide +kernel
theorem dL_value_46 : decode cL_value 46 = .ok (.ireturn, 1) := by decide +kernel
theorem dL_sum_0 : decode cL_sum 0 = .ok (.iconst 3, 1) := by decide +kernel
theorem dL_sum_1 : decode cL_sum 1 = .ok (.bipush 6, 2) := by decide +kernel
theorem dL_sum_3 : decode cL_sum 3 = .ok (.iload_n 1, 1) := by decide +kernel
theorem dL_sum_4 : decode cL_sum 4 = .ok (.imul, 1) := by decide +kernel
theorem dL_sum_5 : decode cL_sum 5 = .ok (.iadd, 1) := by decide +kernel
theorem dL_sum_6 : decode cL_sum 6 = .ok (.istore_n 3, 1) := by decide +kernel
theorem dL_sum_7 : decode cL_sum 7 = .ok (.aload_n 0, 1) := by decide +kernel
theorem dL_sum_8 : decode cL_sum 8 = .ok (.iload_n 3, 1) := by decide +kernel
theorem dL_sum_9 : decode cL_sum 9 = .ok (.iaload, 1) := by decide +kernel
theorem dL_sum_10 : decode cL_sum 10 = .ok (.iload_n 2, 1) := by decide +kernel
theorem dL_sum_11 : decode cL_sum 11 = .ok (.sipush 512, 3) := by decide +kernel
theorem dL_sum_14 : decode cL_sum 14 = .ok (.idiv, 1) := by decide +kernel
theorem dL_sum_15 : decode cL_sum 15 = .ok (.imul, 1) := by decide +kernel
theorem dL_sum_16 : decode cL_sum 16 = .ok (.aload_n 0, 1) := by decide +kernel
theorem dL_sum_17 : decode cL_sum 17 = .ok (.iload_n 3, 1) := by decide +kernel
theorem dL_sum_18 : decode cL_sum 18 = .ok (.iconst 1, 1) := by decide +kernel
theorem dL_sum_19 : decode cL_sum 19 = .ok (.iadd, 1) := by decide +kernel
theorem dL_sum_20 : decode cL_sum 20 = .ok (.iaload, 1) := by decide +kernel
theorem dL_sum_21 : decode cL_sum 21 = .ok (.iload_n 2, 1) := by decide +kernel
theorem dL_sum_22 : decode cL_sum 22 = .ok (.bipush 64, 2) := by decide +kernel
theorem dL_sum_24 : decode cL_sum 24 = .ok (.idiv, 1) := by decide +kernel
theorem dL_sum_25 : decode cL_sum 25 = .ok (.bipush 8, 2) := by decide +kernel
theorem dL_sum_27 : decode cL_sum 27 = .ok (.irem, 1) := by decide +kernel
theorem dL_sum_28 : decode cL_sum 28 = .ok (.imul, 1) := by decide +kernel
theorem dL_sum_29 : decode cL_sum 29 = .ok (.iadd, 1) := by decide +kernel
theorem dL_sum_30 : decode cL_sum 30 = .ok (.aload_n 0, 1) := by decide +kernel
theorem dL_sum_31 : decode cL_sum 31 = .ok (.iload_n 3, 1) := by decide +kernel
theorem dL_sum_32 : decode cL_sum 32 = .ok (.iconst 2, 1) := by decide +kernel
theorem dL_sum_33 : decode cL_sum 33 = .ok (.iadd, 1) := by decide +kernel
theorem dL_sum_34 : decode cL_sum 34 = .ok (.iaload, 1) := by decide +kernel
theorem dL_sum_35 : decode cL_sum 35 = .ok (.iload_n 2, 1) := by decide +kernel
theorem dL_sum_36 : decode cL_sum 36 = .ok (.bipush 8, 2) := by decide +kernel
theorem dL_sum_38 : decode cL_sum 38 = .ok (.idiv, 1) := by decide +kernel
theorem dL_sum_39 : decode cL_sum 39 = .ok (.bipush 8, 2) := by decide +kernel
theorem dL_sum_41 : decode cL_sum 41 = .ok (.irem, 1) := by decide +kernel
theorem dL_sum_42 : decode cL_sum 42 = .ok (.imul, 1) := by decide +kernel
theorem dL_sum_43 : decode cL_sum 43 = .ok (.iadd, 1) := by decide +kernel
theorem dL_sum_44 : decode cL_sum 44 = .ok (.aload_n 0, 1) := by decide +kernel
theorem dL_sum_45 : decode cL_sum 45 = .ok (.iload_n 3, 1) := by decide +kernel
theorem dL_sum_46 : decode cL_sum 46 = .ok (.iconst 3, 1) := by decide +kernel
theorem dL_sum_47 : decode cL_sum 47 = .ok (.iadd, 1) := by decide +kernel
theorem dL_sum_48 : decode cL_sum 48 = .ok (.iaload, 1) := by decide +kernel
theorem dL_sum_49 : decode cL_sum 49 = .ok (.iload_n 2, 1) := by decide +kernel
theorem dL_sum_50 : decode cL_sum 50 = .ok (.bipush 8, 2) := by decide +kernel
theorem dL_sum_52 : decode cL_sum 52 = .ok (.irem, 1) := by decide +kernel
theorem dL_sum_53 : decode cL_sum 53 = .ok (.imul, 1) := by decide +kernel
theorem dL_sum_54 : decode cL_sum 54 = .ok (.iadd, 1) := by decide +kernel
theorem dL_sum_55 : decode cL_sum 55 = .ok (.aload_n 0, 1) := by decide +kernel
theorem dL_sum_56 : decode cL_sum 56 = .ok (.iload_n 3, 1) := by decide +kernel
theorem dL_sum_57 : decode cL_sum 57 = .ok (.iconst 4, 1) := by decide +kernel
theorem dL_sum_58 : decode cL_sum 58 = .ok (.iadd, 1) := by decide +kernel
theorem dL_sum_59 : decode cL_sum 59 = .ok (.iaload, 1) := by decide +kernel
theorem dL_sum_60 : decode cL_sum 60 = .ok (.iadd, 1) := by decide +kernel
theorem dL_sum_61 : decode cL_sum 61 = .ok (.ireturn, 1) := by decide +kernel
theorem dL_so_0 : decode cL_so 0 = .ok (.iload_n 0, 1) := by decide +kernel
theorem dL_so_1 : decode cL_so 1 = .ok (.ifCond .ne 16, 3) := by decide +kernel
theorem dL_so_4 : decode cL_so 4 = .ok (.iload_n 1, 1) := by decide +kernel
theorem dL_so_5 : decode cL_so 5 = .ok (.iconst (-1), 1) := by decide +kernel
theorem dL_so_6 : decode cL_so 6 = .ok (.if_icmp .le 7, 3) := by decide +kernel
theorem dL_so_9 : decode cL_so 9 = .ok (.iconst 1, 1) := by decide +kernel
theorem dL_so_10 : decode cL_so 10 = .ok (.goto 70, 3) := by decide +kernel
theorem dL_so_13 : decode cL_so 13 = .ok (.iconst 0, 1) := by decide +kernel
theorem dL_so_14 : decode cL_so 14 = .ok (.goto 66, 3) := by decide +kernel
theorem dL_so_17 : decode cL_so 17 = .ok (.iload_n 0, 1) := by decide +kernel
theorem dL_so_18 : decode cL_so 18 = .ok (.iconst 1, 1) := by decide +kernel
theorem dL_so_19 : decode cL_so 19 = .ok (.if_icmp .ne 16, 3) := by decide +kernel
theorem dL_so_22 : decode cL_so 22 = .ok (.iload_n 1, 1) := by decide +kernel
theorem dL_so_23 : decode cL_so 23 = .ok (.iconst 1, 1) := by decide +kernel
theorem dL_so_24 : decode cL_so 24 = .ok (.if_icmp .ge 7, 3) := by decide +kernel
theorem dL_so_27 : decode cL_so 27 = .ok (.iconst 1, 1) := by decide +kernel
theorem dL_so_28 : decode cL_so 28 = .ok (.goto 52, 3) := by decide +kernel
theorem dL_so_31 : decode cL_so 31 = .ok (.iconst 0, 1) := by decide +kernel
theorem dL_so_32 : decode cL_so 32 = .ok (.goto 48, 3) := by decide +kernel
theorem dL_so_35 : decode cL_so 35 = .ok (.iload_n 0, 1) := by decide +kernel
theorem dL_so_36 : decode cL_so 36 = .ok (.iconst 2, 1) := by decide +kernel
theorem dL_so_37 : decode cL_so 37 = .ok (.if_icmp .ne 15, 3) := by decide +kernel
theorem dL_so_40 : decode cL_so 40 = .ok (.iload_n 1, 1) := by decide +kernel
theorem dL_so_41 : decode cL_so 41 = .ok (.ifCond .ne 7, 3) := by decide +kernel
theorem dL_so_44 : decode cL_so 44 = .ok (.iconst 1, 1) := by decide +kernel
theorem dL_so_45 : decode cL_so 45 = .ok (.goto 35, 3) := by decide +kernel
theorem dL_so_48 : decode cL_so 48 = .ok (.iconst 0, 1) := by decide +kernel
theorem dL_so_49 : decode cL_so 49 = .ok (.goto 31, 3) := by decide +kernel
theorem dL_so_52 : decode cL_so 52 = .ok (.iload_n 0, 1) := by decide +kernel
theorem dL_so_53 : decode cL_so 53 = .ok (.iconst 3, 1) := by decide +kernel
theorem dL_so_54 : decode cL_so 54 = .ok (.if_icmp .ne 15, 3) := by decide +kernel
theorem dL_so_57 : decode cL_so 57 = .ok (.iload_n 1, 1) := by decide +kernel
theorem dL_so_58 : decode cL_so 58 = .ok (.ifCond .eq 7, 3) := by decide +kernel
theorem dL_so_61 : decode cL_so 61 = .ok (.iconst 1, 1) := by decide +kernel
theorem dL_so_62 : decode cL_so 62 = .ok (.goto 18, 3) := by decide +kernel
theorem dL_so_65 : decode cL_so 65 = .ok (.iconst 0, 1) := by decide +kernel
theorem dL_so_66 : decode cL_so 66 = .ok (.goto 14, 3) := by decide +kernel
theorem dL_so_69 : decode cL_so 69 = .ok (.iload_n 1, 1) := by decide +kernel
theorem dL_so_70 : decode cL_so 70 = .ok (.iconst 1, 1) := by decide +kernel
theorem dL_so_71 : decode cL_so 71 = .ok (.iand, 1) := by decide +kernel
theorem dL_so_72 : decode cL_so 72 = .ok (.ifCond .ne 7, 3) := by decide +kernel
theorem dL_so_75 : decode cL_so 75 = .ok (.iconst 1, 1) := by decide +kernel
theorem dL_so_76 : decode cL_so 76 = .ok (.goto 4, 3) := by decide +kernel
theorem dL_so_79 : decode cL_so 79 = .ok (.iconst 0, 1) := by decide +kernel
theorem dL_so_80 : decode cL_so 80 = .ok (.ireturn, 1) := by decide +kernel
set_option maxRecDepth 20000 in
theorem ggL_hold_L_sum : GoodIn wsL_hold wsL_sum := goodIn_r _ [4] (by decide +kernel) (by decide +kernel)
set_option maxRecDepth 20000 in
theorem gL_hold_L_sum : GoodIn wsL_hold (va_wsS RL 32 yL_sum wsL_sum) := goodIn_app (goodIn_of _ (by decide +kernel)) ggL_hold_L_sum
set_option maxRecDepth 20000 in
theorem ggL_hold_L_so : GoodIn wsL_hold wsL_so := goodIn_r _ [7] (by decide +kernel) (by decide +kernel)
set_option maxRecDepth 20000 in
theorem gL_hold_L_so : GoodIn wsL_hold (va_wsS RL 36 yL_so wsL_so) := goodIn_app (goodIn_of _ (by decide +kernel)) ggL_hold_L_so
theorem dL_hold_0 : decode cL_hold 0 = .ok (.iconst 0, 1) := by decide +kernel
theorem dL_hold_1 : decode cL_hold 1 = .ok (.istore_n 2, 1) := by decide +kernel
theorem dL_hold_2 : decode cL_hold 2 = .ok (.iconst 0, 1) := by decide +kernel
theorem dL_hold_3 : decode cL_hold 3 = .ok (.istore_n 3, 1) := by decide +kernel
theorem dL_hold_4 : decode cL_hold 4 = .ok (.iload_n 3, 1) := by decide +kernel
theorem dL_hold_5 : decode cL_hold 5 = .ok (.aload_n 0, 1) := by decide +kernel
theorem dL_hold_6 : decode cL_hold 6 = .ok (.iconst 0, 1) := by decide +kernel
theorem dL_hold_7 : decode cL_hold 7 = .ok (.iaload, 1) := by decide +kernel
theorem dL_hold_8 : decode cL_hold 8 = .ok (.if_icmp .ge 40, 3) := by decide +kernel
theorem dL_hold_11 : decode cL_hold 11 = .ok (.iload_n 2, 1) := by decide +kernel
theorem dL_hold_12 : decode cL_hold 12 = .ok (.aload_n 0, 1) := by decide +kernel
theorem dL_hold_13 : decode cL_hold 13 = .ok (.bipush 8, 2) := by decide +kernel
theorem dL_hold_15 : decode cL_hold 15 = .ok (.bipush 6, 2) := by decide +kernel
theorem dL_hold_17 : decode cL_hold 17 = .ok (.iload_n 3, 1) := by decide +kernel
theorem dL_hold_18 : decode cL_hold 18 = .ok (.imul, 1) := by decide +kernel
theorem dL_hold_19 : decode cL_hold 19 = .ok (.iadd, 1) := by decide +kernel
theorem dL_hold_20 : decode cL_hold 20 = .ok (.iaload, 1) := by decide +kernel
theorem dL_hold_21 : decode cL_hold 21 = .ok (.aload_n 0, 1) := by decide +kernel
theorem dL_hold_22 : decode cL_hold 22 = .ok (.iload_n 3, 1) := by decide +kernel
theorem dL_hold_23 : decode cL_hold 23 = .ok (.iload_n 1, 1) := by decide +kernel
theorem dL_hold_24 : decode cL_hold 24 = .ok (.invokestatic 32, 3) := by decide +kernel
theorem dL_hold_27 : decode cL_hold 27 = .ok (.invokestatic 36, 3) := by decide +kernel
theorem dL_hold_30 : decode cL_hold 30 = .ok (.ifCond .eq 9, 3) := by decide +kernel
theorem dL_hold_33 : decode cL_hold 33 = .ok (.iconst 1, 1) := by decide +kernel
theorem dL_hold_34 : decode cL_hold 34 = .ok (.iload_n 3, 1) := by decide +kernel
theorem dL_hold_35 : decode cL_hold 35 = .ok (.ishl, 1) := by decide +kernel
theorem dL_hold_36 : decode cL_hold 36 = .ok (.goto 4, 3) := by decide +kernel
theorem dL_hold_39 : decode cL_hold 39 = .ok (.iconst 0, 1) := by decide +kernel
theorem dL_hold_40 : decode cL_hold 40 = .ok (.ior, 1) := by decide +kernel
theorem dL_hold_41 : decode cL_hold 41 = .ok (.istore_n 2, 1) := by decide +kernel
theorem dL_hold_42 : decode cL_hold 42 = .ok (.iinc 3 1, 3) := by decide +kernel
theorem dL_hold_45 : decode cL_hold 45 = .ok (.goto (-41), 3) := by decide +kernel
theorem dL_hold_48 : decode cL_hold 48 = .ok (.iload_n 2, 1) := by decide +kernel
theorem dL_hold_49 : decode cL_hold 49 = .ok (.ireturn, 1) := by decide +kernel
theorem dL_next_0 : decode cL_next 0 = .ok (.iload_n 1, 1) := by decide +kernel
theorem dL_next_1 : decode cL_next 1 = .ok (.iconst 1, 1) := by decide +kernel
theorem dL_next_2 : decode cL_next 2 = .ok (.iadd, 1) := by decide +kernel
theorem dL_next_3 : decode cL_next 3 = .ok (.istore_n 2, 1) := by decide +kernel
theorem dL_next_4 : decode cL_next 4 = .ok (.iload_n 2, 1) := by decide +kernel
theorem dL_next_5 : decode cL_next 5 = .ok (.sipush 4096, 3) := by decide +kernel
theorem dL_next_8 : decode cL_next 8 = .ok (.if_icmp .ge 56, 3) := by decide +kernel
theorem dL_next_11 : decode cL_next 11 = .ok (.iload_n 2, 1) := by decide +kernel
theorem dL_next_12 : decode cL_next 12 = .ok (.sipush 512, 3) := by decide +kernel
theorem dL_next_15 : decode cL_next 15 = .ok (.idiv, 1) := by decide +kernel
theorem dL_next_16 : decode cL_next 16 = .ok (.aload_n 0, 1) := by decide +kernel
theorem dL_next_17 : decode cL_next 17 = .ok (.iconst 1, 1) := by decide +kernel
theorem dL_next_18 : decode cL_next 18 = .ok (.iaload, 1) := by decide +kernel
theorem dL_next_19 : decode cL_next 19 = .ok (.if_icmp .gt 39, 3) := by decide +kernel
theorem dL_next_22 : decode cL_next 22 = .ok (.iload_n 2, 1) := by decide +kernel
theorem dL_next_23 : decode cL_next 23 = .ok (.bipush 64, 2) := by decide +kernel
theorem dL_next_25 : decode cL_next 25 = .ok (.idiv, 1) := by decide +kernel
theorem dL_next_26 : decode cL_next 26 = .ok (.bipush 8, 2) := by decide +kernel
theorem dL_next_28 : decode cL_next 28 = .ok (.irem, 1) := by decide +kernel
theorem dL_next_29 : decode cL_next 29 = .ok (.aload_n 0, 1) := by decide +kernel
theorem dL_next_30 : decode cL_next 30 = .ok (.iconst 1, 1) := by decide +kernel
theorem dL_next_31 : decode cL_next 31 = .ok (.iaload, 1) := by decide +kernel
theorem dL_next_32 : decode cL_next 32 = .ok (.if_icmp .gt 26, 3) := by decide +kernel
theorem dL_next_35 : decode cL_next 35 = .ok (.iload_n 2, 1) := by decide +kernel
theorem dL_next_36 : decode cL_next 36 = .ok (.bipush 8, 2) := by decide +kernel
theorem dL_next_38 : decode cL_next 38 = .ok (.idiv, 1) := by decide +kernel
theorem dL_next_39 : decode cL_next 39 = .ok (.bipush 8, 2) := by decide +kernel
theorem dL_next_41 : decode cL_next 41 = .ok (.irem, 1) := by decide +kernel
theorem dL_next_42 : decode cL_next 42 = .ok (.aload_n 0, 1) := by decide +kernel
theorem dL_next_43 : decode cL_next 43 = .ok (.iconst 1, 1) := by decide +kernel
theorem dL_next_44 : decode cL_next 44 = .ok (.iaload, 1) := by decide +kernel
theorem dL_next_45 : decode cL_next 45 = .ok (.if_icmp .gt 13, 3) := by decide +kernel
theorem dL_next_48 : decode cL_next 48 = .ok (.iload_n 2, 1) := by decide +kernel
theorem dL_next_49 : decode cL_next 49 = .ok (.bipush 8, 2) := by decide +kernel
theorem dL_next_51 : decode cL_next 51 = .ok (.irem, 1) := by decide +kernel
theorem dL_next_52 : decode cL_next 52 = .ok (.aload_n 0, 1) := by decide +kernel
theorem dL_next_53 : decode cL_next 53 = .ok (.iconst 1, 1) := by decide +kernel
theorem dL_next_54 : decode cL_next 54 = .ok (.iaload, 1) := by decide +kernel
theorem dL_next_55 : decode cL_next 55 = .ok (.if_icmp .le 9, 3) := by decide +kernel
theorem dL_next_58 : decode cL_next 58 = .ok (.iinc 2 1, 3) := by decide +kernel
theorem dL_next_61 : decode cL_next 61 = .ok (.goto (-57), 3) := by decide +kernel
theorem dL_next_64 : decode cL_next 64 = .ok (.iload_n 2, 1) := by decide +kernel
theorem dL_next_65 : decode cL_next 65 = .ok (.ireturn, 1) := by decide +kernel
set_option maxRecDepth 20000 in
theorem ggL_points_L_next : GoodIn wsL_points wsL_next := goodIn_r _ [4] (by decide +kernel) (by decide +kernel)
set_option maxRecDepth 20000 in
theorem gL_points_L_next : GoodIn wsL_points (va_wsS RL 40 yL_next wsL_next) := goodIn_app (goodIn_of _ (by decide +kernel)) ggL_points_L_next
set_option maxRecDepth 20000 in
theorem ggL_points_L_hold : GoodIn wsL_points wsL_hold := goodIn_r _ [7, 8, 9, 3, 10, 11, 12, 13] (by decide +kernel) (by decide +kernel)
set_option maxRecDepth 20000 in
theorem gL_points_L_hold : GoodIn wsL_points (va_wsS RL 43 yL_hold wsL_hold) := goodIn_app (goodIn_of _ (by decide +kernel)) ggL_points_L_hold
theorem dL_points_0 : decode cL_points 0 = .ok (.iconst 0, 1) := by decide +kernel
theorem dL_points_1 : decode cL_points 1 = .ok (.istore_n 2, 1) := by decide +kernel
theorem dL_points_2 : decode cL_points 2 = .ok (.aload_n 0, 1) := by decide +kernel
theorem dL_points_3 : decode cL_points 3 = .ok (.iconst (-1), 1) := by decide +kernel
theorem dL_points_4 : decode cL_points 4 = .ok (.invokestatic 40, 3) := by decide +kernel
theorem dL_points_7 : decode cL_points 7 = .ok (.istore_n 3, 1) := by decide +kernel
theorem dL_points_8 : decode cL_points 8 = .ok (.iload_n 3, 1) := by decide +kernel
theorem dL_points_9 : decode cL_points 9 = .ok (.sipush 4096, 3) := by decide +kernel
theorem dL_points_12 : decode cL_points 12 = .ok (.if_icmp .ge 31, 3) := by decide +kernel
theorem dL_points_15 : decode cL_points 15 = .ok (.iload_n 2, 1) := by decide +kernel
theorem dL_points_16 : decode cL_points 16 = .ok (.aload_n 0, 1) := by decide +kernel
theorem dL_points_17 : decode cL_points 17 = .ok (.iload_n 3, 1) := by decide +kernel
theorem dL_points_18 : decode cL_points 18 = .ok (.invokestatic 43, 3) := by decide +kernel
theorem dL_points_21 : decode cL_points 21 = .ok (.iload_n 1, 1) := by decide +kernel
theorem dL_points_22 : decode cL_points 22 = .ok (.iand, 1) := by decide +kernel
theorem dL_points_23 : decode cL_points 23 = .ok (.iload_n 1, 1) := by decide +kernel
theorem dL_points_24 : decode cL_points 24 = .ok (.if_icmp .ne 7, 3) := by decide +kernel
theorem dL_points_27 : decode cL_points 27 = .ok (.iconst 1, 1) := by decide +kernel
theorem dL_points_28 : decode cL_points 28 = .ok (.goto 4, 3) := by decide +kernel
theorem dL_points_31 : decode cL_points 31 = .ok (.iconst 0, 1) := by decide +kernel
theorem dL_points_32 : decode cL_points 32 = .ok (.iadd, 1) := by decide +kernel
theorem dL_points_33 : decode cL_points 33 = .ok (.istore_n 2, 1) := by decide +kernel
theorem dL_points_34 : decode cL_points 34 = .ok (.aload_n 0, 1) := by decide +kernel
theorem dL_points_35 : decode cL_points 35 = .ok (.iload_n 3, 1) := by decide +kernel
theorem dL_points_36 : decode cL_points 36 = .ok (.invokestatic 40, 3) := by decide +kernel
theorem dL_points_39 : decode cL_points 39 = .ok (.istore_n 3, 1) := by decide +kernel
theorem dL_points_40 : decode cL_points 40 = .ok (.goto (-32), 3) := by decide +kernel
theorem dL_points_43 : decode cL_points 43 = .ok (.iload_n 2, 1) := by decide +kernel
theorem dL_points_44 : decode cL_points 44 = .ok (.ireturn, 1) := by decide +kernel
theorem dL_all_0 : decode cL_all 0 = .ok (.iconst 1, 1) := by decide +kernel
theorem dL_all_1 : decode cL_all 1 = .ok (.aload_n 0, 1) := by decide +kernel
theorem dL_all_2 : decode cL_all 2 = .ok (.iconst 0, 1) := by decide +kernel
theorem dL_all_3 : decode cL_all 3 = .ok (.iaload, 1) := by decide +kernel
theorem dL_all_4 : decode cL_all 4 = .ok (.ishl, 1) := by decide +kernel
theorem dL_all_5 : decode cL_all 5 = .ok (.iconst 1, 1) := by decide +kernel
theorem dL_all_6 : decode cL_all 6 = .ok (.isub, 1) := by decide +kernel
theorem dL_all_7 : decode cL_all 7 = .ok (.ireturn, 1) := by decide +kernel
set_option maxRecDepth 20000 in
theorem ggL_acts_X10_add : GoodIn wsL_acts wsX10_add := goodIn_r _ [8, 9, 10, 11, 12, 13, 14, 15, 7, 16, 17, 18, 19, 20, 21, 22, 23, 24, 25, 26, 27, 28, 29, 30, 31, 32, 33, 34, 35, 36, 37, 38, 39, 40, 41, 42, 43, 44, 45, 46, 47, 48, 49, 50, 51, 159, 160, 161, 162, 163, 164, 165, 166, 167, 168, 169, 170, 171, 172, 173] (by decide +kernel) (by decide +kernel)
set_option maxRecDepth 20000 in
theorem gL_acts_X10_add : GoodIn wsL_acts (wsV RL 46 RX10 yX10_add wsX10_add) := goodIn_app (goodIn_of _ (by decide +kernel)) ggL_acts_X10_add
set_option maxRecDepth 20000 in
theorem ggL_acts_X10_drop : GoodIn wsL_acts wsX10_drop := goodIn_r _ [55, 9, 10, 11, 12, 56, 57, 58, 7, 59, 14, 15, 16, 22, 23, 24, 25, 26, 27, 28, 29, 30, 31, 32, 33, 34, 35, 36, 19, 37, 38, 39, 40, 41, 42, 60, 61, 62, 63, 51, 159, 160, 161, 162, 163, 164, 165, 166, 167, 168, 169, 170, 171, 172, 173] (by decide +kernel) (by decide +kernel)
set_option maxRecDepth 20000 in
theorem gL_acts_X10_drop : GoodIn wsL_acts (wsV RL 51 RX10 yX10_drop wsX10_drop) := goodIn_app (goodIn_of _ (by decide +kernel)) ggL_acts_X10_drop
set_option maxRecDepth 20000 in
theorem ggL_acts_X10_change : GoodIn wsL_acts wsX10_change := goodIn_r _ [67, 9, 56, 57, 58, 7, 59, 10, 11, 12, 14, 15, 16, 68, 69, 70, 71, 72, 73, 74, 75, 19, 76, 38, 22, 23, 24, 25, 26, 27, 28, 29, 30, 31, 32, 33, 34, 35, 36, 37, 39, 40, 41, 42, 77, 48, 49, 50, 51, 159, 160, 161, 162, 163, 164, 165, 166, 167, 168, 169, 170, 171, 172, 173] (by decide +kernel) (by decide +kernel)
set_option maxRecDepth 20000 in
theorem gL_acts_X10_change : GoodIn wsL_acts (wsV RL 55 RX10 yX10_change wsX10_change) := goodIn_app (goodIn_of _ (by decide +kernel)) ggL_acts_X10_change
set_option maxRecDepth 20000 in
theorem ggL_acts_X10_shape : GoodIn wsL_acts wsX10_shape := goodIn_r _ [81, 9, 56, 57, 58, 7, 59, 10, 11, 12, 14, 15, 16, 68, 69, 70, 71, 72, 73, 74, 75, 19, 76, 38, 22, 23, 24, 25, 26, 27, 28, 29, 30, 31, 32, 33, 34, 35, 36, 37, 39, 40, 41, 42, 77, 48, 49, 50, 51, 159, 160, 161, 162, 163, 164, 165, 166, 167, 168, 169, 170, 171, 172, 173] (by decide +kernel) (by decide +kernel)
set_option maxRecDepth 20000 in
theorem gL_acts_X10_shape : GoodIn wsL_acts (wsV RL 59 RX10 yX10_shape wsX10_shape) := goodIn_app (goodIn_of _ (by decide +kernel)) ggL_acts_X10_shape
set_option maxRecDepth 20000 in
theorem ggL_acts_X10_turn : GoodIn wsL_acts wsX10_turn := goodIn_r _ [85, 9, 10, 11, 86, 56, 57, 58, 7, 59, 12, 14, 15, 16, 22, 23, 24, 25, 26, 27, 28, 29, 30, 31, 32, 33, 34, 35, 36, 19, 37, 38, 39, 40, 41, 42, 87, 88, 89, 90, 91, 74, 75, 76, 47, 48, 49, 50, 51, 92, 93, 94, 95, 96, 97, 98, 99, 100, 101, 102, 103, 104, 105, 106, 107, 108, 109, 110, 111, 112, 113, 114, 115, 116, 117, 118, 119, 120, 121, 122, 123, 124, 125, 126, 127, 128, 129, 130, 159, 160, 161, 162, 163, 164, 165, 166, 167, 168, 169, 170, 171, 172, 173, 174, 175, 176, 177] (by decide +kernel) (by decide +kernel)
set_option maxRecDepth 20000 in
theorem gL_acts_X10_turn : GoodIn wsL_acts (wsV RL 63 RX10 yX10_turn wsX10_turn) := goodIn_app (goodIn_of _ (by decide +kernel)) ggL_acts_X10_turn
set_option maxRecDepth 20000 in
theorem ggL_acts_L_all : GoodIn wsL_acts wsL_all := goodIn_r _ [134] (by decide +kernel) (by decide +kernel)
set_option maxRecDepth 20000 in
theorem gL_acts_L_all : GoodIn wsL_acts (va_wsS RL 66 yL_all wsL_all) := goodIn_app (goodIn_of _ (by decide +kernel)) ggL_acts_L_all
set_option maxRecDepth 20000 in
theorem ggL_acts_L_points : GoodIn wsL_acts wsL_points := goodIn_r _ [137, 138, 139, 133, 140, 141, 142, 143, 144, 145, 146, 147, 148, 149] (by decide +kernel) (by decide +kernel)
set_option maxRecDepth 20000 in
theorem gL_acts_L_points : GoodIn wsL_acts (va_wsS RL 70 yL_points wsL_points) := goodIn_app (goodIn_of _ (by decide +kernel)) ggL_acts_L_points
set_option maxRecDepth 20000 in
theorem ggL_acts_X10_call : GoodIn wsL_acts wsX10_call := goodIn_r _ [153, 9, 10, 11, 154, 72, 14, 15, 7, 16, 22, 23, 24, 25, 26, 27, 28, 29, 30, 31, 32, 33, 34, 35, 36, 19, 37, 38, 39, 40, 41, 42, 155, 156, 157, 158, 51, 159, 160, 161, 162, 163, 164, 165, 166, 167, 168, 169, 170, 171, 172, 173] (by decide +kernel) (by decide +kernel)
set_option maxRecDepth 20000 in
theorem gL_acts_X10_call : GoodIn wsL_acts (wsV RL 73 RX10 yX10_call wsX10_call) := goodIn_app (goodIn_of _ (by decide +kernel)) ggL_acts_X10_call
theorem dL_acts_0 : decode cL_acts 0 = .ok (.iload_n 2, 1) := by decide +kernel
theorem dL_acts_1 : decode cL_acts 1 = .ok (.iconst 3, 1) := by decide +kernel
theorem dL_acts_2 : decode cL_acts 2 = .ok (.ishr, 1) := by decide +kernel
theorem dL_acts_3 : decode cL_acts 3 = .ok (.istore_n 3, 1) := by decide +kernel
theorem dL_acts_4 : decode cL_acts 4 = .ok (.iload_n 3, 1) := by decide +kernel
theorem dL_acts_5 : decode cL_acts 5 = .ok (.bipush 7, 2) := by decide +kernel
theorem dL_acts_7 : decode cL_acts 7 = .ok (.iand, 1) := by decide +kernel
theorem dL_acts_8 : decode cL_acts 8 = .ok (.istore 4, 2) := by decide +kernel
theorem dL_acts_10 : decode cL_acts 10 = .ok (.iload 4, 2) := by decide +kernel
theorem dL_acts_12 : decode cL_acts 12 = .ok (.aload_n 1, 1) := by decide +kernel
theorem dL_acts_13 : decode cL_acts 13 = .ok (.iconst 0, 1) := by decide +kernel
theorem dL_acts_14 : decode cL_acts 14 = .ok (.iaload, 1) := by decide +kernel
theorem dL_acts_15 : decode cL_acts 15 = .ok (.if_icmp .ge 7, 3) := by decide +kernel
theorem dL_acts_18 : decode cL_acts 18 = .ok (.iconst 1, 1) := by decide +kernel
theorem dL_acts_19 : decode cL_acts 19 = .ok (.goto 4, 3) := by decide +kernel
theorem dL_acts_22 : decode cL_acts 22 = .ok (.iconst 0, 1) := by decide +kernel
theorem dL_acts_23 : decode cL_acts 23 = .ok (.istore 5, 2) := by decide +kernel
theorem dL_acts_25 : decode cL_acts 25 = .ok (.iload_n 2, 1) := by decide +kernel
theorem dL_acts_26 : decode cL_acts 26 = .ok (.bipush 7, 2) := by decide +kernel
theorem dL_acts_28 : decode cL_acts 28 = .ok (.iand, 1) := by decide +kernel
theorem dL_acts_29 : decode cL_acts 29 = .ok (.tableswitch 631 0 6 #[43, 214, 300, 300, 300, 442, 545], 43) := by decide +kernel
theorem dL_acts_72 : decode cL_acts 72 = .ok (.iconst 0, 1) := by decide +kernel
theorem dL_acts_73 : decode cL_acts 73 = .ok (.istore 6, 2) := by decide +kernel
theorem dL_acts_75 : decode cL_acts 75 = .ok (.iconst 0, 1) := by decide +kernel
theorem dL_acts_76 : decode cL_acts 76 = .ok (.istore 7, 2) := by decide +kernel
theorem dL_acts_78 : decode cL_acts 78 = .ok (.iload 7, 2) := by decide +kernel
theorem dL_acts_80 : decode cL_acts 80 = .ok (.iconst 4, 1) := by decide +kernel
theorem dL_acts_81 : decode cL_acts 81 = .ok (.if_icmp .ge 27, 3) := by decide +kernel
theorem dL_acts_84 : decode cL_acts 84 = .ok (.bipush 20, 2) := by decide +kernel
theorem dL_acts_86 : decode cL_acts 86 = .ok (.iload 6, 2) := by decide +kernel
theorem dL_acts_88 : decode cL_acts 88 = .ok (.imul, 1) := by decide +kernel
theorem dL_acts_89 : decode cL_acts 89 = .ok (.iload_n 3, 1) := by decide +kernel
theorem dL_acts_90 : decode cL_acts 90 = .ok (.iload 7, 2) := by decide +kernel
theorem dL_acts_92 : decode cL_acts 92 = .ok (.ishr, 1) := by decide +kernel
theorem dL_acts_93 : decode cL_acts 93 = .ok (.bipush 7, 2) := by decide +kernel
theorem dL_acts_95 : decode cL_acts 95 = .ok (.iand, 1) := by decide +kernel
theorem dL_acts_96 : decode cL_acts 96 = .ok (.iadd, 1) := by decide +kernel
theorem dL_acts_97 : decode cL_acts 97 = .ok (.bipush 6, 2) := by decide +kernel
theorem dL_acts_99 : decode cL_acts 99 = .ok (.iadd, 1) := by decide +kernel
theorem dL_acts_100 : decode cL_acts 100 = .ok (.istore 6, 2) := by decide +kernel
theorem dL_acts_102 : decode cL_acts 102 = .ok (.iinc 7 1, 3) := by decide +kernel
theorem dL_acts_105 : decode cL_acts 105 = .ok (.goto (-27), 3) := by decide +kernel
theorem dL_acts_108 : decode cL_acts 108 = .ok (.iload_n 3, 1) := by decide +kernel
theorem dL_acts_109 : decode cL_acts 109 = .ok (.bipush 31, 2) := by decide +kernel
theorem dL_acts_111 : decode cL_acts 111 = .ok (.iand, 1) := by decide +kernel
theorem dL_acts_112 : decode cL_acts 112 = .ok (.bipush 12, 2) := by decide +kernel
theorem dL_acts_114 : decode cL_acts 114 = .ok (.isub, 1) := by decide +kernel
theorem dL_acts_115 : decode cL_acts 115 = .ok (.istore 7, 2) := by decide +kernel
theorem dL_acts_117 : decode cL_acts 117 = .ok (.aload_n 1, 1) := by decide +kernel
theorem dL_acts_118 : decode cL_acts 118 = .ok (.iconst 0, 1) := by decide +kernel
theorem dL_acts_119 : decode cL_acts 119 = .ok (.iaload, 1) := by decide +kernel
theorem dL_acts_120 : decode cL_acts 120 = .ok (.bipush 8, 2) := by decide +kernel
theorem dL_acts_122 : decode cL_acts 122 = .ok (.if_icmp .ne 25, 3) := by decide +kernel
theorem dL_acts_125 : decode cL_acts 125 = .ok (.aload_n 0, 1) := by decide +kernel
theorem dL_acts_126 : decode cL_acts 126 = .ok (.iload_n 3, 1) := by decide +kernel
theorem dL_acts_127 : decode cL_acts 127 = .ok (.iconst 5, 1) := by decide +kernel
theorem dL_acts_128 : decode cL_acts 128 = .ok (.irem, 1) := by decide +kernel
theorem dL_acts_129 : decode cL_acts 129 = .ok (.iload 6, 2) := by decide +kernel
theorem dL_acts_131 : decode cL_acts 131 = .ok (.iload 7, 2) := by decide +kernel
theorem dL_acts_133 : decode cL_acts 133 = .ok (.invokevirtual 46, 3) := by decide +kernel
theorem dL_acts_136 : decode cL_acts 136 = .ok (.ldc 50, 2) := by decide +kernel
theorem dL_acts_138 : decode cL_acts 138 = .ok (.if_icmp .ne 7, 3) := by decide +kernel
theorem dL_acts_141 : decode cL_acts 141 = .ok (.iconst 0, 1) := by decide +kernel
theorem dL_acts_142 : decode cL_acts 142 = .ok (.goto 4, 3) := by decide +kernel
theorem dL_acts_145 : decode cL_acts 145 = .ok (.iconst (-1), 1) := by decide +kernel
theorem dL_acts_146 : decode cL_acts 146 = .ok (.ireturn, 1) := by decide +kernel
theorem dL_acts_147 : decode cL_acts 147 = .ok (.iconst 0, 1) := by decide +kernel
theorem dL_acts_148 : decode cL_acts 148 = .ok (.istore 8, 2) := by decide +kernel
theorem dL_acts_150 : decode cL_acts 150 = .ok (.iload 8, 2) := by decide +kernel
theorem dL_acts_152 : decode cL_acts 152 = .ok (.iconst 4, 1) := by decide +kernel
theorem dL_acts_153 : decode cL_acts 153 = .ok (.if_icmp .ge 31, 3) := by decide +kernel
theorem dL_acts_156 : decode cL_acts 156 = .ok (.aload_n 1, 1) := by decide +kernel
theorem dL_acts_157 : decode cL_acts 157 = .ok (.iconst 3, 1) := by decide +kernel
theorem dL_acts_158 : decode cL_acts 158 = .ok (.bipush 6, 2) := by decide +kernel
theorem dL_acts_160 : decode cL_acts 160 = .ok (.aload_n 1, 1) := by decide +kernel
theorem dL_acts_161 : decode cL_acts 161 = .ok (.iconst 0, 1) := by decide +kernel
theorem dL_acts_162 : decode cL_acts 162 = .ok (.iaload, 1) := by decide +kernel
theorem dL_acts_163 : decode cL_acts 163 = .ok (.imul, 1) := by decide +kernel
theorem dL_acts_164 : decode cL_acts 164 = .ok (.iadd, 1) := by decide +kernel
theorem dL_acts_165 : decode cL_acts 165 = .ok (.iload 8, 2) := by decide +kernel
theorem dL_acts_167 : decode cL_acts 167 = .ok (.iadd, 1) := by decide +kernel
theorem dL_acts_168 : decode cL_acts 168 = .ok (.iload_n 3, 1) := by decide +kernel
theorem dL_acts_169 : decode cL_acts 169 = .ok (.iload 8, 2) := by decide +kernel
theorem dL_acts_171 : decode cL_acts 171 = .ok (.ishr, 1) := by decide +kernel
theorem dL_acts_172 : decode cL_acts 172 = .ok (.bipush 7, 2) := by decide +kernel
theorem dL_acts_174 : decode cL_acts 174 = .ok (.iand, 1) := by decide +kernel
theorem dL_acts_175 : decode cL_acts 175 = .ok (.iconst 3, 1) := by decide +kernel
theorem dL_acts_176 : decode cL_acts 176 = .ok (.isub, 1) := by decide +kernel
theorem dL_acts_177 : decode cL_acts 177 = .ok (.iastore, 1) := by decide +kernel
theorem dL_acts_178 : decode cL_acts 178 = .ok (.iinc 8 1, 3) := by decide +kernel
theorem dL_acts_181 : decode cL_acts 181 = .ok (.goto (-31), 3) := by decide +kernel
theorem dL_acts_184 : decode cL_acts 184 = .ok (.aload_n 1, 1) := by decide +kernel
theorem dL_acts_185 : decode cL_acts 185 = .ok (.bipush 7, 2) := by decide +kernel
theorem dL_acts_187 : decode cL_acts 187 = .ok (.bipush 6, 2) := by decide +kernel
theorem dL_acts_189 : decode cL_acts 189 = .ok (.aload_n 1, 1) := by decide +kernel
theorem dL_acts_190 : decode cL_acts 190 = .ok (.iconst 0, 1) := by decide +kernel
theorem dL_acts_191 : decode cL_acts 191 = .ok (.iaload, 1) := by decide +kernel
theorem dL_acts_192 : decode cL_acts 192 = .ok (.imul, 1) := by decide +kernel
theorem dL_acts_193 : decode cL_acts 193 = .ok (.iadd, 1) := by decide +kernel
theorem dL_acts_194 : decode cL_acts 194 = .ok (.iload 7, 2) := by decide +kernel
theorem dL_acts_196 : decode cL_acts 196 = .ok (.iastore, 1) := by decide +kernel
theorem dL_acts_197 : decode cL_acts 197 = .ok (.aload_n 1, 1) := by decide +kernel
theorem dL_acts_198 : decode cL_acts 198 = .ok (.bipush 8, 2) := by decide +kernel
theorem dL_acts_200 : decode cL_acts 200 = .ok (.bipush 6, 2) := by decide +kernel
theorem dL_acts_202 : decode cL_acts 202 = .ok (.aload_n 1, 1) := by decide +kernel
theorem dL_acts_203 : decode cL_acts 203 = .ok (.iconst 0, 1) := by decide +kernel
theorem dL_acts_204 : decode cL_acts 204 = .ok (.iaload, 1) := by decide +kernel
theorem dL_acts_205 : decode cL_acts 205 = .ok (.imul, 1) := by decide +kernel
theorem dL_acts_206 : decode cL_acts 206 = .ok (.iadd, 1) := by decide +kernel
theorem dL_acts_207 : decode cL_acts 207 = .ok (.iload_n 3, 1) := by decide +kernel
theorem dL_acts_208 : decode cL_acts 208 = .ok (.iconst 5, 1) := by decide +kernel
theorem dL_acts_209 : decode cL_acts 209 = .ok (.irem, 1) := by decide +kernel
theorem dL_acts_210 : decode cL_acts 210 = .ok (.iastore, 1) := by decide +kernel
theorem dL_acts_211 : decode cL_acts 211 = .ok (.aload_n 1, 1) := by decide +kernel
theorem dL_acts_212 : decode cL_acts 212 = .ok (.iconst 0, 1) := by decide +kernel
theorem dL_acts_213 : decode cL_acts 213 = .ok (.dup2, 1) := by decide +kernel
theorem dL_acts_214 : decode cL_acts 214 = .ok (.iaload, 1) := by decide +kernel
theorem dL_acts_215 : decode cL_acts 215 = .ok (.iconst 1, 1) := by decide +kernel
theorem dL_acts_216 : decode cL_acts 216 = .ok (.iadd, 1) := by decide +kernel
theorem dL_acts_217 : decode cL_acts 217 = .ok (.iastore, 1) := by decide +kernel
theorem dL_acts_218 : decode cL_acts 218 = .ok (.aload_n 0, 1) := by decide +kernel
theorem dL_acts_219 : decode cL_acts 219 = .ok (.iload_n 3, 1) := by decide +kernel
theorem dL_acts_220 : decode cL_acts 220 = .ok (.iconst 5, 1) := by decide +kernel
theorem dL_acts_221 : decode cL_acts 221 = .ok (.irem, 1) := by decide +kernel
theorem dL_acts_222 : decode cL_acts 222 = .ok (.iload 6, 2) := by decide +kernel
theorem dL_acts_224 : decode cL_acts 224 = .ok (.iload 7, 2) := by decide +kernel
theorem dL_acts_226 : decode cL_acts 226 = .ok (.invokevirtual 46, 3) := by decide +kernel
theorem dL_acts_229 : decode cL_acts 229 = .ok (.aload_n 1, 1) := by decide +kernel
theorem dL_acts_230 : decode cL_acts 230 = .ok (.iconst 0, 1) := by decide +kernel
theorem dL_acts_231 : decode cL_acts 231 = .ok (.iaload, 1) := by decide +kernel
theorem dL_acts_232 : decode cL_acts 232 = .ok (.iconst 1, 1) := by decide +kernel
theorem dL_acts_233 : decode cL_acts 233 = .ok (.isub, 1) := by decide +kernel
theorem dL_acts_234 : decode cL_acts 234 = .ok (.if_icmp .ne 7, 3) := by decide +kernel
theorem dL_acts_237 : decode cL_acts 237 = .ok (.iconst 1, 1) := by decide +kernel
theorem dL_acts_238 : decode cL_acts 238 = .ok (.goto 4, 3) := by decide +kernel
theorem dL_acts_241 : decode cL_acts 241 = .ok (.iconst (-1), 1) := by decide +kernel
theorem dL_acts_242 : decode cL_acts 242 = .ok (.ireturn, 1) := by decide +kernel
theorem dL_acts_243 : decode cL_acts 243 = .ok (.iload 5, 2) := by decide +kernel
theorem dL_acts_245 : decode cL_acts 245 = .ok (.ifCond .ne 20, 3) := by decide +kernel
theorem dL_acts_248 : decode cL_acts 248 = .ok (.aload_n 0, 1) := by decide +kernel
theorem dL_acts_249 : decode cL_acts 249 = .ok (.iload 4, 2) := by decide +kernel
theorem dL_acts_251 : decode cL_acts 251 = .ok (.invokevirtual 51, 3) := by decide +kernel
theorem dL_acts_254 : decode cL_acts 254 = .ok (.ldc 54, 2) := by decide +kernel
theorem dL_acts_256 : decode cL_acts 256 = .ok (.if_icmp .ne 7, 3) := by decide +kernel
theorem dL_acts_259 : decode cL_acts 259 = .ok (.iconst 0, 1) := by decide +kernel
theorem dL_acts_260 : decode cL_acts 260 = .ok (.goto 4, 3) := by decide +kernel
theorem dL_acts_263 : decode cL_acts 263 = .ok (.iconst (-1), 1) := by decide +kernel
theorem dL_acts_264 : decode cL_acts 264 = .ok (.ireturn, 1) := by decide +kernel
theorem dL_acts_265 : decode cL_acts 265 = .ok (.aload_n 1, 1) := by decide +kernel
theorem dL_acts_266 : decode cL_acts 266 = .ok (.iconst 0, 1) := by decide +kernel
theorem dL_acts_267 : decode cL_acts 267 = .ok (.dup2, 1) := by decide +kernel
theorem dL_acts_268 : decode cL_acts 268 = .ok (.iaload, 1) := by decide +kernel
theorem dL_acts_269 : decode cL_acts 269 = .ok (.iconst 1, 1) := by decide +kernel
theorem dL_acts_270 : decode cL_acts 270 = .ok (.isub, 1) := by decide +kernel
theorem dL_acts_271 : decode cL_acts 271 = .ok (.iastore, 1) := by decide +kernel
theorem dL_acts_272 : decode cL_acts 272 = .ok (.iconst 3, 1) := by decide +kernel
theorem dL_acts_273 : decode cL_acts 273 = .ok (.bipush 6, 2) := by decide +kernel
theorem dL_acts_275 : decode cL_acts 275 = .ok (.iload 4, 2) := by decide +kernel
theorem dL_acts_277 : decode cL_acts 277 = .ok (.imul, 1) := by decide +kernel
theorem dL_acts_278 : decode cL_acts 278 = .ok (.iadd, 1) := by decide +kernel
theorem dL_acts_279 : decode cL_acts 279 = .ok (.istore 8, 2) := by decide +kernel
theorem dL_acts_281 : decode cL_acts 281 = .ok (.iload 8, 2) := by decide +kernel
theorem dL_acts_283 : decode cL_acts 283 = .ok (.iconst 3, 1) := by decide +kernel
theorem dL_acts_284 : decode cL_acts 284 = .ok (.bipush 6, 2) := by decide +kernel
theorem dL_acts_286 : decode cL_acts 286 = .ok (.aload_n 1, 1) := by decide +kernel
theorem dL_acts_287 : decode cL_acts 287 = .ok (.iconst 0, 1) := by decide +kernel
theorem dL_acts_288 : decode cL_acts 288 = .ok (.iaload, 1) := by decide +kernel
theorem dL_acts_289 : decode cL_acts 289 = .ok (.imul, 1) := by decide +kernel
theorem dL_acts_290 : decode cL_acts 290 = .ok (.iadd, 1) := by decide +kernel
theorem dL_acts_291 : decode cL_acts 291 = .ok (.if_icmp .ge 20, 3) := by decide +kernel
theorem dL_acts_294 : decode cL_acts 294 = .ok (.aload_n 1, 1) := by decide +kernel
theorem dL_acts_295 : decode cL_acts 295 = .ok (.iload 8, 2) := by decide +kernel
theorem dL_acts_297 : decode cL_acts 297 = .ok (.aload_n 1, 1) := by decide +kernel
theorem dL_acts_298 : decode cL_acts 298 = .ok (.iload 8, 2) := by decide +kernel
theorem dL_acts_300 : decode cL_acts 300 = .ok (.bipush 6, 2) := by decide +kernel
theorem dL_acts_302 : decode cL_acts 302 = .ok (.iadd, 1) := by decide +kernel
theorem dL_acts_303 : decode cL_acts 303 = .ok (.iaload, 1) := by decide +kernel
theorem dL_acts_304 : decode cL_acts 304 = .ok (.iastore, 1) := by decide +kernel
theorem dL_acts_305 : decode cL_acts 305 = .ok (.iinc 8 1, 3) := by decide +kernel
theorem dL_acts_308 : decode cL_acts 308 = .ok (.goto (-27), 3) := by decide +kernel
theorem dL_acts_311 : decode cL_acts 311 = .ok (.aload_n 0, 1) := by decide +kernel
theorem dL_acts_312 : decode cL_acts 312 = .ok (.iload 4, 2) := by decide +kernel
theorem dL_acts_314 : decode cL_acts 314 = .ok (.invokevirtual 51, 3) := by decide +kernel
theorem dL_acts_317 : decode cL_acts 317 = .ok (.aload_n 1, 1) := by decide +kernel
theorem dL_acts_318 : decode cL_acts 318 = .ok (.iconst 0, 1) := by decide +kernel
theorem dL_acts_319 : decode cL_acts 319 = .ok (.iaload, 1) := by decide +kernel
theorem dL_acts_320 : decode cL_acts 320 = .ok (.if_icmp .ne 7, 3) := by decide +kernel
theorem dL_acts_323 : decode cL_acts 323 = .ok (.iconst 1, 1) := by decide +kernel
theorem dL_acts_324 : decode cL_acts 324 = .ok (.goto 4, 3) := by decide +kernel
theorem dL_acts_327 : decode cL_acts 327 = .ok (.iconst (-1), 1) := by decide +kernel
theorem dL_acts_328 : decode cL_acts 328 = .ok (.ireturn, 1) := by decide +kernel
theorem dL_acts_329 : decode cL_acts 329 = .ok (.iload_n 3, 1) := by decide +kernel
theorem dL_acts_330 : decode cL_acts 330 = .ok (.iconst 3, 1) := by decide +kernel
theorem dL_acts_331 : decode cL_acts 331 = .ok (.ishr, 1) := by decide +kernel
theorem dL_acts_332 : decode cL_acts 332 = .ok (.bipush 7, 2) := by decide +kernel
theorem dL_acts_334 : decode cL_acts 334 = .ok (.iand, 1) := by decide +kernel
theorem dL_acts_335 : decode cL_acts 335 = .ok (.iconst 5, 1) := by decide +kernel
theorem dL_acts_336 : decode cL_acts 336 = .ok (.irem, 1) := by decide +kernel
theorem dL_acts_337 : decode cL_acts 337 = .ok (.istore 8, 2) := by decide +kernel
theorem dL_acts_339 : decode cL_acts 339 = .ok (.iload 8, 2) := by decide +kernel
theorem dL_acts_341 : decode cL_acts 341 = .ok (.iconst 4, 1) := by decide +kernel
theorem dL_acts_342 : decode cL_acts 342 = .ok (.if_icmp .ne 17, 3) := by decide +kernel
theorem dL_acts_345 : decode cL_acts 345 = .ok (.iload_n 3, 1) := by decide +kernel
theorem dL_acts_346 : decode cL_acts 346 = .ok (.iconst 5, 1) := by decide +kernel
theorem dL_acts_347 : decode cL_acts 347 = .ok (.ishr, 1) := by decide +kernel
theorem dL_acts_348 : decode cL_acts 348 = .ok (.bipush 15, 2) := by decide +kernel
theorem dL_acts_350 : decode cL_acts 350 = .ok (.iand, 1) := by decide +kernel
theorem dL_acts_351 : decode cL_acts 351 = .ok (.iconst 3, 1) := by decide +kernel
theorem dL_acts_352 : decode cL_acts 352 = .ok (.imul, 1) := by decide +kernel
theorem dL_acts_353 : decode cL_acts 353 = .ok (.bipush 20, 2) := by decide +kernel
theorem dL_acts_355 : decode cL_acts 355 = .ok (.isub, 1) := by decide +kernel
theorem dL_acts_356 : decode cL_acts 356 = .ok (.goto 12, 3) := by decide +kernel
theorem dL_acts_359 : decode cL_acts 359 = .ok (.iload_n 3, 1) := by decide +kernel
theorem dL_acts_360 : decode cL_acts 360 = .ok (.iconst 5, 1) := by decide +kernel
theorem dL_acts_361 : decode cL_acts 361 = .ok (.ishr, 1) := by decide +kernel
theorem dL_acts_362 : decode cL_acts 362 = .ok (.bipush 15, 2) := by decide +kernel
theorem dL_acts_364 : decode cL_acts 364 = .ok (.iand, 1) := by decide +kernel
theorem dL_acts_365 : decode cL_acts 365 = .ok (.bipush 7, 2) := by decide +kernel
theorem dL_acts_367 : decode cL_acts 367 = .ok (.isub, 1) := by decide +kernel
theorem dL_acts_368 : decode cL_acts 368 = .ok (.istore 9, 2) := by decide +kernel
theorem dL_acts_370 : decode cL_acts 370 = .ok (.iload 5, 2) := by decide +kernel
theorem dL_acts_372 : decode cL_acts 372 = .ok (.ifCond .eq 18, 3) := by decide +kernel
theorem dL_acts_375 : decode cL_acts 375 = .ok (.aload_n 1, 1) := by decide +kernel
theorem dL_acts_376 : decode cL_acts 376 = .ok (.iconst 3, 1) := by decide +kernel
theorem dL_acts_377 : decode cL_acts 377 = .ok (.bipush 6, 2) := by decide +kernel
theorem dL_acts_379 : decode cL_acts 379 = .ok (.iload 4, 2) := by decide +kernel
theorem dL_acts_381 : decode cL_acts 381 = .ok (.imul, 1) := by decide +kernel
theorem dL_acts_382 : decode cL_acts 382 = .ok (.iadd, 1) := by decide +kernel
theorem dL_acts_383 : decode cL_acts 383 = .ok (.iload 8, 2) := by decide +kernel
theorem dL_acts_385 : decode cL_acts 385 = .ok (.iadd, 1) := by decide +kernel
theorem dL_acts_386 : decode cL_acts 386 = .ok (.iaload, 1) := by decide +kernel
theorem dL_acts_387 : decode cL_acts 387 = .ok (.goto 4, 3) := by decide +kernel
theorem dL_acts_390 : decode cL_acts 390 = .ok (.iconst 0, 1) := by decide +kernel
theorem dL_acts_391 : decode cL_acts 391 = .ok (.istore 10, 2) := by decide +kernel
theorem dL_acts_393 : decode cL_acts 393 = .ok (.iload 5, 2) := by decide +kernel
theorem dL_acts_395 : decode cL_acts 395 = .ok (.ifCond .eq 10, 3) := by decide +kernel
theorem dL_acts_398 : decode cL_acts 398 = .ok (.iload 10, 2) := by decide +kernel
theorem dL_acts_400 : decode cL_acts 400 = .ok (.iload 9, 2) := by decide +kernel
theorem dL_acts_402 : decode cL_acts 402 = .ok (.if_icmp .ne 34, 3) := by decide +kernel
theorem dL_acts_405 : decode cL_acts 405 = .ok (.aload_n 0, 1) := by decide +kernel
theorem dL_acts_406 : decode cL_acts 406 = .ok (.iload 4, 2) := by decide +kernel
theorem dL_acts_408 : decode cL_acts 408 = .ok (.iload 8, 2) := by decide +kernel
theorem dL_acts_410 : decode cL_acts 410 = .ok (.iload 9, 2) := by decide +kernel
theorem dL_acts_412 : decode cL_acts 412 = .ok (.invokevirtual 55, 3) := by decide +kernel
theorem dL_acts_415 : decode cL_acts 415 = .ok (.iload 5, 2) := by decide +kernel
theorem dL_acts_417 : decode cL_acts 417 = .ok (.ifCond .eq 8, 3) := by decide +kernel
theorem dL_acts_420 : decode cL_acts 420 = .ok (.ldc 58, 2) := by decide +kernel
theorem dL_acts_422 : decode cL_acts 422 = .ok (.goto 5, 3) := by decide +kernel
theorem dL_acts_425 : decode cL_acts 425 = .ok (.ldc 54, 2) := by decide +kernel
theorem dL_acts_427 : decode cL_acts 427 = .ok (.if_icmp .ne 7, 3) := by decide +kernel
theorem dL_acts_430 : decode cL_acts 430 = .ok (.iconst 0, 1) := by decide +kernel
theorem dL_acts_431 : decode cL_acts 431 = .ok (.goto 4, 3) := by decide +kernel
theorem dL_acts_434 : decode cL_acts 434 = .ok (.iconst (-1), 1) := by decide +kernel
theorem dL_acts_435 : decode cL_acts 435 = .ok (.ireturn, 1) := by decide +kernel
theorem dL_acts_436 : decode cL_acts 436 = .ok (.aload_n 1, 1) := by decide +kernel
theorem dL_acts_437 : decode cL_acts 437 = .ok (.iconst 3, 1) := by decide +kernel
theorem dL_acts_438 : decode cL_acts 438 = .ok (.bipush 6, 2) := by decide +kernel
theorem dL_acts_440 : decode cL_acts 440 = .ok (.iload 4, 2) := by decide +kernel
theorem dL_acts_442 : decode cL_acts 442 = .ok (.imul, 1) := by decide +kernel
theorem dL_acts_443 : decode cL_acts 443 = .ok (.iadd, 1) := by decide +kernel
theorem dL_acts_444 : decode cL_acts 444 = .ok (.iload 8, 2) := by decide +kernel
theorem dL_acts_446 : decode cL_acts 446 = .ok (.iadd, 1) := by decide +kernel
theorem dL_acts_447 : decode cL_acts 447 = .ok (.iload 9, 2) := by decide +kernel
theorem dL_acts_449 : decode cL_acts 449 = .ok (.iastore, 1) := by decide +kernel
theorem dL_acts_450 : decode cL_acts 450 = .ok (.aload_n 0, 1) := by decide +kernel
theorem dL_acts_451 : decode cL_acts 451 = .ok (.iload 4, 2) := by decide +kernel
theorem dL_acts_453 : decode cL_acts 453 = .ok (.iload 8, 2) := by decide +kernel
theorem dL_acts_455 : decode cL_acts 455 = .ok (.iload 9, 2) := by decide +kernel
theorem dL_acts_457 : decode cL_acts 457 = .ok (.invokevirtual 55, 3) := by decide +kernel
theorem dL_acts_460 : decode cL_acts 460 = .ok (.iload 10, 2) := by decide +kernel
theorem dL_acts_462 : decode cL_acts 462 = .ok (.if_icmp .ne 7, 3) := by decide +kernel
theorem dL_acts_465 : decode cL_acts 465 = .ok (.iconst 1, 1) := by decide +kernel
theorem dL_acts_466 : decode cL_acts 466 = .ok (.goto 4, 3) := by decide +kernel
theorem dL_acts_469 : decode cL_acts 469 = .ok (.iconst (-1), 1) := by decide +kernel
theorem dL_acts_470 : decode cL_acts 470 = .ok (.ireturn, 1) := by decide +kernel
theorem dL_acts_471 : decode cL_acts 471 = .ok (.iload_n 3, 1) := by decide +kernel
theorem dL_acts_472 : decode cL_acts 472 = .ok (.iconst 3, 1) := by decide +kernel
theorem dL_acts_473 : decode cL_acts 473 = .ok (.ishr, 1) := by decide +kernel
theorem dL_acts_474 : decode cL_acts 474 = .ok (.bipush 7, 2) := by decide +kernel
theorem dL_acts_476 : decode cL_acts 476 = .ok (.iand, 1) := by decide +kernel
theorem dL_acts_477 : decode cL_acts 477 = .ok (.iconst 5, 1) := by decide +kernel
theorem dL_acts_478 : decode cL_acts 478 = .ok (.irem, 1) := by decide +kernel
theorem dL_acts_479 : decode cL_acts 479 = .ok (.istore 11, 2) := by decide +kernel
theorem dL_acts_481 : decode cL_acts 481 = .ok (.iload 5, 2) := by decide +kernel
theorem dL_acts_483 : decode cL_acts 483 = .ok (.ifCond .eq 16, 3) := by decide +kernel
theorem dL_acts_486 : decode cL_acts 486 = .ok (.aload_n 1, 1) := by decide +kernel
theorem dL_acts_487 : decode cL_acts 487 = .ok (.bipush 8, 2) := by decide +kernel
theorem dL_acts_489 : decode cL_acts 489 = .ok (.bipush 6, 2) := by decide +kernel
theorem dL_acts_491 : decode cL_acts 491 = .ok (.iload 4, 2) := by decide +kernel
theorem dL_acts_493 : decode cL_acts 493 = .ok (.imul, 1) := by decide +kernel
theorem dL_acts_494 : decode cL_acts 494 = .ok (.iadd, 1) := by decide +kernel
theorem dL_acts_495 : decode cL_acts 495 = .ok (.iaload, 1) := by decide +kernel
theorem dL_acts_496 : decode cL_acts 496 = .ok (.goto 4, 3) := by decide +kernel
theorem dL_acts_499 : decode cL_acts 499 = .ok (.iconst 0, 1) := by decide +kernel
theorem dL_acts_500 : decode cL_acts 500 = .ok (.istore 12, 2) := by decide +kernel
theorem dL_acts_502 : decode cL_acts 502 = .ok (.iload 5, 2) := by decide +kernel
theorem dL_acts_504 : decode cL_acts 504 = .ok (.ifCond .eq 10, 3) := by decide +kernel
theorem dL_acts_507 : decode cL_acts 507 = .ok (.iload 12, 2) := by decide +kernel
theorem dL_acts_509 : decode cL_acts 509 = .ok (.iload 11, 2) := by decide +kernel
theorem dL_acts_511 : decode cL_acts 511 = .ok (.if_icmp .ne 32, 3) := by decide +kernel
theorem dL_acts_514 : decode cL_acts 514 = .ok (.aload_n 0, 1) := by decide +kernel
theorem dL_acts_515 : decode cL_acts 515 = .ok (.iload 4, 2) := by decide +kernel
theorem dL_acts_517 : decode cL_acts 517 = .ok (.iload 11, 2) := by decide +kernel
theorem dL_acts_519 : decode cL_acts 519 = .ok (.invokevirtual 59, 3) := by decide +kernel
theorem dL_acts_522 : decode cL_acts 522 = .ok (.iload 5, 2) := by decide +kernel
theorem dL_acts_524 : decode cL_acts 524 = .ok (.ifCond .eq 8, 3) := by decide +kernel
theorem dL_acts_527 : decode cL_acts 527 = .ok (.ldc 58, 2) := by decide +kernel
theorem dL_acts_529 : decode cL_acts 529 = .ok (.goto 5, 3) := by decide +kernel
theorem dL_acts_532 : decode cL_acts 532 = .ok (.ldc 54, 2) := by decide +kernel
theorem dL_acts_534 : decode cL_acts 534 = .ok (.if_icmp .ne 7, 3) := by decide +kernel
theorem dL_acts_537 : decode cL_acts 537 = .ok (.iconst 0, 1) := by decide +kernel
theorem dL_acts_538 : decode cL_acts 538 = .ok (.goto 4, 3) := by decide +kernel
theorem dL_acts_541 : decode cL_acts 541 = .ok (.iconst (-1), 1) := by decide +kernel
theorem dL_acts_542 : decode cL_acts 542 = .ok (.ireturn, 1) := by decide +kernel
theorem dL_acts_543 : decode cL_acts 543 = .ok (.aload_n 1, 1) := by decide +kernel
theorem dL_acts_544 : decode cL_acts 544 = .ok (.bipush 8, 2) := by decide +kernel
theorem dL_acts_546 : decode cL_acts 546 = .ok (.bipush 6, 2) := by decide +kernel
theorem dL_acts_548 : decode cL_acts 548 = .ok (.iload 4, 2) := by decide +kernel
theorem dL_acts_550 : decode cL_acts 550 = .ok (.imul, 1) := by decide +kernel
theorem dL_acts_551 : decode cL_acts 551 = .ok (.iadd, 1) := by decide +kernel
theorem dL_acts_552 : decode cL_acts 552 = .ok (.iload 11, 2) := by decide +kernel
theorem dL_acts_554 : decode cL_acts 554 = .ok (.iastore, 1) := by decide +kernel
theorem dL_acts_555 : decode cL_acts 555 = .ok (.aload_n 0, 1) := by decide +kernel
theorem dL_acts_556 : decode cL_acts 556 = .ok (.iload 4, 2) := by decide +kernel
theorem dL_acts_558 : decode cL_acts 558 = .ok (.iload 11, 2) := by decide +kernel
theorem dL_acts_560 : decode cL_acts 560 = .ok (.invokevirtual 59, 3) := by decide +kernel
theorem dL_acts_563 : decode cL_acts 563 = .ok (.iload 12, 2) := by decide +kernel
theorem dL_acts_565 : decode cL_acts 565 = .ok (.if_icmp .ne 7, 3) := by decide +kernel
theorem dL_acts_568 : decode cL_acts 568 = .ok (.iconst 1, 1) := by decide +kernel
theorem dL_acts_569 : decode cL_acts 569 = .ok (.goto 4, 3) := by decide +kernel
theorem dL_acts_572 : decode cL_acts 572 = .ok (.iconst (-1), 1) := by decide +kernel
theorem dL_acts_573 : decode cL_acts 573 = .ok (.ireturn, 1) := by decide +kernel
theorem dL_acts_574 : decode cL_acts 574 = .ok (.iload 5, 2) := by decide +kernel
theorem dL_acts_576 : decode cL_acts 576 = .ok (.ifCond .ne 20, 3) := by decide +kernel
theorem dL_acts_579 : decode cL_acts 579 = .ok (.aload_n 0, 1) := by decide +kernel
theorem dL_acts_580 : decode cL_acts 580 = .ok (.iload 4, 2) := by decide +kernel
theorem dL_acts_582 : decode cL_acts 582 = .ok (.invokevirtual 63, 3) := by decide +kernel
theorem dL_acts_585 : decode cL_acts 585 = .ok (.ldc 54, 2) := by decide +kernel
theorem dL_acts_587 : decode cL_acts 587 = .ok (.if_icmp .ne 7, 3) := by decide +kernel
theorem dL_acts_590 : decode cL_acts 590 = .ok (.iconst 0, 1) := by decide +kernel
theorem dL_acts_591 : decode cL_acts 591 = .ok (.goto 4, 3) := by decide +kernel
theorem dL_acts_594 : decode cL_acts 594 = .ok (.iconst (-1), 1) := by decide +kernel
theorem dL_acts_595 : decode cL_acts 595 = .ok (.ireturn, 1) := by decide +kernel
theorem dL_acts_596 : decode cL_acts 596 = .ok (.iconst 0, 1) := by decide +kernel
theorem dL_acts_597 : decode cL_acts 597 = .ok (.istore 13, 2) := by decide +kernel
theorem dL_acts_599 : decode cL_acts 599 = .ok (.iload 13, 2) := by decide +kernel
theorem dL_acts_601 : decode cL_acts 601 = .ok (.iconst 5, 1) := by decide +kernel
theorem dL_acts_602 : decode cL_acts 602 = .ok (.if_icmp .ge 35, 3) := by decide +kernel
theorem dL_acts_605 : decode cL_acts 605 = .ok (.aload_n 1, 1) := by decide +kernel
theorem dL_acts_606 : decode cL_acts 606 = .ok (.iconst 3, 1) := by decide +kernel
theorem dL_acts_607 : decode cL_acts 607 = .ok (.bipush 6, 2) := by decide +kernel
theorem dL_acts_609 : decode cL_acts 609 = .ok (.iload 4, 2) := by decide +kernel
theorem dL_acts_611 : decode cL_acts 611 = .ok (.imul, 1) := by decide +kernel
theorem dL_acts_612 : decode cL_acts 612 = .ok (.iadd, 1) := by decide +kernel
theorem dL_acts_613 : decode cL_acts 613 = .ok (.iload 13, 2) := by decide +kernel
theorem dL_acts_615 : decode cL_acts 615 = .ok (.iadd, 1) := by decide +kernel
theorem dL_acts_616 : decode cL_acts 616 = .ok (.iconst 0, 1) := by decide +kernel
theorem dL_acts_617 : decode cL_acts 617 = .ok (.aload_n 1, 1) := by decide +kernel
theorem dL_acts_618 : decode cL_acts 618 = .ok (.iconst 3, 1) := by decide +kernel
theorem dL_acts_619 : decode cL_acts 619 = .ok (.bipush 6, 2) := by decide +kernel
theorem dL_acts_621 : decode cL_acts 621 = .ok (.iload 4, 2) := by decide +kernel
theorem dL_acts_623 : decode cL_acts 623 = .ok (.imul, 1) := by decide +kernel
theorem dL_acts_624 : decode cL_acts 624 = .ok (.iadd, 1) := by decide +kernel
theorem dL_acts_625 : decode cL_acts 625 = .ok (.iload 13, 2) := by decide +kernel
theorem dL_acts_627 : decode cL_acts 627 = .ok (.iadd, 1) := by decide +kernel
theorem dL_acts_628 : decode cL_acts 628 = .ok (.iaload, 1) := by decide +kernel
theorem dL_acts_629 : decode cL_acts 629 = .ok (.isub, 1) := by decide +kernel
theorem dL_acts_630 : decode cL_acts 630 = .ok (.iastore, 1) := by decide +kernel
theorem dL_acts_631 : decode cL_acts 631 = .ok (.iinc 13 1, 3) := by decide +kernel
theorem dL_acts_634 : decode cL_acts 634 = .ok (.goto (-35), 3) := by decide +kernel
theorem dL_acts_637 : decode cL_acts 637 = .ok (.aload_n 0, 1) := by decide +kernel
theorem dL_acts_638 : decode cL_acts 638 = .ok (.iload 4, 2) := by decide +kernel
theorem dL_acts_640 : decode cL_acts 640 = .ok (.invokevirtual 63, 3) := by decide +kernel
theorem dL_acts_643 : decode cL_acts 643 = .ok (.aload_n 1, 1) := by decide +kernel
theorem dL_acts_644 : decode cL_acts 644 = .ok (.aload_n 1, 1) := by decide +kernel
theorem dL_acts_645 : decode cL_acts 645 = .ok (.invokestatic 66, 3) := by decide +kernel
theorem dL_acts_648 : decode cL_acts 648 = .ok (.invokestatic 70, 3) := by decide +kernel
theorem dL_acts_651 : decode cL_acts 651 = .ok (.if_icmp .ne 7, 3) := by decide +kernel
theorem dL_acts_654 : decode cL_acts 654 = .ok (.iconst 1, 1) := by decide +kernel
theorem dL_acts_655 : decode cL_acts 655 = .ok (.goto 4, 3) := by decide +kernel
theorem dL_acts_658 : decode cL_acts 658 = .ok (.iconst (-1), 1) := by decide +kernel
theorem dL_acts_659 : decode cL_acts 659 = .ok (.ireturn, 1) := by decide +kernel
theorem dL_acts_660 : decode cL_acts 660 = .ok (.iconst 1, 1) := by decide +kernel
theorem dL_acts_661 : decode cL_acts 661 = .ok (.iload_n 3, 1) := by decide +kernel
theorem dL_acts_662 : decode cL_acts 662 = .ok (.iconst 2, 1) := by decide +kernel
theorem dL_acts_663 : decode cL_acts 663 = .ok (.ishr, 1) := by decide +kernel
theorem dL_acts_664 : decode cL_acts 664 = .ok (.iconst 3, 1) := by decide +kernel
theorem dL_acts_665 : decode cL_acts 665 = .ok (.iand, 1) := by decide +kernel
theorem dL_acts_666 : decode cL_acts 666 = .ok (.iadd, 1) := by decide +kernel
theorem dL_acts_667 : decode cL_acts 667 = .ok (.istore 13, 2) := by decide +kernel
theorem dL_acts_669 : decode cL_acts 669 = .ok (.aload_n 1, 1) := by decide +kernel
theorem dL_acts_670 : decode cL_acts 670 = .ok (.iconst 1, 1) := by decide +kernel
theorem dL_acts_671 : decode cL_acts 671 = .ok (.iaload, 1) := by decide +kernel
theorem dL_acts_672 : decode cL_acts 672 = .ok (.istore 14, 2) := by decide +kernel
theorem dL_acts_674 : decode cL_acts 674 = .ok (.aload_n 1, 1) := by decide +kernel
theorem dL_acts_675 : decode cL_acts 675 = .ok (.iconst 1, 1) := by decide +kernel
theorem dL_acts_676 : decode cL_acts 676 = .ok (.iload 13, 2) := by decide +kernel
theorem dL_acts_678 : decode cL_acts 678 = .ok (.iastore, 1) := by decide +kernel
theorem dL_acts_679 : decode cL_acts 679 = .ok (.iload 14, 2) := by decide +kernel
theorem dL_acts_681 : decode cL_acts 681 = .ok (.iload 13, 2) := by decide +kernel
theorem dL_acts_683 : decode cL_acts 683 = .ok (.if_icmp .ne 22, 3) := by decide +kernel
theorem dL_acts_686 : decode cL_acts 686 = .ok (.aload_n 0, 1) := by decide +kernel
theorem dL_acts_687 : decode cL_acts 687 = .ok (.iload 13, 2) := by decide +kernel
theorem dL_acts_689 : decode cL_acts 689 = .ok (.invokevirtual 73, 3) := by decide +kernel
theorem dL_acts_692 : decode cL_acts 692 = .ok (.ldc 58, 2) := by decide +kernel
theorem dL_acts_694 : decode cL_acts 694 = .ok (.if_icmp .ne 7, 3) := by decide +kernel
theorem dL_acts_697 : decode cL_acts 697 = .ok (.iconst 0, 1) := by decide +kernel
theorem dL_acts_698 : decode cL_acts 698 = .ok (.goto 23, 3) := by decide +kernel
theorem dL_acts_701 : decode cL_acts 701 = .ok (.iconst (-1), 1) := by decide +kernel
theorem dL_acts_702 : decode cL_acts 702 = .ok (.goto 19, 3) := by decide +kernel
theorem dL_acts_705 : decode cL_acts 705 = .ok (.aload_n 0, 1) := by decide +kernel
theorem dL_acts_706 : decode cL_acts 706 = .ok (.iload 13, 2) := by decide +kernel
theorem dL_acts_708 : decode cL_acts 708 = .ok (.invokevirtual 73, 3) := by decide +kernel
theorem dL_acts_711 : decode cL_acts 711 = .ok (.iload 14, 2) := by decide +kernel
theorem dL_acts_713 : decode cL_acts 713 = .ok (.if_icmp .ne 7, 3) := by decide +kernel
theorem dL_acts_716 : decode cL_acts 716 = .ok (.iconst 1, 1) := by decide +kernel
theorem dL_acts_717 : decode cL_acts 717 = .ok (.goto 4, 3) := by decide +kernel
theorem dL_acts_720 : decode cL_acts 720 = .ok (.iconst (-1), 1) := by decide +kernel
theorem dL_acts_721 : decode cL_acts 721 = .ok (.ireturn, 1) := by decide +kernel
set_option maxRecDepth 20000 in
theorem ggL_is_X10_count : GoodIn wsL_is wsX10_count := goodIn_r _ [6, 7, 8, 9, 10, 11, 12, 13, 14, 15, 16, 17, 18, 19, 20, 21, 22, 23, 24, 25, 26, 27, 28, 29, 30, 31, 32, 33, 34, 35, 36, 37, 38, 39, 40, 41, 42, 43, 44, 45, 46, 47, 48, 49, 50, 51, 52, 53, 54, 55, 56, 57, 58, 59, 60, 61, 62, 63, 64, 103, 104, 105, 106, 107, 108, 109, 110, 111, 112, 113, 114, 115, 116, 117, 118, 119, 120, 121] (by decide +kernel) (by decide +kernel)
set_option maxRecDepth 20000 in
theorem gL_is_X10_count : GoodIn wsL_is (wsV RL 76 RX10 yX10_count wsX10_count) := goodIn_app (goodIn_of _ (by decide +kernel)) ggL_is_X10_count
set_option maxRecDepth 20000 in
theorem ggL_is_X10_of : GoodIn wsL_is wsX10_of := goodIn_r _ [68, 14, 7, 8, 69, 70, 71, 5, 72, 9, 73, 74, 75, 76, 44, 45, 32, 46, 47, 103, 104, 105, 106, 107, 108, 109, 110, 111, 112, 113, 114, 115, 116, 117] (by decide +kernel) (by decide +kernel)
set_option maxRecDepth 20000 in
theorem gL_is_X10_of : GoodIn wsL_is (wsV RL 79 RX10 yX10_of wsX10_of) := goodIn_app (goodIn_of _ (by decide +kernel)) ggL_is_X10_of
set_option maxRecDepth 20000 in
theorem ggL_is_X10_sum : GoodIn wsL_is wsX10_sum := goodIn_r _ [80, 14, 7, 8, 69, 70, 71, 5, 72, 9, 73, 74, 75, 81, 49, 50, 32, 51, 47, 35, 36, 37, 38, 103, 104, 105, 106, 107, 108, 109, 110, 111, 112, 113, 114, 115, 116, 117] (by decide +kernel) (by decide +kernel)
set_option maxRecDepth 20000 in
theorem gL_is_X10_sum : GoodIn wsL_is (wsV RL 82 RX10 yX10_sum wsX10_sum) := goodIn_app (goodIn_of _ (by decide +kernel)) ggL_is_X10_sum
set_option maxRecDepth 20000 in
theorem ggL_is_L_sum : GoodIn wsL_is wsL_sum := goodIn_r _ [85] (by decide +kernel) (by decide +kernel)
set_option maxRecDepth 20000 in
theorem gL_is_L_sum : GoodIn wsL_is (va_wsS RL 32 yL_sum wsL_sum) := goodIn_app (goodIn_of _ (by decide +kernel)) ggL_is_L_sum
set_option maxRecDepth 20000 in
theorem ggL_is_X10_hold : GoodIn wsL_is wsX10_hold := goodIn_r _ [89, 14, 7, 8, 73, 74, 5, 75, 90, 91, 92, 32, 93, 60, 94, 44, 45, 46, 47, 95, 49, 50, 51, 35, 36, 37, 38, 96, 53, 54, 55, 103, 104, 105, 106, 107, 108, 109, 110, 111, 112, 113, 114, 115, 116, 117] (by decide +kernel) (by decide +kernel)
set_option maxRecDepth 20000 in
theorem gL_is_X10_hold : GoodIn wsL_is (wsV RL 84 RX10 yX10_hold wsX10_hold) := goodIn_app (goodIn_of _ (by decide +kernel)) ggL_is_X10_hold
set_option maxRecDepth 20000 in
theorem ggL_is_L_hold : GoodIn wsL_is wsL_hold := goodIn_r _ [99, 82, 83, 84, 85, 100, 101, 102] (by decide +kernel) (by decide +kernel)
set_option maxRecDepth 20000 in
theorem gL_is_L_hold : GoodIn wsL_is (va_wsS RL 43 yL_hold wsL_hold) := goodIn_app (goodIn_of _ (by decide +kernel)) ggL_is_L_hold
theorem dL_is_0 : decode cL_is 0 = .ok (.aload_n 0, 1) := by decide +kernel
theorem dL_is_1 : decode cL_is 1 = .ok (.iconst 0, 1) := by decide +kernel
theorem dL_is_2 : decode cL_is 2 = .ok (.invokevirtual 76, 3) := by decide +kernel
theorem dL_is_5 : decode cL_is 5 = .ok (.aload_n 1, 1) := by decide +kernel
theorem dL_is_6 : decode cL_is 6 = .ok (.iconst 0, 1) := by decide +kernel
theorem dL_is_7 : decode cL_is 7 = .ok (.iaload, 1) := by decide +kernel
theorem dL_is_8 : decode cL_is 8 = .ok (.if_icmp .ne 31, 3) := by decide +kernel
theorem dL_is_11 : decode cL_is 11 = .ok (.aload_n 0, 1) := by decide +kernel
theorem dL_is_12 : decode cL_is 12 = .ok (.iconst 1, 1) := by decide +kernel
theorem dL_is_13 : decode cL_is 13 = .ok (.invokevirtual 76, 3) := by decide +kernel
theorem dL_is_16 : decode cL_is 16 = .ok (.aload_n 1, 1) := by decide +kernel
theorem dL_is_17 : decode cL_is 17 = .ok (.iconst 1, 1) := by decide +kernel
theorem dL_is_18 : decode cL_is 18 = .ok (.iaload, 1) := by decide +kernel
theorem dL_is_19 : decode cL_is 19 = .ok (.if_icmp .ne 20, 3) := by decide +kernel
theorem dL_is_22 : decode cL_is 22 = .ok (.aload_n 0, 1) := by decide +kernel
theorem dL_is_23 : decode cL_is 23 = .ok (.aload_n 1, 1) := by decide +kernel
theorem dL_is_24 : decode cL_is 24 = .ok (.iconst 0, 1) := by decide +kernel
theorem dL_is_25 : decode cL_is 25 = .ok (.iaload, 1) := by decide +kernel
theorem dL_is_26 : decode cL_is 26 = .ok (.iconst 0, 1) := by decide +kernel
theorem dL_is_27 : decode cL_is 27 = .ok (.invokevirtual 79, 3) := by decide +kernel
theorem dL_is_30 : decode cL_is 30 = .ok (.ldc 54, 2) := by decide +kernel
theorem dL_is_32 : decode cL_is 32 = .ok (.if_icmp .ne 7, 3) := by decide +kernel
theorem dL_is_35 : decode cL_is 35 = .ok (.iconst 1, 1) := by decide +kernel
theorem dL_is_36 : decode cL_is 36 = .ok (.goto 4, 3) := by decide +kernel
theorem dL_is_39 : decode cL_is 39 = .ok (.iconst 0, 1) := by decide +kernel
theorem dL_is_40 : decode cL_is 40 = .ok (.istore_n 2, 1) := by decide +kernel
theorem dL_is_41 : decode cL_is 41 = .ok (.iconst 0, 1) := by decide +kernel
theorem dL_is_42 : decode cL_is 42 = .ok (.istore_n 3, 1) := by decide +kernel
theorem dL_is_43 : decode cL_is 43 = .ok (.iload_n 3, 1) := by decide +kernel
theorem dL_is_44 : decode cL_is 44 = .ok (.aload_n 1, 1) := by decide +kernel
theorem dL_is_45 : decode cL_is 45 = .ok (.iconst 0, 1) := by decide +kernel
theorem dL_is_46 : decode cL_is 46 = .ok (.iaload, 1) := by decide +kernel
theorem dL_is_47 : decode cL_is 47 = .ok (.if_icmp .ge 99, 3) := by decide +kernel
theorem dL_is_50 : decode cL_is 50 = .ok (.iload_n 2, 1) := by decide +kernel
theorem dL_is_51 : decode cL_is 51 = .ok (.ifCond .eq 95, 3) := by decide +kernel
theorem dL_is_54 : decode cL_is 54 = .ok (.iconst 0, 1) := by decide +kernel
theorem dL_is_55 : decode cL_is 55 = .ok (.istore 4, 2) := by decide +kernel
theorem dL_is_57 : decode cL_is 57 = .ok (.iload 4, 2) := by decide +kernel
theorem dL_is_59 : decode cL_is 59 = .ok (.bipush 6, 2) := by decide +kernel
theorem dL_is_61 : decode cL_is 61 = .ok (.if_icmp .ge 40, 3) := by decide +kernel
theorem dL_is_64 : decode cL_is 64 = .ok (.iload_n 2, 1) := by decide +kernel
theorem dL_is_65 : decode cL_is 65 = .ok (.ifCond .eq 36, 3) := by decide +kernel
theorem dL_is_68 : decode cL_is 68 = .ok (.aload_n 0, 1) := by decide +kernel
theorem dL_is_69 : decode cL_is 69 = .ok (.iload_n 3, 1) := by decide +kernel
theorem dL_is_70 : decode cL_is 70 = .ok (.iload 4, 2) := by decide +kernel
theorem dL_is_72 : decode cL_is 72 = .ok (.invokevirtual 79, 3) := by decide +kernel
theorem dL_is_75 : decode cL_is 75 = .ok (.aload_n 1, 1) := by decide +kernel
theorem dL_is_76 : decode cL_is 76 = .ok (.iconst 3, 1) := by decide +kernel
theorem dL_is_77 : decode cL_is 77 = .ok (.bipush 6, 2) := by decide +kernel
theorem dL_is_79 : decode cL_is 79 = .ok (.iload_n 3, 1) := by decide +kernel
theorem dL_is_80 : decode cL_is 80 = .ok (.imul, 1) := by decide +kernel
theorem dL_is_81 : decode cL_is 81 = .ok (.iadd, 1) := by decide +kernel
theorem dL_is_82 : decode cL_is 82 = .ok (.iload 4, 2) := by decide +kernel
theorem dL_is_84 : decode cL_is 84 = .ok (.iadd, 1) := by decide +kernel
theorem dL_is_85 : decode cL_is 85 = .ok (.iaload, 1) := by decide +kernel
theorem dL_is_86 : decode cL_is 86 = .ok (.if_icmp .ne 7, 3) := by decide +kernel
theorem dL_is_89 : decode cL_is 89 = .ok (.iconst 1, 1) := by decide +kernel
theorem dL_is_90 : decode cL_is 90 = .ok (.goto 4, 3) := by decide +kernel
theorem dL_is_93 : decode cL_is 93 = .ok (.iconst 0, 1) := by decide +kernel
theorem dL_is_94 : decode cL_is 94 = .ok (.istore_n 2, 1) := by decide +kernel
theorem dL_is_95 : decode cL_is 95 = .ok (.iinc 4 1, 3) := by decide +kernel
theorem dL_is_98 : decode cL_is 98 = .ok (.goto (-41), 3) := by decide +kernel
theorem dL_is_101 : decode cL_is 101 = .ok (.iload_n 2, 1) := by decide +kernel
theorem dL_is_102 : decode cL_is 102 = .ok (.ifCond .eq 36, 3) := by decide +kernel
theorem dL_is_105 : decode cL_is 105 = .ok (.aload_n 0, 1) := by decide +kernel
theorem dL_is_106 : decode cL_is 106 = .ok (.iload_n 3, 1) := by decide +kernel
theorem dL_is_107 : decode cL_is 107 = .ok (.sipush 511, 3) := by decide +kernel
theorem dL_is_110 : decode cL_is 110 = .ok (.iload_n 3, 1) := by decide +kernel
theorem dL_is_111 : decode cL_is 111 = .ok (.imul, 1) := by decide +kernel
theorem dL_is_112 : decode cL_is 112 = .ok (.bipush 37, 2) := by decide +kernel
theorem dL_is_114 : decode cL_is 114 = .ok (.iadd, 1) := by decide +kernel
theorem dL_is_115 : decode cL_is 115 = .ok (.invokevirtual 82, 3) := by decide +kernel
theorem dL_is_118 : decode cL_is 118 = .ok (.aload_n 1, 1) := by decide +kernel
theorem dL_is_119 : decode cL_is 119 = .ok (.iload_n 3, 1) := by decide +kernel
theorem dL_is_120 : decode cL_is 120 = .ok (.sipush 511, 3) := by decide +kernel
theorem dL_is_123 : decode cL_is 123 = .ok (.iload_n 3, 1) := by decide +kernel
theorem dL_is_124 : decode cL_is 124 = .ok (.imul, 1) := by decide +kernel
theorem dL_is_125 : decode cL_is 125 = .ok (.bipush 37, 2) := by decide +kernel
theorem dL_is_127 : decode cL_is 127 = .ok (.iadd, 1) := by decide +kernel
theorem dL_is_128 : decode cL_is 128 = .ok (.invokestatic 32, 3) := by decide +kernel
theorem dL_is_131 : decode cL_is 131 = .ok (.if_icmp .ne 7, 3) := by decide +kernel
theorem dL_is_134 : decode cL_is 134 = .ok (.iconst 1, 1) := by decide +kernel
theorem dL_is_135 : decode cL_is 135 = .ok (.goto 4, 3) := by decide +kernel
theorem dL_is_138 : decode cL_is 138 = .ok (.iconst 0, 1) := by decide +kernel
theorem dL_is_139 : decode cL_is 139 = .ok (.istore_n 2, 1) := by decide +kernel
theorem dL_is_140 : decode cL_is 140 = .ok (.iinc 3 1, 3) := by decide +kernel
theorem dL_is_143 : decode cL_is 143 = .ok (.goto (-100), 3) := by decide +kernel
theorem dL_is_146 : decode cL_is 146 = .ok (.iload_n 2, 1) := by decide +kernel
theorem dL_is_147 : decode cL_is 147 = .ok (.ifCond .eq 39, 3) := by decide +kernel
theorem dL_is_150 : decode cL_is 150 = .ok (.aload_n 0, 1) := by decide +kernel
theorem dL_is_151 : decode cL_is 151 = .ok (.sipush 1234, 3) := by decide +kernel
theorem dL_is_154 : decode cL_is 154 = .ok (.invokevirtual 84, 3) := by decide +kernel
theorem dL_is_157 : decode cL_is 157 = .ok (.aload_n 1, 1) := by decide +kernel
theorem dL_is_158 : decode cL_is 158 = .ok (.sipush 1234, 3) := by decide +kernel
theorem dL_is_161 : decode cL_is 161 = .ok (.invokestatic 43, 3) := by decide +kernel
theorem dL_is_164 : decode cL_is 164 = .ok (.if_icmp .ne 22, 3) := by decide +kernel
theorem dL_is_167 : decode cL_is 167 = .ok (.aload_n 0, 1) := by decide +kernel
theorem dL_is_168 : decode cL_is 168 = .ok (.bipush 73, 2) := by decide +kernel
theorem dL_is_170 : decode cL_is 170 = .ok (.invokevirtual 84, 3) := by decide +kernel
theorem dL_is_173 : decode cL_is 173 = .ok (.aload_n 1, 1) := by decide +kernel
theorem dL_is_174 : decode cL_is 174 = .ok (.bipush 73, 2) := by decide +kernel
theorem dL_is_176 : decode cL_is 176 = .ok (.invokestatic 43, 3) := by decide +kernel

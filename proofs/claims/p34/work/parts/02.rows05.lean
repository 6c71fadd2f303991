theorem dL_seen_328 : decode cL_seen 328 = .ok (.iinc 5 1, 3) := by decide +kernel
theorem dL_seen_331 : decode cL_seen 331 = .ok (.goto (-119), 3) := by decide +kernel
theorem dL_seen_334 : decode cL_seen 334 = .ok (.iload_n 3, 1) := by decide +kernel
theorem dL_seen_335 : decode cL_seen 335 = .ok (.ifCond .eq 25, 3) := by decide +kernel
theorem dL_seen_338 : decode cL_seen 338 = .ok (.aload_n 0, 1) := by decide +kernel
theorem dL_seen_339 : decode cL_seen 339 = .ok (.iconst 1, 1) := by decide +kernel
theorem dL_seen_340 : decode cL_seen 340 = .ok (.invokevirtual 174, 3) := by decide +kernel
theorem dL_seen_343 : decode cL_seen 343 = .ok (.bipush 8, 2) := by decide +kernel
theorem dL_seen_345 : decode cL_seen 345 = .ok (.if_icmp .ne 15, 3) := by decide +kernel
theorem dL_seen_348 : decode cL_seen 348 = .ok (.aload_n 0, 1) := by decide +kernel
theorem dL_seen_349 : decode cL_seen 349 = .ok (.aload_n 1, 1) := by decide +kernel
theorem dL_seen_350 : decode cL_seen 350 = .ok (.invokestatic 177, 3) := by decide +kernel
theorem dL_seen_353 : decode cL_seen 353 = .ok (.ifCond .eq 7, 3) := by decide +kernel
theorem dL_seen_356 : decode cL_seen 356 = .ok (.iconst 1, 1) := by decide +kernel
theorem dL_seen_357 : decode cL_seen 357 = .ok (.goto 4, 3) := by decide +kernel
theorem dL_seen_360 : decode cL_seen 360 = .ok (.iconst 0, 1) := by decide +kernel
theorem dL_seen_361 : decode cL_seen 361 = .ok (.ireturn, 1) := by decide +kernel
set_option maxRecDepth 20000 in
theorem ggL_turns_X10_count : GoodIn wsL_turns wsX10_count := goodIn_r _ [5, 6, 7, 8, 9, 10, 11, 12, 13, 14, 15, 16, 17, 18, 19, 20, 21, 22, 23, 24, 25, 26, 27, 28, 29, 30, 31, 32, 33, 34, 35, 36, 37, 38, 39, 40, 41, 42, 43, 44, 45, 46, 47, 48, 49, 50, 51, 52, 53, 54, 55, 56, 57, 58, 59, 60, 61, 62, 63, 137, 138, 139, 140, 141, 142, 143, 144, 145, 146, 147, 148, 149, 150, 151, 152, 153, 154, 155] (by decide +kernel) (by decide +kernel)
set_option maxRecDepth 20000 in
theorem gL_turns_X10_count : GoodIn wsL_turns (wsV RL 76 RX10 yX10_count wsX10_count) := goodIn_app (goodIn_of _ (by decide +kernel)) ggL_turns_X10_count
set_option maxRecDepth 20000 in
theorem ggL_turns_X10_turn : GoodIn wsL_turns wsX10_turn := goodIn_r _ [67, 13, 6, 7, 10, 68, 69, 70, 4, 71, 8, 72, 73, 74, 75, 76, 77, 78, 79, 80, 81, 82, 83, 84, 85, 86, 87, 88, 89, 31, 90, 46, 91, 59, 33, 92, 93, 94, 95, 96, 97, 43, 44, 45, 98, 99, 100, 101, 102, 14, 15, 16, 17, 18, 19, 20, 21, 22, 23, 24, 25, 26, 27, 28, 29, 30, 32, 34, 35, 36, 37, 38, 39, 40, 41, 42, 47, 48, 49, 50, 51, 52, 53, 54, 55, 56, 57, 58, 137, 138, 139, 140, 141, 142, 143, 144, 145, 146, 147, 148, 149, 150, 151, 152, 153, 154, 155] (by decide +kernel) (by decide +kernel)
set_option maxRecDepth 20000 in
theorem gL_turns_X10_turn : GoodIn wsL_turns (wsV RL 63 RX10 yX10_turn wsX10_turn) := goodIn_app (goodIn_of _ (by decide +kernel)) ggL_turns_X10_turn
set_option maxRecDepth 20000 in
theorem ggL_turns_X10_of : GoodIn wsL_turns wsX10_of := goodIn_r _ [106, 13, 6, 7, 68, 69, 70, 4, 71, 8, 72, 73, 74, 107, 43, 44, 31, 45, 46, 137, 138, 139, 140, 141, 142, 143, 144, 145, 146, 147, 148, 149, 150, 151] (by decide +kernel) (by decide +kernel)
set_option maxRecDepth 20000 in
theorem gL_turns_X10_of : GoodIn wsL_turns (wsV RL 79 RX10 yX10_of wsX10_of) := goodIn_app (goodIn_of _ (by decide +kernel)) ggL_turns_X10_of
set_option maxRecDepth 20000 in
theorem ggL_turns_L_is : GoodIn wsL_turns wsL_is := goodIn_r _ [111, 112, 1, 2, 3, 4, 5, 6, 7, 8, 9, 10, 11, 12, 13, 14, 15, 16, 17, 18, 19, 20, 21, 22, 23, 24, 25, 26, 27, 28, 29, 30, 31, 32, 33, 34, 35, 36, 37, 38, 39, 40, 41, 42, 43, 44, 45, 46, 47, 48, 49, 50, 51, 52, 53, 54, 55, 56, 57, 58, 59, 60, 61, 62, 63, 103, 104, 105, 106, 68, 69, 70, 71, 72, 73, 74, 107, 113, 114, 115, 116, 117, 118, 119, 110, 120, 121, 122, 123, 124, 125, 126, 127, 128, 97, 129, 130, 131, 132, 133, 134, 135, 136, 137, 138, 139, 140, 141, 142, 143, 144, 145, 146, 147, 148, 149, 150, 151, 152, 153, 154, 155] (by decide +kernel) (by decide +kernel)
set_option maxRecDepth 20000 in
theorem gL_turns_L_is : GoodIn wsL_turns (va_wsS RL 121 yL_is wsL_is) := goodIn_app (goodIn_of _ (by decide +kernel)) ggL_turns_L_is
theorem dL_turns_0 : decode cL_turns 0 = .ok (.iconst 1, 1) := by decide +kernel
theorem dL_turns_1 : decode cL_turns 1 = .ok (.istore_n 2, 1) := by decide +kernel
theorem dL_turns_2 : decode cL_turns 2 = .ok (.aload_n 0, 1) := by decide +kernel
theorem dL_turns_3 : decode cL_turns 3 = .ok (.iconst 2, 1) := by decide +kernel
theorem dL_turns_4 : decode cL_turns 4 = .ok (.invokevirtual 76, 3) := by decide +kernel
theorem dL_turns_7 : decode cL_turns 7 = .ok (.istore_n 3, 1) := by decide +kernel
theorem dL_turns_8 : decode cL_turns 8 = .ok (.iconst 0, 1) := by decide +kernel
theorem dL_turns_9 : decode cL_turns 9 = .ok (.istore 4, 2) := by decide +kernel
theorem dL_turns_11 : decode cL_turns 11 = .ok (.iload 4, 2) := by decide +kernel
theorem dL_turns_13 : decode cL_turns 13 = .ok (.aload_n 1, 1) := by decide +kernel
theorem dL_turns_14 : decode cL_turns 14 = .ok (.iconst 0, 1) := by decide +kernel
theorem dL_turns_15 : decode cL_turns 15 = .ok (.iaload, 1) := by decide +kernel
theorem dL_turns_16 : decode cL_turns 16 = .ok (.if_icmp .ge 60, 3) := by decide +kernel
theorem dL_turns_19 : decode cL_turns 19 = .ok (.iload_n 2, 1) := by decide +kernel
theorem dL_turns_20 : decode cL_turns 20 = .ok (.ifCond .eq 56, 3) := by decide +kernel
theorem dL_turns_23 : decode cL_turns 23 = .ok (.aload_n 0, 1) := by decide +kernel
theorem dL_turns_24 : decode cL_turns 24 = .ok (.iload 4, 2) := by decide +kernel
theorem dL_turns_26 : decode cL_turns 26 = .ok (.invokevirtual 63, 3) := by decide +kernel
theorem dL_turns_29 : decode cL_turns 29 = .ok (.ifCond .lt 39, 3) := by decide +kernel
theorem dL_turns_32 : decode cL_turns 32 = .ok (.aload_n 0, 1) := by decide +kernel
theorem dL_turns_33 : decode cL_turns 33 = .ok (.iload 4, 2) := by decide +kernel
theorem dL_turns_35 : decode cL_turns 35 = .ok (.iconst 4, 1) := by decide +kernel
theorem dL_turns_36 : decode cL_turns 36 = .ok (.invokevirtual 79, 3) := by decide +kernel
theorem dL_turns_39 : decode cL_turns 39 = .ok (.iconst 0, 1) := by decide +kernel
theorem dL_turns_40 : decode cL_turns 40 = .ok (.aload_n 1, 1) := by decide +kernel
theorem dL_turns_41 : decode cL_turns 41 = .ok (.bipush 7, 2) := by decide +kernel
theorem dL_turns_43 : decode cL_turns 43 = .ok (.bipush 6, 2) := by decide +kernel
theorem dL_turns_45 : decode cL_turns 45 = .ok (.iload 4, 2) := by decide +kernel
theorem dL_turns_47 : decode cL_turns 47 = .ok (.imul, 1) := by decide +kernel
theorem dL_turns_48 : decode cL_turns 48 = .ok (.iadd, 1) := by decide +kernel
theorem dL_turns_49 : decode cL_turns 49 = .ok (.iaload, 1) := by decide +kernel
theorem dL_turns_50 : decode cL_turns 50 = .ok (.isub, 1) := by decide +kernel
theorem dL_turns_51 : decode cL_turns 51 = .ok (.if_icmp .ne 17, 3) := by decide +kernel
theorem dL_turns_54 : decode cL_turns 54 = .ok (.aload_n 0, 1) := by decide +kernel
theorem dL_turns_55 : decode cL_turns 55 = .ok (.iload 4, 2) := by decide +kernel
theorem dL_turns_57 : decode cL_turns 57 = .ok (.invokevirtual 63, 3) := by decide +kernel
theorem dL_turns_60 : decode cL_turns 60 = .ok (.iload_n 3, 1) := by decide +kernel
theorem dL_turns_61 : decode cL_turns 61 = .ok (.if_icmp .ne 7, 3) := by decide +kernel
theorem dL_turns_64 : decode cL_turns 64 = .ok (.iconst 1, 1) := by decide +kernel
theorem dL_turns_65 : decode cL_turns 65 = .ok (.goto 4, 3) := by decide +kernel
theorem dL_turns_68 : decode cL_turns 68 = .ok (.iconst 0, 1) := by decide +kernel
theorem dL_turns_69 : decode cL_turns 69 = .ok (.istore_n 2, 1) := by decide +kernel
theorem dL_turns_70 : decode cL_turns 70 = .ok (.iinc 4 1, 3) := by decide +kernel
theorem dL_turns_73 : decode cL_turns 73 = .ok (.goto (-62), 3) := by decide +kernel
theorem dL_turns_76 : decode cL_turns 76 = .ok (.iload_n 2, 1) := by decide +kernel
theorem dL_turns_77 : decode cL_turns 77 = .ok (.ifCond .eq 15, 3) := by decide +kernel
theorem dL_turns_80 : decode cL_turns 80 = .ok (.aload_n 0, 1) := by decide +kernel
theorem dL_turns_81 : decode cL_turns 81 = .ok (.aload_n 1, 1) := by decide +kernel
theorem dL_turns_82 : decode cL_turns 82 = .ok (.invokestatic 121, 3) := by decide +kernel
theorem dL_turns_85 : decode cL_turns 85 = .ok (.ifCond .eq 7, 3) := by decide +kernel
theorem dL_turns_88 : decode cL_turns 88 = .ok (.iconst 1, 1) := by decide +kernel
theorem dL_turns_89 : decode cL_turns 89 = .ok (.goto 4, 3) := by decide +kernel
theorem dL_turns_92 : decode cL_turns 92 = .ok (.iconst 0, 1) := by decide +kernel
theorem dL_turns_93 : decode cL_turns 93 = .ok (.ireturn, 1) := by decide +kernel
